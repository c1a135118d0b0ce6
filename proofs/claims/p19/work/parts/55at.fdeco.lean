theorem gg_f_X5_quantifier_X5_clear : GoodIn w_f_X5_quantifier w_f_X5_clear := goodIn_sub (fun w h => (List.mem_cons.mp h).elim (fun e => (List.mem_cons_of_mem _ (List.mem_append_left _ (List.mem_append_right _ (List.mem_append_right _ (List.mem_append_right _ (List.mem_append_right _ (List.mem_append_right _ (List.mem_append_right _ (List.mem_append_right _ (List.mem_append_right _ (List.mem_append_right _ (List.mem_append_right _ (List.mem_append_right _ (List.mem_append_right _ (List.mem_append_right _ (List.mem_append_right _ (List.mem_append_left _ (List.mem_cons.mpr (Or.inl e)))))))))))))))))))) (fun h => (List.mem_append.mp h).elim (fun h => (List.mem_cons_of_mem _ (List.mem_append_left _ (List.mem_append_right _ (List.mem_append_right _ (List.mem_append_right _ (List.mem_append_right _ (List.mem_append_right _ (List.mem_append_right _ (List.mem_append_right _ (List.mem_append_right _ (List.mem_append_right _ (List.mem_append_right _ (List.mem_append_right _ (List.mem_append_right _ (List.mem_append_right _ (List.mem_append_right _ (List.mem_append_left _ (List.mem_cons_of_mem _ h))))))))))))))))))) (fun h => List.mem_cons_of_mem _ (List.mem_append_right _ h)))) w_f_X5_clear_good
theorem g_f_X5_quantifier_X5_clear_V444 : GoodIn w_f_X5_quantifier (wsV RX5 444 RX5 yX5_clear w_f_X5_clear) := goodIn_app (nb_g4 (List.mem_cons_of_mem _ (List.mem_append_left _ (List.mem_append_left _ (List.mem_of_getElem? (i := 69) rfl)))) (List.mem_cons_of_mem _ (List.mem_append_left _ (List.mem_append_left _ (List.mem_of_getElem? (i := 70) rfl)))) (List.mem_cons_of_mem _ (List.mem_append_left _ (List.mem_append_left _ (List.mem_of_getElem? (i := 71) rfl)))) (List.mem_cons_of_mem _ (List.mem_append_left _ (List.mem_append_left _ (List.mem_of_getElem? (i := 17) rfl)))) (by decide +kernel)) gg_f_X5_quantifier_X5_clear
theorem gg_f_X5_quantifier_X5_exp : GoodIn w_f_X5_quantifier w_f_X5_exp := goodIn_sub (fun w h => (List.mem_cons.mp h).elim (fun e => e ▸ (List.mem_cons_of_mem _ (List.mem_append_left _ (List.mem_append_left _ (List.mem_of_getElem? (i := 1) rfl))))) (fun h => List.mem_cons_of_mem _ h)) w_f_X5_exp_good
theorem g_f_X5_quantifier_X5_exp_V90 : GoodIn w_f_X5_quantifier (wsV RX5 90 RX5 yX5_exp w_f_X5_exp) := goodIn_app (nb_g4 (List.mem_cons_of_mem _ (List.mem_append_left _ (List.mem_append_left _ (List.mem_of_getElem? (i := 18) rfl)))) (List.mem_cons_of_mem _ (List.mem_append_left _ (List.mem_append_left _ (List.mem_of_getElem? (i := 19) rfl)))) (List.mem_cons_of_mem _ (List.mem_append_left _ (List.mem_append_left _ (List.mem_of_getElem? (i := 20) rfl)))) (List.mem_cons_of_mem _ (List.mem_append_left _ (List.mem_append_left _ (List.mem_of_getElem? (i := 17) rfl)))) (by decide +kernel)) gg_f_X5_quantifier_X5_exp
theorem gg_f_X5_quantifier_X5_expect : GoodIn w_f_X5_quantifier w_f_X5_expect := goodIn_sub (fun w h => (List.mem_cons.mp h).elim (fun e => (List.mem_cons_of_mem _ (List.mem_append_left _ (List.mem_append_right _ (List.mem_append_right _ (List.mem_append_left _ (List.mem_cons.mpr (Or.inl e)))))))) (fun h => (List.mem_append.mp h).elim (fun h => (List.mem_cons_of_mem _ (List.mem_append_left _ (List.mem_append_right _ (List.mem_append_right _ (List.mem_append_left _ (List.mem_cons_of_mem _ h))))))) (fun h => List.mem_cons_of_mem _ (List.mem_append_right _ h)))) w_f_X5_expect_good
theorem g_f_X5_quantifier_X5_expect_V141 : GoodIn w_f_X5_quantifier (wsV RX5 141 RX5 yX5_expect w_f_X5_expect) := goodIn_app (nb_g4 (List.mem_cons_of_mem _ (List.mem_append_left _ (List.mem_append_left _ (List.mem_of_getElem? (i := 21) rfl)))) (List.mem_cons_of_mem _ (List.mem_append_left _ (List.mem_append_left _ (List.mem_of_getElem? (i := 22) rfl)))) (List.mem_cons_of_mem _ (List.mem_append_left _ (List.mem_append_left _ (List.mem_of_getElem? (i := 23) rfl)))) (List.mem_cons_of_mem _ (List.mem_append_left _ (List.mem_append_left _ (List.mem_of_getElem? (i := 17) rfl)))) (by decide +kernel)) gg_f_X5_quantifier_X5_expect
theorem gg_f_X5_quantifier_X5_iters : GoodIn w_f_X5_quantifier w_f_X5_iters := goodIn_sub (fun w h => (List.mem_cons.mp h).elim (fun e => e ▸ (List.mem_cons_of_mem _ (List.mem_append_left _ (List.mem_append_left _ (List.mem_of_getElem? (i := 5) rfl))))) (fun h => List.mem_cons_of_mem _ h)) w_f_X5_iters_good
theorem g_f_X5_quantifier_X5_iters_V258 : GoodIn w_f_X5_quantifier (wsV RX5 258 RX5 yX5_iters w_f_X5_iters) := goodIn_app (nb_g4 (List.mem_cons_of_mem _ (List.mem_append_left _ (List.mem_append_left _ (List.mem_of_getElem? (i := 64) rfl)))) (List.mem_cons_of_mem _ (List.mem_append_left _ (List.mem_append_left _ (List.mem_of_getElem? (i := 65) rfl)))) (List.mem_cons_of_mem _ (List.mem_append_left _ (List.mem_append_left _ (List.mem_of_getElem? (i := 66) rfl)))) (List.mem_cons_of_mem _ (List.mem_append_left _ (List.mem_append_left _ (List.mem_of_getElem? (i := 17) rfl)))) (by decide +kernel)) gg_f_X5_quantifier_X5_iters
theorem gg_f_X5_quantifier_X5_opens : GoodIn w_f_X5_quantifier w_f_X5_opens := goodIn_sub (fun w h => (List.mem_cons.mp h).elim (fun e => (List.mem_cons_of_mem _ (List.mem_append_left _ (List.mem_append_right _ (List.mem_append_left _ (List.mem_cons.mpr (Or.inl e))))))) (fun h => (List.mem_append.mp h).elim (fun h => (List.mem_cons_of_mem _ (List.mem_append_left _ (List.mem_append_right _ (List.mem_append_left _ (List.mem_cons_of_mem _ h)))))) (fun h => List.mem_cons_of_mem _ (List.mem_append_right _ h)))) w_f_X5_opens_good
theorem g_f_X5_quantifier_X5_opens_V173 : GoodIn w_f_X5_quantifier (wsV RX5 173 RX5 yX5_opens w_f_X5_opens) := goodIn_app (nb_g4 (List.mem_cons_of_mem _ (List.mem_append_left _ (List.mem_append_left _ (List.mem_of_getElem? (i := 14) rfl)))) (List.mem_cons_of_mem _ (List.mem_append_left _ (List.mem_append_left _ (List.mem_of_getElem? (i := 15) rfl)))) (List.mem_cons_of_mem _ (List.mem_append_left _ (List.mem_append_left _ (List.mem_of_getElem? (i := 16) rfl)))) (List.mem_cons_of_mem _ (List.mem_append_left _ (List.mem_append_left _ (List.mem_of_getElem? (i := 17) rfl)))) (by decide +kernel)) gg_f_X5_quantifier_X5_opens
theorem gg_f_X5_quantifier_X5_push : GoodIn w_f_X5_quantifier w_f_X5_push := goodIn_sub (fun w h => (List.mem_cons.mp h).elim (fun e => (List.mem_cons_of_mem _ (List.mem_append_left _ (List.mem_append_right _ (List.mem_append_right _ (List.mem_append_right _ (List.mem_append_right _ (List.mem_append_right _ (List.mem_append_right _ (List.mem_append_right _ (List.mem_append_right _ (List.mem_append_right _ (List.mem_append_right _ (List.mem_append_right _ (List.mem_append_right _ (List.mem_append_right _ (List.mem_append_right _ (List.mem_append_right _ (List.mem_append_right _ (List.mem_append_right _ (List.mem_append_right _ (List.mem_append_right _ (List.mem_append_right _ (List.mem_append_right _ (List.mem_append_right _ (List.mem_append_right _ (List.mem_append_right _ (List.mem_append_right _ (List.mem_append_right _ (List.mem_append_left _ (List.mem_cons.mpr (Or.inl e)))))))))))))))))))))))))))))))) (fun h => (List.mem_append.mp h).elim (fun h => (List.mem_cons_of_mem _ (List.mem_append_left _ (List.mem_append_right _ (List.mem_append_right _ (List.mem_append_right _ (List.mem_append_right _ (List.mem_append_right _ (List.mem_append_right _ (List.mem_append_right _ (List.mem_append_right _ (List.mem_append_right _ (List.mem_append_right _ (List.mem_append_right _ (List.mem_append_right _ (List.mem_append_right _ (List.mem_append_right _ (List.mem_append_right _ (List.mem_append_right _ (List.mem_append_right _ (List.mem_append_right _ (List.mem_append_right _ (List.mem_append_right _ (List.mem_append_right _ (List.mem_append_right _ (List.mem_append_right _ (List.mem_append_right _ (List.mem_append_right _ (List.mem_append_right _ (List.mem_append_left _ (List.mem_cons_of_mem _ h))))))))))))))))))))))))))))))) (fun h => List.mem_cons_of_mem _ (List.mem_append_right _ h)))) w_f_X5_push_good
theorem g_f_X5_quantifier_X5_push_V199 : GoodIn w_f_X5_quantifier (wsV RX5 199 RX5 yX5_push w_f_X5_push) := goodIn_app (nb_g4 (List.mem_cons_of_mem _ (List.mem_append_left _ (List.mem_append_left _ (List.mem_of_getElem? (i := 140) rfl)))) (List.mem_cons_of_mem _ (List.mem_append_left _ (List.mem_append_left _ (List.mem_of_getElem? (i := 141) rfl)))) (List.mem_cons_of_mem _ (List.mem_append_left _ (List.mem_append_left _ (List.mem_of_getElem? (i := 142) rfl)))) (List.mem_cons_of_mem _ (List.mem_append_left _ (List.mem_append_left _ (List.mem_of_getElem? (i := 17) rfl)))) (by decide +kernel)) gg_f_X5_quantifier_X5_push
theorem gg_f_X5_quantifier_X7_emit__P : GoodIn w_f_X5_quantifier w_f_X7_emit__P := goodIn_sub (fun w h => (List.mem_cons.mp h).elim (fun e => (List.mem_cons_of_mem _ (List.mem_append_left _ (List.mem_append_right _ (List.mem_append_right _ (List.mem_append_right _ (List.mem_append_left _ (List.mem_cons.mpr (Or.inl e))))))))) (fun h => (List.mem_append.mp h).elim (fun h => (List.mem_cons_of_mem _ (List.mem_append_left _ (List.mem_append_right _ (List.mem_append_right _ (List.mem_append_right _ (List.mem_append_left _ (List.mem_cons_of_mem _ h)))))))) (fun h => List.mem_cons_of_mem _ (List.mem_append_right _ h)))) w_f_X7_emit__P_good
theorem g_f_X5_quantifier_X7_emit__P_V66 : GoodIn w_f_X5_quantifier (wsV RX5 66 RX7 yX7_emit w_f_X7_emit__P) := goodIn_app (nb_g4 (List.mem_cons_of_mem _ (List.mem_append_left _ (List.mem_append_left _ (List.mem_of_getElem? (i := 25) rfl)))) (List.mem_cons_of_mem _ (List.mem_append_left _ (List.mem_append_left _ (List.mem_of_getElem? (i := 26) rfl)))) (List.mem_cons_of_mem _ (List.mem_append_left _ (List.mem_append_left _ (List.mem_of_getElem? (i := 27) rfl)))) (List.mem_cons_of_mem _ (List.mem_append_left _ (List.mem_append_left _ (List.mem_of_getElem? (i := 28) rfl)))) (by decide +kernel)) gg_f_X5_quantifier_X7_emit__P
theorem gg_f_X5_quantifier_X11_truth : GoodIn w_f_X5_quantifier w_y_X11_truth := goodIn_sub (fun w h => (List.mem_cons.mp h).elim (fun e => (List.mem_cons_of_mem _ (List.mem_append_left _ (List.mem_append_right _ (List.mem_append_right _ (List.mem_append_right _ (List.mem_append_right _ (List.mem_append_right _ (List.mem_append_right _ (List.mem_append_right _ (List.mem_append_right _ (List.mem_append_right _ (List.mem_append_right _ (List.mem_append_right _ (List.mem_append_right _ (List.mem_append_right _ (List.mem_append_right _ (List.mem_append_right _ (List.mem_append_right _ (List.mem_append_right _ (List.mem_append_right _ (List.mem_append_right _ (List.mem_append_right _ (List.mem_append_right _ (List.mem_append_right _ (List.mem_append_right _ (List.mem_append_right _ (List.mem_append_right _ (List.mem_append_right _ (List.mem_append_right _ (List.mem_append_left _ (List.mem_cons.mpr (Or.inl e))))))))))))))))))))))))))))))))) (fun h => (List.mem_append.mp h).elim (fun h => (List.mem_cons_of_mem _ (List.mem_append_left _ (List.mem_append_right _ (List.mem_append_right _ (List.mem_append_right _ (List.mem_append_right _ (List.mem_append_right _ (List.mem_append_right _ (List.mem_append_right _ (List.mem_append_right _ (List.mem_append_right _ (List.mem_append_right _ (List.mem_append_right _ (List.mem_append_right _ (List.mem_append_right _ (List.mem_append_right _ (List.mem_append_right _ (List.mem_append_right _ (List.mem_append_right _ (List.mem_append_right _ (List.mem_append_right _ (List.mem_append_right _ (List.mem_append_right _ (List.mem_append_right _ (List.mem_append_right _ (List.mem_append_right _ (List.mem_append_right _ (List.mem_append_right _ (List.mem_append_right _ (List.mem_append_left _ (List.mem_cons_of_mem _ h)))))))))))))))))))))))))))))))) (fun h => List.mem_cons_of_mem _ (List.mem_append_right _ h)))) w_y_X11_truth_good
theorem g_y_X5_quantifier_X11_truth_SN390 : GoodIn w_f_X5_quantifier w_y_X11_truth := gg_f_X5_quantifier_X11_truth
theorem gg_f_X5_quantifier_X7_aim__P : GoodIn w_f_X5_quantifier w_y_X7_aim__P := goodIn_sub (fun w h => (List.mem_cons.mp h).elim (fun e => (List.mem_cons_of_mem _ (List.mem_append_left _ (List.mem_append_right _ (List.mem_append_right _ (List.mem_append_right _ (List.mem_append_right _ (List.mem_append_left _ (List.mem_cons.mpr (Or.inl e)))))))))) (fun h => (List.mem_append.mp h).elim (fun h => (List.mem_cons_of_mem _ (List.mem_append_left _ (List.mem_append_right _ (List.mem_append_right _ (List.mem_append_right _ (List.mem_append_right _ (List.mem_append_left _ (List.mem_cons_of_mem _ h))))))))) (fun h => List.mem_cons_of_mem _ (List.mem_append_right _ h)))) w_y_X7_aim__P_good
theorem g_y_X5_quantifier_X7_aim__P_V240 : GoodIn w_f_X5_quantifier (wsV RX5 240 RX7 yX7_aim w_y_X7_aim__P) := goodIn_app (nb_g4 (List.mem_cons_of_mem _ (List.mem_append_left _ (List.mem_append_left _ (List.mem_of_getElem? (i := 29) rfl)))) (List.mem_cons_of_mem _ (List.mem_append_left _ (List.mem_append_left _ (List.mem_of_getElem? (i := 30) rfl)))) (List.mem_cons_of_mem _ (List.mem_append_left _ (List.mem_append_left _ (List.mem_of_getElem? (i := 31) rfl)))) (List.mem_cons_of_mem _ (List.mem_append_left _ (List.mem_append_left _ (List.mem_of_getElem? (i := 28) rfl)))) (by decide +kernel)) gg_f_X5_quantifier_X7_aim__P
set_option maxHeartbeats 40000000 in
set_option maxRecDepth 100000 in
theorem c_t_X5_quantifier (l : Launch) (hl0 : l.stackTraces = false) (dC : Nat → ClassId) (dI : Nat → Nat → Nat) (cy : Nat → ClassId) (ek a : Nat → Nat) (k0 : Nat) (IH : ∀ j : Nat, j < k0 → P_F2 l dC dI cy ek a j) (d : Nat) (L0 : LV) (σ0 : CS) (r0 : RS) (h0 : f_F2 k0 d 11 0 L0 σ0 = some r0) (z : Nat → Nat) (sz : Nat) : vx_Met l yX5_quantifier w_f_X5_quantifier ({ frames := 9 + d, cells := r0.2.2.1, slots := r0.2.2.2, locals := 173 + 33 * d }) (va_Pc [.ref (a 40)] (nInF (dC, dI) cy ek sz (vC cy a z σ0))) (xV dC dI cy a (va_A (vC cy a z σ0) sz) [41, 43, 51] z r0) (xX dC dI cy a (va_A (vC cy a z σ0) sz) [41, 43, 51] z r0) r0.2.2.1 r0.2.2.2 (va_A (vC cy a z σ0) sz) := by
  refine vx_ofW (cc := cX5_quantifier) (maxL := 7) (ret := none) (by decide) rfl ?_
  intro p e s m args below meth c s₁ B hml hno hv
  obtain ⟨rfl, ⟨⟨hsz, hP, hK, hD0, hG⟩, hE⟩, hT⟩ := hv
  have hx := B.exec
  have hb := B.bytes
  have hr := B.returns
  have hts := atoms_spec (ws := w_f_X5_quantifier) B.pre
  have hown : s.vm.findClass RX5 = some m.cls := findClass_of_methodNamed B.named
  have hlocks := B.notSynchronized
  subst hsz
  have hD := hD0.self (sz := s.heap.size)
  generalize hAe : va_A (vC cy a z σ0) s.heap.size = A at hD hE hT ⊢
  have hA : ∀ q : Nat, s.heap.size ≤ q → A q := fun q h => by rw [← hAe]; exact Or.inr h
  have hS : va_S A s.heap s.heap [] := va_S.rf
  have hl := lv_entry ([.ref (a 40)]) (n := 7) (Nat.le_of_ble_eq_true rfl)
  rw [lg_entry_eq]
  generalize (lg_sl ([.ref (a 40)]) ++ List.replicate (7 - (lg_sl ([.ref (a 40)])).length) Slot.unset).toArray = ls at hl ⊢
  have hl : lv_has ls 7 [(0, .ref (a 40))] := hl
  generalize hmc : r0.2.2.1 = mc
  generalize hms : r0.2.2.2 = ms
  have blk : ∀ k : Nat, k ≤ k0 → (bX p l e (headSpec w_f_X5_quantifier ({ frames := 9 + d, cells := mc, slots := ms, locals := 173 + 33 * d })).room s m #[.ref (a 40)] below meth c dC dI cy a A (fun r => vx_MQ below (xV dC dI cy a A [41, 43, 51] z r) (xX dC dI cy a A [41, 43, 51] z r) #[.ref (a 40)] s mc ms A) [41, 43, 51] z mc ms 7 (f_F2 k d 11 0) (fun z L => [(0, .ref (a 40))]) 0 (fun z L => [])) ∧ (bX p l e (headSpec w_f_X5_quantifier ({ frames := 9 + d, cells := mc, slots := ms, locals := 173 + 33 * d })).room s m #[.ref (a 40)] below meth c dC dI cy a A (fun r => vx_MQ below (xV dC dI cy a A [41, 43, 51] z r) (xX dC dI cy a A [41, 43, 51] z r) #[.ref (a 40)] s mc ms A) [41, 43, 51] z mc ms 7 (f_F2 k d 11 1) (fun z L => [(0, .ref (a 40))]) 16 (fun z L => [])) ∧ (bX p l e (headSpec w_f_X5_quantifier ({ frames := 9 + d, cells := mc, slots := ms, locals := 173 + 33 * d })).room s m #[.ref (a 40)] below meth c dC dI cy a A (fun r => vx_MQ below (xV dC dI cy a A [41, 43, 51] z r) (xX dC dI cy a A [41, 43, 51] z r) #[.ref (a 40)] s mc ms A) [41, 43, 51] z mc ms 7 (f_F2 k d 11 2) (fun z L => [(0, .ref (a 40))]) 17 (fun z L => [.int (L.1 100)])) ∧ (bX p l e (headSpec w_f_X5_quantifier ({ frames := 9 + d, cells := mc, slots := ms, locals := 173 + 33 * d })).room s m #[.ref (a 40)] below meth c dC dI cy a A (fun r => vx_MQ below (xV dC dI cy a A [41, 43, 51] z r) (xX dC dI cy a A [41, 43, 51] z r) #[.ref (a 40)] s mc ms A) [41, 43, 51] z mc ms 7 (f_F2 k d 11 3) (fun z L => [(0, .ref (a 40)), (1, .int (L.1 1)), (2, .int (L.1 2)), (3, .int (L.1 3)), (4, .int (L.1 4)), (5, .int (L.1 5))]) 92 (fun z L => [.ref (a (pA (L.2.2.1 100))), .ref (a (pA (L.2.2.1 101)))])) ∧ (bX p l e (headSpec w_f_X5_quantifier ({ frames := 9 + d, cells := mc, slots := ms, locals := 173 + 33 * d })).room s m #[.ref (a 40)] below meth c dC dI cy a A (fun r => vx_MQ below (xV dC dI cy a A [41, 43, 51] z r) (xX dC dI cy a A [41, 43, 51] z r) #[.ref (a 40)] s mc ms A) [41, 43, 51] z mc ms 7 (f_F2 k d 11 4) (fun z L => [(0, .ref (a 40)), (1, .int (L.1 1)), (2, .int (L.1 2)), (3, .int (L.1 3)), (4, .int (L.1 4)), (5, .int (L.1 5))]) 93 (fun z L => [.int (L.1 100), .ref (a (pA (L.2.2.1 101))), .ref (a (pA (L.2.2.1 102)))])) ∧ (bX p l e (headSpec w_f_X5_quantifier ({ frames := 9 + d, cells := mc, slots := ms, locals := 173 + 33 * d })).room s m #[.ref (a 40)] below meth c dC dI cy a A (fun r => vx_MQ below (xV dC dI cy a A [41, 43, 51] z r) (xX dC dI cy a A [41, 43, 51] z r) #[.ref (a 40)] s mc ms A) [41, 43, 51] z mc ms 7 (f_F2 k d 11 5) (fun z L => [(0, .ref (a 40)), (2, .int (L.1 2)), (3, .int (L.1 3)), (6, .int (L.1 6))]) 152 (fun z L => [.ref (a 40)])) ∧ (bX p l e (headSpec w_f_X5_quantifier ({ frames := 9 + d, cells := mc, slots := ms, locals := 173 + 33 * d })).room s m #[.ref (a 40)] below meth c dC dI cy a A (fun r => vx_MQ below (xV dC dI cy a A [41, 43, 51] z r) (xX dC dI cy a A [41, 43, 51] z r) #[.ref (a 40)] s mc ms A) [41, 43, 51] z mc ms 7 (f_F2 k d 11 6) (fun z L => [(0, .ref (a 40)), (2, .int (L.1 2)), (3, .int (L.1 3)), (6, .int (L.1 6))]) 153 (fun z L => [.int (L.1 100), .ref (a 40)])) := by
    intro k
    induction k with
    | zero => exact fun _ => ⟨fun z c1 c2 L σ r h => (by cases h), fun z c1 c2 L σ r h => (by cases h), fun z c1 c2 L σ r h => (by cases h), fun z c1 c2 L σ r h => (by cases h), fun z c1 c2 L σ r h => (by cases h), fun z c1 c2 L σ r h => (by cases h), fun z c1 c2 L σ r h => (by cases h)⟩
    | succ k ih =>
      intro hk
      replace ih := ih (by omega)
      refine ⟨?_, ?_, ?_, ?_, ?_, ?_, ?_⟩
      · intro z cells slots L σ r h hzk hc hs H locs ls hP hD hS hl
        rw [f_F2_11, t_X5_quantifier_0] at h
        refine lv_aload_n hx hb dX5_quantifier_0 rfl (lv_at hl 0 rfl) ?_
        refine hg_40_0 hx hb hts in_f_X5_quantifier_X5 hown hK hP (hts _ (List.mem_cons_of_mem _ (List.mem_append_left _ (List.mem_append_left _ (List.mem_of_getElem? (i := 33) rfl))))) dX5_quantifier_1 ?_
        refine hg_37_2n hx hb hts in_f_X5_quantifier_X2 hown hK hP (va_Nw.use rfl (hG.1 _ (List.mem_of_getElem? (i := 52) rfl))) dX5_quantifier_4 ?_
        refine lv_bipush (v := 69) hx hb dX5_quantifier_7 (by decide) ?_
        refine lv_icmp_ne (tgt := 16) hx hb dX5_quantifier_9 (by decide) (fun c1 => ?_) (fun c1 => ?_)
        · rw [if_neg c1] at h
          exact ih.2.1 z _ _ L σ _ h hzk hc hs H locs ls hP hD hS (lv_sub hl [0] rfl)
        · rw [if_pos c1] at h
          refine lv_iconst (v := 1) hx hb dX5_quantifier_12 (by decide) ?_
          refine lv_goto (tgt := 17) hx hb dX5_quantifier_13 (by decide) ?_
          exact ih.2.2.1 z _ _ (lI L 100 1) σ _ h hzk hc hs H locs ls hP hD hS (lv_sub hl [0] rfl)
      · intro z cells slots L σ r h hzk hc hs H locs ls hP hD hS hl
        rw [f_F2_11, t_X5_quantifier_1] at h
        refine lv_iconst (v := 0) hx hb dX5_quantifier_16 (by decide) ?_
        exact ih.2.2.1 z _ _ (lI L 100 0) σ _ h hzk hc hs H locs ls hP hD hS (lv_sub hl [0] rfl)
      · intro z cells slots L σ r h hzk hc hs H locs ls hP hD hS hl
        rw [f_F2_11, t_X5_quantifier_2] at h
        refine lv_istore_n (lv' := [(1, .int (L.1 100)), (0, .ref (a 40))]) hx hb dX5_quantifier_17 rfl hl (by decide) rfl (fun ls hl => ?_)
        refine lv_aload_n hx hb dX5_quantifier_18 rfl (lv_at hl 1 rfl) ?_
        obtain ⟨r1, hc1, hle1, h9⟩ := ox_ex h
        clear h
        refine kx_v (vx_runV (As := []) (rest := []) ⟨hx, hb, hml, hown, hts⟩ (c_f_X5_opens l hl0 dC dI cy ek a k lZ σ r1 hc1 z H.size) (cwV 0 hts g_f_X5_quantifier_X5_opens_V173 rfl rfl rfl hd_f_X5_opens (by show 7 + 1 ≤ 9 + d ∧ 8 + (1 + 11) + 126 ≤ 173 + 33 * d; omega)) ⟨nb_blindF, va_recv hK hP (ci := 4) (q0 := 40) rfl rfl, (kx_pre hK hG hE hT hA hP hD hS)⟩ rfl rfl hl.1 rfl (lv_room (Nat.le_of_ble_eq_true rfl)) dX5_quantifier_19 ⟨Nat.le_trans (Nat.add_le_add_left hle1.1 _) (Nat.le_of_eq hc), Nat.le_trans (Nat.add_le_add_left hle1.2 _) (Nat.le_of_eq hs)⟩) hK hA hzk hP hD hS (by decide) hno hlocks ?_
        rcases h9 with ⟨h00, y1, hny1, hy⟩ | ⟨h00, hy⟩
        · subst hy
          have h := hny1
          refine Or.inl ⟨h00, fun u H locs hz1 hzk hP hD hS => ?_⟩
          obtain rfl := (zk_nil hz1).symm
          replace hc := (Nat.add_assoc _ _ _).trans hc
          replace hs := (Nat.add_assoc _ _ _).trans hs
          refine lv_aload_n hx hb dX5_quantifier_22 rfl (lv_at hl 1 rfl) ?_
          obtain ⟨b2, hb2, h⟩ := oP_ex h
          refine hgq_40_2 hx hb hts in_f_X5_quantifier_X5 hown hK hP (hts _ (List.mem_cons_of_mem _ (List.mem_append_left _ (List.mem_append_left _ (List.mem_of_getElem? (i := 24) rfl))))) hb2 dX5_quantifier_23 ?_
          refine hg_P_11n b2 hx hb hts in_f_X5_quantifier_X7 hown hK hP (va_Nw.use rfl (hG.1 _ (List.mem_of_getElem? (i := 82) rfl))) dX5_quantifier_26 ?_
          refine lv_istore_n (lv' := [(2, .int (r1.2.1.1 (fP b2 11))), (1, .int (L.1 100)), (0, .ref (a 40))]) hx hb dX5_quantifier_29 rfl hl (by decide) rfl (fun ls hl => ?_)
          refine lv_aload_n hx hb dX5_quantifier_30 rfl (lv_at hl 2 rfl) ?_
          obtain ⟨b3, hb3, h⟩ := oP_ex h
          refine hgq_40_2 hx hb hts in_f_X5_quantifier_X5 hown hK hP (hts _ (List.mem_cons_of_mem _ (List.mem_append_left _ (List.mem_append_left _ (List.mem_of_getElem? (i := 24) rfl))))) hb3 dX5_quantifier_31 ?_
          refine hg_P_19n b3 hx hb hts in_f_X5_quantifier_X7 hown hK hP (va_Nw.use rfl (hG.1 _ (List.mem_of_getElem? (i := 94) rfl))) dX5_quantifier_34 ?_
          refine lv_istore_n (lv' := [(3, .int (r1.2.1.1 (fP b3 19))), (2, .int (r1.2.1.1 (fP b2 11))), (1, .int (L.1 100)), (0, .ref (a 40))]) hx hb dX5_quantifier_37 rfl hl (by decide) rfl (fun ls hl => ?_)
          refine lv_aload_n hx hb dX5_quantifier_38 rfl (lv_at hl 3 rfl) ?_
          refine lv_iconst (v := 0) hx hb dX5_quantifier_39 (by decide) ?_
          obtain ⟨e4, he4, h⟩ := of_ex h
          obtain ⟨r4, hc4, hle4, h9⟩ := ox_ex h
          clear h
          refine kx_v (r := y1) (vx_runV (As := [.int 0]) (rest := []) ⟨hx, hb, hml, hown, hts⟩ ((IH k (by omega)).2.2.2.2.2.1 e4 (lI lZ 1 0) r1.2.1 r4 hc4 z H.size) (cwV 1 hts g_f_X5_quantifier_X5_iters_V258 rfl rfl rfl hd_f_X5_iters (by show (9 + e4) + 1 ≤ 9 + d ∧ 8 + (14 + 11) + (173 + 33 * e4) ≤ 173 + 33 * d; omega)) ⟨nb_blindF, va_recv hK hP (ci := 4) (q0 := 40) rfl rfl, (kx_pre hK hG hE hT hA hP hD hS)⟩ rfl rfl hl.1 rfl (lv_room (Nat.le_of_ble_eq_true rfl)) dX5_quantifier_40 ⟨Nat.le_trans (Nat.add_le_add_left hle4.1 _) (Nat.le_of_eq hc), Nat.le_trans (Nat.add_le_add_left hle4.2 _) (Nat.le_of_eq hs)⟩) hK hA hzk hP hD hS (by decide) hno hlocks ?_
          rcases h9 with ⟨h00, y4, hny4, hy⟩ | ⟨h00, hy⟩
          · subst hy
            have h := hny4
            refine Or.inl ⟨h00, fun z H locs hz4 hzk hP hD hS => ?_⟩
            replace hc := (Nat.add_assoc _ _ _).trans hc
            replace hs := (Nat.add_assoc _ _ _).trans hs
            refine lv_aload_n hx hb dX5_quantifier_43 rfl (lv_at hl 3 rfl) ?_
            refine hg_40_14 hx hb hts in_f_X5_quantifier_X5 hown hK hP (hts _ (List.mem_cons_of_mem _ (List.mem_append_left _ (List.mem_append_left _ (List.mem_of_getElem? (i := 67) rfl))))) dX5_quantifier_44 ?_
            refine lv_istore (lv' := [(4, .int (r4.2.1.1 4014)), (3, .int (r1.2.1.1 (fP b3 19))), (2, .int (r1.2.1.1 (fP b2 11))), (1, .int (L.1 100)), (0, .ref (a 40))]) hx hb dX5_quantifier_47 hl (by decide) rfl (fun ls hl => ?_)
            refine lv_aload_n hx hb dX5_quantifier_49 rfl (lv_at hl 4 rfl) ?_
            refine hg_40_15 hx hb hts in_f_X5_quantifier_X5 hown hK hP (hts _ (List.mem_cons_of_mem _ (List.mem_append_left _ (List.mem_append_left _ (List.mem_of_getElem? (i := 68) rfl))))) dX5_quantifier_50 ?_
            refine lv_istore (lv' := [(5, .int (r4.2.1.1 4015)), (4, .int (r4.2.1.1 4014)), (3, .int (r1.2.1.1 (fP b3 19))), (2, .int (r1.2.1.1 (fP b2 11))), (1, .int (L.1 100)), (0, .ref (a 40))]) hx hb dX5_quantifier_53 hl (by decide) rfl (fun ls hl => ?_)
            refine lv_aload_n hx hb dX5_quantifier_55 rfl (lv_at hl 5 rfl) ?_
            refine lv_bipush (v := 19) hx hb dX5_quantifier_56 (by decide) ?_
            obtain ⟨r5, hc5, hle5, h9⟩ := ox_ex h
            clear h
            refine kx_v (r := y4) (vx_runV (As := [.int 19]) (rest := []) ⟨hx, hb, hml, hown, hts⟩ (c_f_X5_expect l hl0 dC dI cy ek a k (lI lZ 1 19) r4.2.1 r5 hc5 z H.size) (cwV 1 hts g_f_X5_quantifier_X5_expect_V141 rfl rfl rfl hd_f_X5_expect (by show 7 + 1 ≤ 9 + d ∧ 8 + (2 + 11) + 126 ≤ 173 + 33 * d; omega)) ⟨nb_blindF, va_recv hK hP (ci := 4) (q0 := 40) rfl rfl, (kx_pre hK hG hE hT hA hP hD hS)⟩ rfl rfl hl.1 rfl (lv_room (Nat.le_of_ble_eq_true rfl)) dX5_quantifier_58 ⟨Nat.le_trans (Nat.add_le_add_left hle5.1 _) (Nat.le_of_eq hc), Nat.le_trans (Nat.add_le_add_left hle5.2 _) (Nat.le_of_eq hs)⟩) hK hA hzk hP hD hS (by decide) hno hlocks ?_
            rcases h9 with ⟨h00, y5, hny5, hy⟩ | ⟨h00, hy⟩
            · subst hy
              have h := hny5
              refine Or.inl ⟨h00, fun u H locs hz5 hzk hP hD hS => ?_⟩
              obtain rfl := (zk_nil hz5).symm
              replace hc := (Nat.add_assoc _ _ _).trans hc
              replace hs := (Nat.add_assoc _ _ _).trans hs
              refine lv_aload_n hx hb dX5_quantifier_61 rfl (lv_at hl 5 rfl) ?_
              refine lv_iconst (v := 0) hx hb dX5_quantifier_62 (by decide) ?_
              obtain ⟨e6, he6, h⟩ := of_ex h
              obtain ⟨r6, hc6, hle6, h9⟩ := ox_ex h
              clear h
              refine kx_v (r := y5) (vx_runV (As := [.int 0]) (rest := []) ⟨hx, hb, hml, hown, hts⟩ ((IH k (by omega)).2.1 e6 (lI lZ 1 0) r5.2.1 r6 hc6 z H.size) (cwV 1 hts g_f_X5_quantifier_X5_exp_V90 rfl rfl rfl hd_f_X5_exp (by show (9 + e6) + 1 ≤ 9 + d ∧ 8 + (8 + 11) + (173 + 33 * e6) ≤ 173 + 33 * d; omega)) ⟨nb_blindF, va_recv hK hP (ci := 4) (q0 := 40) rfl rfl, (kx_pre hK hG hE hT hA hP hD hS)⟩ rfl rfl hl.1 rfl (lv_room (Nat.le_of_ble_eq_true rfl)) dX5_quantifier_63 ⟨Nat.le_trans (Nat.add_le_add_left hle6.1 _) (Nat.le_of_eq hc), Nat.le_trans (Nat.add_le_add_left hle6.2 _) (Nat.le_of_eq hs)⟩) hK hA hzk hP hD hS (by decide) hno hlocks ?_
              rcases h9 with ⟨h00, y6, hny6, hy⟩ | ⟨h00, hy⟩
              · subst hy
                have h := hny6
                refine Or.inl ⟨h00, fun z H locs hz6 hzk hP hD hS => ?_⟩
                replace hc := (Nat.add_assoc _ _ _).trans hc
                replace hs := (Nat.add_assoc _ _ _).trans hs
                refine lv_aload_n hx hb dX5_quantifier_66 rfl (lv_at hl 5 rfl) ?_
                refine lv_dup hx hb dX5_quantifier_67 rfl ?_
                refine hg_40_5 hx hb hts in_f_X5_quantifier_X5 hown hK hP (hts _ (List.mem_cons_of_mem _ (List.mem_append_left _ (List.mem_append_left _ (List.mem_of_getElem? (i := 72) rfl))))) dX5_quantifier_68 ?_
                refine lv_iconst (v := 1) hx hb dX5_quantifier_71 (by decide) ?_
                refine lv_isub hx hb dX5_quantifier_72 ?_
                refine hp_40_5 hx hb hts in_f_X5_quantifier_X5 hown hK hP hD hS (hts _ (List.mem_cons_of_mem _ (List.mem_append_left _ (List.mem_append_left _ (List.mem_of_getElem? (i := 72) rfl))))) dX5_quantifier_73 (fun H locs hP hD hS => ?_)
                refine lv_aload_n hx hb dX5_quantifier_76 rfl (lv_at hl 5 rfl) ?_
                obtain ⟨b7, hb7, h⟩ := oP_ex h
                refine hgq_40_2 hx hb hts in_f_X5_quantifier_X5 hown hK hP (hts _ (List.mem_cons_of_mem _ (List.mem_append_left _ (List.mem_append_left _ (List.mem_of_getElem? (i := 24) rfl))))) hb7 dX5_quantifier_77 ?_
                refine lv_aload_n hx hb dX5_quantifier_80 rfl (lv_at hl 5 rfl) ?_
                obtain ⟨b8, hb8, h⟩ := oP_ex h
                refine hgq_40_2 hx hb hts in_f_X5_quantifier_X5 hown hK hP (hts _ (List.mem_cons_of_mem _ (List.mem_append_left _ (List.mem_append_left _ (List.mem_of_getElem? (i := 24) rfl))))) hb8 dX5_quantifier_81 ?_
                refine lv_iload_n hx hb dX5_quantifier_84 rfl (lv_at hl 4 rfl) ?_
                refine lv_if_eq (tgt := 92) hx hb dX5_quantifier_85 (by decide) (fun c9 => ?_) (fun c9 => ?_)
                · rw [if_pos c9] at h
                  exact ih.2.2.2.1 z _ _ (lB (lB (lI (lI (lI (lI (lI L 1 ((L.1 100))) 2 ((r1.2.1.1 (fP b2 11)))) 3 ((r1.2.1.1 (fP b3 19)))) 4 ((r4.2.1.1 4014))) 5 ((r4.2.1.1 4015))) 100 b8) 101 b7) (uI r6.2.1 4005 ((((r6.2.1.1 4005)) - 1))) _ h hzk hc hs H locs ls hP hD hS (lv_sub hl [5, 4, 3, 2, 1, 0] rfl)
                · rw [if_neg c9] at h
                  refine lv_iconst (v := 4) hx hb dX5_quantifier_88 (by decide) ?_
                  refine lv_goto (tgt := 93) hx hb dX5_quantifier_89 (by decide) ?_
                  exact ih.2.2.2.2.1 z _ _ (lB (lB (lI (lI (lI (lI (lI (lI L 1 ((L.1 100))) 2 ((r1.2.1.1 (fP b2 11)))) 3 ((r1.2.1.1 (fP b3 19)))) 4 ((r4.2.1.1 4014))) 5 ((r4.2.1.1 4015))) 100 4) 101 b8) 102 b7) (uI r6.2.1 4005 ((((r6.2.1.1 4005)) - 1))) _ h hzk hc hs H locs ls hP hD hS (lv_sub hl [5, 4, 3, 2, 1, 0] rfl)
              · subst hy
                exact Or.inr ⟨h00, rfl, hc, hs⟩
            · subst hy
              exact Or.inr ⟨h00, rfl, hc, hs⟩
          · subst hy
            exact Or.inr ⟨h00, rfl, hc, hs⟩
        · subst hy
          exact Or.inr ⟨h00, rfl, hc, hs⟩
      · intro z cells slots L σ r h hzk hc hs H locs ls hP hD hS hl
        rw [f_F2_11, t_X5_quantifier_3] at h
        refine lv_iconst (v := 5) hx hb dX5_quantifier_92 (by decide) ?_
        exact ih.2.2.2.2.1 z _ _ (lB (lB (lI L 100 5) 101 ((L.2.2.1 100))) 102 ((L.2.2.1 101))) σ _ h hzk hc hs H locs ls hP hD hS (lv_sub hl [0, 1, 2, 3, 4, 5] rfl)
      · intro z cells slots L σ r h hzk hc hs H locs ls hP hD hS hl
        rw [f_F2_11, t_X5_quantifier_4] at h
        refine lv_iconst (v := 0) hx hb dX5_quantifier_93 (by decide) ?_
        obtain ⟨r1, hc1, hle1, h9⟩ := ox_ex h
        clear h
        refine kx_i (vx_runV (As := [.int (L.1 100), .int 0]) (rest := [.ref (a (pA (L.2.2.1 102)))]) ⟨hx, hb, hml, hown, hts⟩ (c_f_X7_emit__P l hl0 dC dI cy ek a k (lI (lI (lB lZ 0 ((L.2.2.1 101))) 1 ((L.1 100))) 2 0) σ r1 hc1 z H.size) (cwV 2 hts g_f_X5_quantifier_X7_emit__P_V66 rfl rfl rfl hd_f_X7_emit__P (by show 7 + 1 ≤ 9 + d ∧ 8 + (3 + 11) + 121 ≤ 173 + 33 * d; omega)) ⟨nb_blindF, recvP ((L.2.2.1 101)) hK hP, (kx_pre hK hG hE hT hA hP hD hS)⟩ rfl rfl hl.1 rfl (lv_room (Nat.le_of_ble_eq_true rfl)) dX5_quantifier_94 ⟨Nat.le_trans (Nat.add_le_add_left hle1.1 _) (Nat.le_of_eq hc), Nat.le_trans (Nat.add_le_add_left hle1.2 _) (Nat.le_of_eq hs)⟩) hK hA hzk hP hD hS (by decide) hno hlocks ?_
        rcases h9 with ⟨h00, y1, hny1, hy⟩ | ⟨h00, hy⟩
        · subst hy
          have h := hny1
          refine Or.inl ⟨h00, fun z H locs hz1 hzk hP hD hS => ?_⟩
          replace hc := (Nat.add_assoc _ _ _).trans hc
          replace hs := (Nat.add_assoc _ _ _).trans hs
          refine lv_iload hx hb dX5_quantifier_97 (lv_at hl 5 rfl) ?_
          obtain ⟨r2, hc2, h⟩ := op_ex h
          refine kc_v (va_runV (As := [.int r1.1.2, .int (L.1 5)]) (rest := []) ⟨hx, hb, hml, hown, hts⟩ (c_y_X7_aim__P l dC dI cy a z k (lI (lI (lB lZ 0 ((L.2.2.1 102))) 1 r1.1.2) 2 ((L.1 5))) r1.2.1 r2 hc2 H.size) (cwV 2 hts g_y_X5_quantifier_X7_aim__P_V240 rfl rfl rfl hd_y_X7_aim__P (by show 0 + 1 ≤ 9 + d ∧ 8 + (3 + 11) + 0 ≤ 173 + 33 * d; omega)) ⟨nb_blind, recvP ((L.2.2.1 102)) hK hP, (kb_pre hK hG hP hD)⟩ rfl rfl hl.1 rfl (lv_room (Nat.le_of_ble_eq_true rfl)) dX5_quantifier_99 ⟨(Nat.le_trans (Nat.le_add_right _ _) (Nat.le_of_eq hc)), (Nat.le_trans (Nat.le_add_right _ _) (Nat.le_of_eq hs))⟩) hA hP hD hS (fun H locs hP hD hS => ?_)
          refine lv_aload_n hx hb dX5_quantifier_102 rfl (lv_at hl 0 rfl) ?_
          refine lv_iload_n hx hb dX5_quantifier_103 rfl (lv_at hl 1 rfl) ?_
          obtain ⟨r3, hc3, h⟩ := op_ex h
          refine kc_i (va_runSN (As := [.int (L.1 1)]) (rest := [.ref (a 40)]) ⟨hx, hb, hml, hown, hts⟩ (c_y_X11_truth l dC dI cy a z k (lI lZ 0 ((L.1 1))) r2.2 r3 hc3 H.size) ⟨va_cnB 1 hts g_y_X5_quantifier_X11_truth_SN390 rfl rfl rfl (hG.1 _ (List.mem_of_getElem? (i := 96) rfl)) (hts _ (List.mem_cons_of_mem _ (List.mem_append_left _ (List.mem_append_left _ (List.mem_of_getElem? (i := 143) rfl))))) hd_y_X11_truth (by show 0 + 1 ≤ 9 + d ∧ 8 + (1 + 11) + 0 ≤ 173 + 33 * d; omega), (hts _ (List.mem_cons_of_mem _ (List.mem_append_left _ (List.mem_append_left _ (List.mem_of_getElem? (i := 144) rfl))))), trivial⟩ ⟨nb_blind, (kb_pre hK hG hP hD)⟩ rfl rfl hl.1 rfl (lv_room (Nat.le_of_ble_eq_true rfl)) dX5_quantifier_104 ⟨(Nat.le_trans (Nat.le_add_right _ _) (Nat.le_of_eq hc)), (Nat.le_trans (Nat.le_add_right _ _) (Nat.le_of_eq hs))⟩) hA hP hD hS (fun H locs hP hD hS => ?_)
          obtain ⟨r4, hc4, hle4, h9⟩ := ox_ex h
          clear h
          refine kx_v (r := y1) (vx_runV (As := [.int r3.1]) (rest := []) ⟨hx, hb, hml, hown, hts⟩ (c_f_X5_push l hl0 dC dI cy ek a k (lI lZ 1 r3.1) r3.2 r4 hc4 z H.size) (cwV 1 hts g_f_X5_quantifier_X5_push_V199 rfl rfl rfl hd_f_X5_push (by show 8 + 1 ≤ 9 + d ∧ 8 + (2 + 11) + 143 ≤ 173 + 33 * d; omega)) ⟨nb_blindF, va_recv hK hP (ci := 4) (q0 := 40) rfl rfl, (kx_pre hK hG hE hT hA hP hD hS)⟩ rfl rfl hl.1 rfl (lv_room (Nat.le_of_ble_eq_true rfl)) dX5_quantifier_107 ⟨Nat.le_trans (Nat.add_le_add_left hle4.1 _) (Nat.le_of_eq hc), Nat.le_trans (Nat.add_le_add_left hle4.2 _) (Nat.le_of_eq hs)⟩) hK hA hzk hP hD hS (by decide) hno hlocks ?_
          rcases h9 with ⟨h00, y4, hny4, hy⟩ | ⟨h00, hy⟩
          · subst hy
            have h := hny4
            refine Or.inl ⟨h00, fun z H locs hz4 hzk hP hD hS => ?_⟩
            replace hc := (Nat.add_assoc _ _ _).trans hc
            replace hs := (Nat.add_assoc _ _ _).trans hs
            refine lv_aload_n hx hb dX5_quantifier_110 rfl (lv_at hl 0 rfl) ?_
            obtain ⟨b5, hb5, h⟩ := oP_ex h
            refine hgq_40_2 hx hb hts in_f_X5_quantifier_X5 hown hK hP (hts _ (List.mem_cons_of_mem _ (List.mem_append_left _ (List.mem_append_left _ (List.mem_of_getElem? (i := 24) rfl))))) hb5 dX5_quantifier_111 ?_
            refine lv_iconst (v := 3) hx hb dX5_quantifier_114 (by decide) ?_
            refine lv_iconst (v := 0) hx hb dX5_quantifier_115 (by decide) ?_
            obtain ⟨r6, hc6, hle6, h9⟩ := ox_ex h
            clear h
            refine kx_i (r := y4) (vx_runV (As := [.int 3, .int 0]) (rest := []) ⟨hx, hb, hml, hown, hts⟩ (c_f_X7_emit__P l hl0 dC dI cy ek a k (lI (lI (lB lZ 0 b5) 1 3) 2 0) r4.2.1 r6 hc6 z H.size) (cwV 2 hts g_f_X5_quantifier_X7_emit__P_V66 rfl rfl rfl hd_f_X7_emit__P (by show 7 + 1 ≤ 9 + d ∧ 8 + (3 + 11) + 121 ≤ 173 + 33 * d; omega)) ⟨nb_blindF, recvP b5 hK hP, (kx_pre hK hG hE hT hA hP hD hS)⟩ rfl rfl hl.1 rfl (lv_room (Nat.le_of_ble_eq_true rfl)) dX5_quantifier_116 ⟨Nat.le_trans (Nat.add_le_add_left hle6.1 _) (Nat.le_of_eq hc), Nat.le_trans (Nat.add_le_add_left hle6.2 _) (Nat.le_of_eq hs)⟩) hK hA hzk hP hD hS (by decide) hno hlocks ?_
            rcases h9 with ⟨h00, y6, hny6, hy⟩ | ⟨h00, hy⟩
            · subst hy
              have h := hny6
              refine Or.inl ⟨h00, fun z H locs hz6 hzk hP hD hS => ?_⟩
              replace hc := (Nat.add_assoc _ _ _).trans hc
              replace hs := (Nat.add_assoc _ _ _).trans hs
              refine lv_istore (lv' := [(6, .int r6.1.2), (0, .ref (a 40)), (1, .int (L.1 1)), (2, .int (L.1 2)), (3, .int (L.1 3)), (4, .int (L.1 4)), (5, .int (L.1 5))]) hx hb dX5_quantifier_119 hl (by decide) rfl (fun ls hl => ?_)
              refine lv_aload_n hx hb dX5_quantifier_121 rfl (lv_at hl 1 rfl) ?_
              obtain ⟨b7, hb7, h⟩ := oP_ex h
              refine hgq_40_2 hx hb hts in_f_X5_quantifier_X5 hown hK hP (hts _ (List.mem_cons_of_mem _ (List.mem_append_left _ (List.mem_append_left _ (List.mem_of_getElem? (i := 24) rfl))))) hb7 dX5_quantifier_122 ?_
              refine hg_P_0n b7 hx hb hts in_f_X5_quantifier_X7 hown hK hP (va_Nw.use rfl (hG.1 _ (List.mem_of_getElem? (i := 67) rfl))) dX5_quantifier_125 ?_
              refine lv_iload hx hb dX5_quantifier_128 (lv_at hl 5 rfl) ?_
              refine lv_iconst (v := 1) hx hb dX5_quantifier_130 (by decide) ?_
              refine lv_iadd hx hb dX5_quantifier_131 ?_
              refine lv_aload_n hx hb dX5_quantifier_132 rfl (lv_at hl 1 rfl) ?_
              obtain ⟨b8, hb8, h⟩ := oP_ex h
              refine hgq_40_2 hx hb hts in_f_X5_quantifier_X5 hown hK hP (hts _ (List.mem_cons_of_mem _ (List.mem_append_left _ (List.mem_append_left _ (List.mem_of_getElem? (i := 24) rfl))))) hb8 dX5_quantifier_133 ?_
              refine hg_P_1n b8 hx hb hts in_f_X5_quantifier_X7 hown hK hP (va_Nw.use rfl (hG.1 _ (List.mem_of_getElem? (i := 68) rfl))) dX5_quantifier_136 ?_
              refine lv_iload hx hb dX5_quantifier_139 (lv_at hl 5 rfl) ?_
              refine lv_isub hx hb dX5_quantifier_141 ?_
              obtain ⟨q9, h⟩ := kr_ite1 h
              refine hs_P0 ((sKd r6.2.1 b7)) hx hb hK hP hD hS q9 dX5_quantifier_142 (fun H locs hP hD hS => ?_)
              refine lv_aload_n hx hb dX5_quantifier_143 rfl (lv_at hl 1 rfl) ?_
              refine lv_iload_n hx hb dX5_quantifier_144 rfl (lv_at hl 2 rfl) ?_
              refine lv_if_ne (tgt := 152) hx hb dX5_quantifier_145 (by decide) (fun c10 => ?_) (fun c10 => ?_)
              · rw [if_neg c10] at h
                exact ih.2.2.2.2.2.1 z _ _ (lI L 6 r6.1.2) (uA r6.2.1 (pR0 ((sKd r6.2.1 b7))) ((((L.1 4)) + 1)).toNatClampNeg ((((r6.2.1.1 (fP b8 1))) - ((L.1 4))))) _ h hzk hc hs H locs ls hP hD hS (lv_sub hl [1, 3, 4, 0] rfl)
              · rw [if_pos c10] at h
                refine lv_iconst (v := 1) hx hb dX5_quantifier_148 (by decide) ?_
                refine lv_goto (tgt := 153) hx hb dX5_quantifier_149 (by decide) ?_
                exact ih.2.2.2.2.2.2 z _ _ (lI (lI L 6 r6.1.2) 100 1) (uA r6.2.1 (pR0 ((sKd r6.2.1 b7))) ((((L.1 4)) + 1)).toNatClampNeg ((((r6.2.1.1 (fP b8 1))) - ((L.1 4))))) _ h hzk hc hs H locs ls hP hD hS (lv_sub hl [1, 3, 4, 0] rfl)
            · subst hy
              exact Or.inr ⟨h00, rfl, hc, hs⟩
          · subst hy
            exact Or.inr ⟨h00, rfl, hc, hs⟩
        · subst hy
          exact Or.inr ⟨h00, rfl, hc, hs⟩
      · intro z cells slots L σ r h hzk hc hs H locs ls hP hD hS hl
        rw [f_F2_11, t_X5_quantifier_5] at h
        refine lv_iconst (v := 0) hx hb dX5_quantifier_152 (by decide) ?_
        exact ih.2.2.2.2.2.2 z _ _ (lI L 100 0) σ _ h hzk hc hs H locs ls hP hD hS (lv_sub hl [0, 1, 2, 3] rfl)
      · intro z cells slots L σ r h hzk hc hs H locs ls hP hD hS hl
        rw [f_F2_11, t_X5_quantifier_6] at h
        obtain ⟨r1, hc1, h⟩ := op_ex h
        refine kc_i (va_runSN (As := [.int (L.1 100)]) (rest := [.ref (a 40)]) ⟨hx, hb, hml, hown, hts⟩ (c_y_X11_truth l dC dI cy a z k (lI lZ 0 ((L.1 100))) σ r1 hc1 H.size) ⟨va_cnB 1 hts g_y_X5_quantifier_X11_truth_SN390 rfl rfl rfl (hG.1 _ (List.mem_of_getElem? (i := 96) rfl)) (hts _ (List.mem_cons_of_mem _ (List.mem_append_left _ (List.mem_append_left _ (List.mem_of_getElem? (i := 143) rfl))))) hd_y_X11_truth (by show 0 + 1 ≤ 9 + d ∧ 8 + (1 + 11) + 0 ≤ 173 + 33 * d; omega), (hts _ (List.mem_cons_of_mem _ (List.mem_append_left _ (List.mem_append_left _ (List.mem_of_getElem? (i := 144) rfl))))), trivial⟩ ⟨nb_blind, (kb_pre hK hG hP hD)⟩ rfl rfl hl.1 rfl (lv_room (Nat.le_of_ble_eq_true rfl)) dX5_quantifier_153 ⟨(Nat.le_trans (Nat.le_add_right _ _) (Nat.le_of_eq hc)), (Nat.le_trans (Nat.le_add_right _ _) (Nat.le_of_eq hs))⟩) hA hP hD hS (fun H locs hP hD hS => ?_)
        obtain ⟨r2, hc2, hle2, h9⟩ := ox_ex h
        clear h
        refine kx_v (vx_runV (As := [.int r1.1]) (rest := []) ⟨hx, hb, hml, hown, hts⟩ (c_f_X5_push l hl0 dC dI cy ek a k (lI lZ 1 r1.1) r1.2 r2 hc2 z H.size) (cwV 1 hts g_f_X5_quantifier_X5_push_V199 rfl rfl rfl hd_f_X5_push (by show 8 + 1 ≤ 9 + d ∧ 8 + (2 + 11) + 143 ≤ 173 + 33 * d; omega)) ⟨nb_blindF, va_recv hK hP (ci := 4) (q0 := 40) rfl rfl, (kx_pre hK hG hE hT hA hP hD hS)⟩ rfl rfl hl.1 rfl (lv_room (Nat.le_of_ble_eq_true rfl)) dX5_quantifier_156 ⟨Nat.le_trans (Nat.add_le_add_left hle2.1 _) (Nat.le_of_eq hc), Nat.le_trans (Nat.add_le_add_left hle2.2 _) (Nat.le_of_eq hs)⟩) hK hA hzk hP hD hS (by decide) hno hlocks ?_
        rcases h9 with ⟨h00, y2, hny2, hy⟩ | ⟨h00, hy⟩
        · subst hy
          have h := hny2
          refine Or.inl ⟨h00, fun z H locs hz2 hzk hP hD hS => ?_⟩
          replace hc := (Nat.add_assoc _ _ _).trans hc
          replace hs := (Nat.add_assoc _ _ _).trans hs
          refine lv_aload_n hx hb dX5_quantifier_159 rfl (lv_at hl 0 rfl) ?_
          obtain ⟨b3, hb3, h⟩ := oP_ex h
          refine hgq_40_2 hx hb hts in_f_X5_quantifier_X5 hown hK hP (hts _ (List.mem_cons_of_mem _ (List.mem_append_left _ (List.mem_append_left _ (List.mem_of_getElem? (i := 24) rfl))))) hb3 dX5_quantifier_160 ?_
          refine lv_iload hx hb dX5_quantifier_163 (lv_at hl 3 rfl) ?_
          refine lv_aload_n hx hb dX5_quantifier_165 rfl (lv_at hl 0 rfl) ?_
          obtain ⟨b4, hb4, h⟩ := oP_ex h
          refine hgq_40_2 hx hb hts in_f_X5_quantifier_X5 hown hK hP (hts _ (List.mem_cons_of_mem _ (List.mem_append_left _ (List.mem_append_left _ (List.mem_of_getElem? (i := 24) rfl))))) hb4 dX5_quantifier_166 ?_
          refine hg_P_1n b4 hx hb hts in_f_X5_quantifier_X7 hown hK hP (va_Nw.use rfl (hG.1 _ (List.mem_of_getElem? (i := 68) rfl))) dX5_quantifier_169 ?_
          obtain ⟨r5, hc5, h⟩ := op_ex h
          refine kc_v (va_runV (As := [.int (L.1 6), .int (r2.2.1.1 (fP b4 1))]) (rest := []) ⟨hx, hb, hml, hown, hts⟩ (c_y_X7_aim__P l dC dI cy a z k (lI (lI (lB lZ 0 b3) 1 ((L.1 6))) 2 ((r2.2.1.1 (fP b4 1)))) r2.2.1 r5 hc5 H.size) (cwV 2 hts g_y_X5_quantifier_X7_aim__P_V240 rfl rfl rfl hd_y_X7_aim__P (by show 0 + 1 ≤ 9 + d ∧ 8 + (3 + 11) + 0 ≤ 173 + 33 * d; omega)) ⟨nb_blind, recvP b3 hK hP, (kb_pre hK hG hP hD)⟩ rfl rfl hl.1 rfl (lv_room (Nat.le_of_ble_eq_true rfl)) dX5_quantifier_172 ⟨(Nat.le_trans (Nat.le_add_right _ _) (Nat.le_of_eq hc)), (Nat.le_trans (Nat.le_add_right _ _) (Nat.le_of_eq hs))⟩) hA hP hD hS (fun H locs hP hD hS => ?_)
          refine lv_aload_n hx hb dX5_quantifier_175 rfl (lv_at hl 0 rfl) ?_
          refine lv_iload_n hx hb dX5_quantifier_176 rfl (lv_at hl 2 rfl) ?_
          obtain ⟨r6, hc6, hle6, h9⟩ := ox_ex h
          clear h
          refine kx_v (r := y2) (vx_runV (As := [.int (L.1 3)]) (rest := []) ⟨hx, hb, hml, hown, hts⟩ (c_f_X5_clear l hl0 dC dI cy ek a k (lI lZ 1 ((L.1 3))) r5.2 r6 hc6 z H.size) (cwV 1 hts g_f_X5_quantifier_X5_clear_V444 rfl rfl rfl hd_f_X5_clear (by show 8 + 1 ≤ 9 + d ∧ 8 + (2 + 11) + 143 ≤ 173 + 33 * d; omega)) ⟨nb_blindF, va_recv hK hP (ci := 4) (q0 := 40) rfl rfl, (kx_pre hK hG hE hT hA hP hD hS)⟩ rfl rfl hl.1 rfl (lv_room (Nat.le_of_ble_eq_true rfl)) dX5_quantifier_177 ⟨Nat.le_trans (Nat.add_le_add_left hle6.1 _) (Nat.le_of_eq hc), Nat.le_trans (Nat.add_le_add_left hle6.2 _) (Nat.le_of_eq hs)⟩) hK hA hzk hP hD hS (by decide) hno hlocks ?_
          rcases h9 with ⟨h00, y6, hny6, hy⟩ | ⟨h00, hy⟩
          · subst hy
            have h := hny6
            refine Or.inl ⟨h00, fun z H locs hz6 hzk hP hD hS => ?_⟩
            replace hc := (Nat.add_assoc _ _ _).trans hc
            replace hs := (Nat.add_assoc _ _ _).trans hs
            refine lv_aload_n hx hb dX5_quantifier_180 rfl (lv_at hl 0 rfl) ?_
            obtain ⟨b7, hb7, h⟩ := oP_ex h
            refine hgq_40_2 hx hb hts in_f_X5_quantifier_X5 hown hK hP (hts _ (List.mem_cons_of_mem _ (List.mem_append_left _ (List.mem_append_left _ (List.mem_of_getElem? (i := 24) rfl))))) hb7 dX5_quantifier_181 ?_
            refine lv_bipush (v := 40) hx hb dX5_quantifier_184 (by decide) ?_
            refine lv_iconst (v := 0) hx hb dX5_quantifier_186 (by decide) ?_
            obtain ⟨r8, hc8, hle8, h9⟩ := ox_ex h
            clear h
            refine kx_i (r := y6) (vx_runV (As := [.int 40, .int 0]) (rest := []) ⟨hx, hb, hml, hown, hts⟩ (c_f_X7_emit__P l hl0 dC dI cy ek a k (lI (lI (lB lZ 0 b7) 1 40) 2 0) r6.2.1 r8 hc8 z H.size) (cwV 2 hts g_f_X5_quantifier_X7_emit__P_V66 rfl rfl rfl hd_f_X7_emit__P (by show 7 + 1 ≤ 9 + d ∧ 8 + (3 + 11) + 121 ≤ 173 + 33 * d; omega)) ⟨nb_blindF, recvP b7 hK hP, (kx_pre hK hG hE hT hA hP hD hS)⟩ rfl rfl hl.1 rfl (lv_room (Nat.le_of_ble_eq_true rfl)) dX5_quantifier_187 ⟨Nat.le_trans (Nat.add_le_add_left hle8.1 _) (Nat.le_of_eq hc), Nat.le_trans (Nat.add_le_add_left hle8.2 _) (Nat.le_of_eq hs)⟩) hK hA hzk hP hD hS (by decide) hno hlocks ?_
            rcases h9 with ⟨h00, y8, hny8, hy⟩ | ⟨h00, hy⟩
            · subst hy
              have h := hny8
              refine Or.inl ⟨h00, fun z H locs hz8 hzk hP hD hS => ?_⟩
              replace hc := (Nat.add_assoc _ _ _).trans hc
              replace hs := (Nat.add_assoc _ _ _).trans hs
              refine lv_pop hx hb dX5_quantifier_190 rfl ?_
              refine lv_aload_n hx hb dX5_quantifier_191 rfl (lv_at hl 0 rfl) ?_
              obtain ⟨b9, hb9, h⟩ := oP_ex h
              refine hgq_40_2 hx hb hts in_f_X5_quantifier_X5 hown hK hP (hts _ (List.mem_cons_of_mem _ (List.mem_append_left _ (List.mem_append_left _ (List.mem_of_getElem? (i := 24) rfl))))) hb9 dX5_quantifier_192 ?_
              refine lv_iload_n hx hb dX5_quantifier_195 rfl (lv_at hl 1 rfl) ?_
              refine hp_P_11n b9 hx hb hts in_f_X5_quantifier_X7 hown hK hP hD hS (va_Nw.use rfl (hG.1 _ (List.mem_of_getElem? (i := 82) rfl))) dX5_quantifier_196 (fun H locs hP hD hS => ?_)
              obtain rfl := Option.some.inj h
              subst hc
              subst hs
              exact xr_v hx hb hr hK hzk hP hD hS hlocks dX5_quantifier_199
            · subst hy
              exact Or.inr ⟨h00, rfl, hc, hs⟩
          · subst hy
            exact Or.inr ⟨h00, rfl, hc, hs⟩
        · subst hy
          exact Or.inr ⟨h00, rfl, hc, hs⟩
  exact (blk k0 (Nat.le_refl _)).1 z 0 0 L0 σ0 r0 h0 (zk_rf _ _) ((Nat.zero_add _).trans hmc) ((Nat.zero_add _).trans hms) s.heap [] ls hP hD hS hl
theorem gg_f_X5_row_X2_advance : GoodIn w_f_X5_row w_f_X2_advance := goodIn_sub (fun w h => (List.mem_cons.mp h).elim (fun e => (List.mem_cons_of_mem _ (List.mem_append_left _ (List.mem_append_right _ (List.mem_append_right _ (List.mem_append_right _ (List.mem_append_right _ (List.mem_append_right _ (List.mem_append_left _ (List.mem_cons.mpr (Or.inl e))))))))))) (fun h => (List.mem_append.mp h).elim (fun h => (List.mem_cons_of_mem _ (List.mem_append_left _ (List.mem_append_right _ (List.mem_append_right _ (List.mem_append_right _ (List.mem_append_right _ (List.mem_append_right _ (List.mem_append_left _ (List.mem_cons_of_mem _ h)))))))))) (fun h => List.mem_cons_of_mem _ (List.mem_append_right _ h)))) w_f_X2_advance_good
theorem g_f_X5_row_X2_advance_V30 : GoodIn w_f_X5_row (wsV RX5 30 RX2 yX2_advance w_f_X2_advance) := goodIn_app (nb_g4 (List.mem_cons_of_mem _ (List.mem_append_left _ (List.mem_append_left _ (List.mem_of_getElem? (i := 34) rfl)))) (List.mem_cons_of_mem _ (List.mem_append_left _ (List.mem_append_left _ (List.mem_of_getElem? (i := 35) rfl)))) (List.mem_cons_of_mem _ (List.mem_append_left _ (List.mem_append_left _ (List.mem_of_getElem? (i := 36) rfl)))) (List.mem_cons_of_mem _ (List.mem_append_left _ (List.mem_append_left _ (List.mem_of_getElem? (i := 37) rfl)))) (by decide +kernel)) gg_f_X5_row_X2_advance
theorem gg_f_X5_row_X5_closes : GoodIn w_f_X5_row w_f_X5_closes := goodIn_sub (fun w h => (List.mem_cons.mp h).elim (fun e => (List.mem_cons_of_mem _ (List.mem_append_left _ (List.mem_append_right _ (List.mem_append_right _ (List.mem_append_right _ (List.mem_append_right _ (List.mem_append_right _ (List.mem_append_right _ (List.mem_append_left _ (List.mem_cons.mpr (Or.inl e)))))))))))) (fun h => (List.mem_append.mp h).elim (fun h => (List.mem_cons_of_mem _ (List.mem_append_left _ (List.mem_append_right _ (List.mem_append_right _ (List.mem_append_right _ (List.mem_append_right _ (List.mem_append_right _ (List.mem_append_right _ (List.mem_append_left _ (List.mem_cons_of_mem _ h))))))))))) (fun h => List.mem_cons_of_mem _ (List.mem_append_right _ h)))) w_f_X5_closes_good
theorem g_f_X5_row_X5_closes_V186 : GoodIn w_f_X5_row (wsV RX5 186 RX5 yX5_closes w_f_X5_closes) := goodIn_app (nb_g4 (List.mem_cons_of_mem _ (List.mem_append_left _ (List.mem_append_left _ (List.mem_of_getElem? (i := 38) rfl)))) (List.mem_cons_of_mem _ (List.mem_append_left _ (List.mem_append_left _ (List.mem_of_getElem? (i := 39) rfl)))) (List.mem_cons_of_mem _ (List.mem_append_left _ (List.mem_append_left _ (List.mem_of_getElem? (i := 40) rfl)))) (List.mem_cons_of_mem _ (List.mem_append_left _ (List.mem_append_left _ (List.mem_of_getElem? (i := 17) rfl)))) (by decide +kernel)) gg_f_X5_row_X5_closes
theorem gg_f_X5_row_X5_exp : GoodIn w_f_X5_row w_f_X5_exp := goodIn_sub (fun w h => (List.mem_cons.mp h).elim (fun e => e ▸ (List.mem_cons_of_mem _ (List.mem_append_left _ (List.mem_append_left _ (List.mem_of_getElem? (i := 1) rfl))))) (fun h => List.mem_cons_of_mem _ h)) w_f_X5_exp_good
theorem g_f_X5_row_X5_exp_V90 : GoodIn w_f_X5_row (wsV RX5 90 RX5 yX5_exp w_f_X5_exp) := goodIn_app (nb_g4 (List.mem_cons_of_mem _ (List.mem_append_left _ (List.mem_append_left _ (List.mem_of_getElem? (i := 18) rfl)))) (List.mem_cons_of_mem _ (List.mem_append_left _ (List.mem_append_left _ (List.mem_of_getElem? (i := 19) rfl)))) (List.mem_cons_of_mem _ (List.mem_append_left _ (List.mem_append_left _ (List.mem_of_getElem? (i := 20) rfl)))) (List.mem_cons_of_mem _ (List.mem_append_left _ (List.mem_append_left _ (List.mem_of_getElem? (i := 17) rfl)))) (by decide +kernel)) gg_f_X5_row_X5_exp
theorem gg_f_X5_row_X5_former : GoodIn w_f_X5_row w_f_X5_former := goodIn_sub (fun w h => (List.mem_cons.mp h).elim (fun e => e ▸ (List.mem_cons_of_mem _ (List.mem_append_left _ (List.mem_append_left _ (List.mem_of_getElem? (i := 3) rfl))))) (fun h => List.mem_cons_of_mem _ h)) w_f_X5_former_good
theorem g_f_X5_row_X5_former_V438 : GoodIn w_f_X5_row (wsV RX5 438 RX5 yX5_former w_f_X5_former) := goodIn_app (nb_g4 (List.mem_cons_of_mem _ (List.mem_append_left _ (List.mem_append_left _ (List.mem_of_getElem? (i := 145) rfl)))) (List.mem_cons_of_mem _ (List.mem_append_left _ (List.mem_append_left _ (List.mem_of_getElem? (i := 146) rfl)))) (List.mem_cons_of_mem _ (List.mem_append_left _ (List.mem_append_left _ (List.mem_of_getElem? (i := 147) rfl)))) (List.mem_cons_of_mem _ (List.mem_append_left _ (List.mem_append_left _ (List.mem_of_getElem? (i := 17) rfl)))) (by decide +kernel)) gg_f_X5_row_X5_former
theorem gg_f_X5_row_X5_members : GoodIn w_f_X5_row w_f_X5_members := goodIn_sub (fun w h => (List.mem_cons.mp h).elim (fun e => e ▸ (List.mem_cons_of_mem _ (List.mem_append_left _ (List.mem_append_left _ (List.mem_of_getElem? (i := 6) rfl))))) (fun h => List.mem_cons_of_mem _ h)) w_f_X5_members_good
theorem g_f_X5_row_X5_members_V441 : GoodIn w_f_X5_row (wsV RX5 441 RX5 yX5_members w_f_X5_members) := goodIn_app (nb_g4 (List.mem_cons_of_mem _ (List.mem_append_left _ (List.mem_append_left _ (List.mem_of_getElem? (i := 148) rfl)))) (List.mem_cons_of_mem _ (List.mem_append_left _ (List.mem_append_left _ (List.mem_of_getElem? (i := 149) rfl)))) (List.mem_cons_of_mem _ (List.mem_append_left _ (List.mem_append_left _ (List.mem_of_getElem? (i := 150) rfl)))) (List.mem_cons_of_mem _ (List.mem_append_left _ (List.mem_append_left _ (List.mem_of_getElem? (i := 17) rfl)))) (by decide +kernel)) gg_f_X5_row_X5_members
theorem gg_f_X5_row_X5_opens : GoodIn w_f_X5_row w_f_X5_opens := goodIn_sub (fun w h => (List.mem_cons.mp h).elim (fun e => (List.mem_cons_of_mem _ (List.mem_append_left _ (List.mem_append_right _ (List.mem_append_left _ (List.mem_cons.mpr (Or.inl e))))))) (fun h => (List.mem_append.mp h).elim (fun h => (List.mem_cons_of_mem _ (List.mem_append_left _ (List.mem_append_right _ (List.mem_append_left _ (List.mem_cons_of_mem _ h)))))) (fun h => List.mem_cons_of_mem _ (List.mem_append_right _ h)))) w_f_X5_opens_good
theorem g_f_X5_row_X5_opens_V173 : GoodIn w_f_X5_row (wsV RX5 173 RX5 yX5_opens w_f_X5_opens) := goodIn_app (nb_g4 (List.mem_cons_of_mem _ (List.mem_append_left _ (List.mem_append_left _ (List.mem_of_getElem? (i := 14) rfl)))) (List.mem_cons_of_mem _ (List.mem_append_left _ (List.mem_append_left _ (List.mem_of_getElem? (i := 15) rfl)))) (List.mem_cons_of_mem _ (List.mem_append_left _ (List.mem_append_left _ (List.mem_of_getElem? (i := 16) rfl)))) (List.mem_cons_of_mem _ (List.mem_append_left _ (List.mem_append_left _ (List.mem_of_getElem? (i := 17) rfl)))) (by decide +kernel)) gg_f_X5_row_X5_opens
theorem gg_f_X5_row_X7_emit__P : GoodIn w_f_X5_row w_f_X7_emit__P := goodIn_sub (fun w h => (List.mem_cons.mp h).elim (fun e => (List.mem_cons_of_mem _ (List.mem_append_left _ (List.mem_append_right _ (List.mem_append_right _ (List.mem_append_right _ (List.mem_append_left _ (List.mem_cons.mpr (Or.inl e))))))))) (fun h => (List.mem_append.mp h).elim (fun h => (List.mem_cons_of_mem _ (List.mem_append_left _ (List.mem_append_right _ (List.mem_append_right _ (List.mem_append_right _ (List.mem_append_left _ (List.mem_cons_of_mem _ h)))))))) (fun h => List.mem_cons_of_mem _ (List.mem_append_right _ h)))) w_f_X7_emit__P_good
theorem g_f_X5_row_X7_emit__P_V66 : GoodIn w_f_X5_row (wsV RX5 66 RX7 yX7_emit w_f_X7_emit__P) := goodIn_app (nb_g4 (List.mem_cons_of_mem _ (List.mem_append_left _ (List.mem_append_left _ (List.mem_of_getElem? (i := 25) rfl)))) (List.mem_cons_of_mem _ (List.mem_append_left _ (List.mem_append_left _ (List.mem_of_getElem? (i := 26) rfl)))) (List.mem_cons_of_mem _ (List.mem_append_left _ (List.mem_append_left _ (List.mem_of_getElem? (i := 27) rfl)))) (List.mem_cons_of_mem _ (List.mem_append_left _ (List.mem_append_left _ (List.mem_of_getElem? (i := 28) rfl)))) (by decide +kernel)) gg_f_X5_row_X7_emit__P
set_option maxHeartbeats 40000000 in
set_option maxRecDepth 100000 in
theorem c_t_X5_row (l : Launch) (hl0 : l.stackTraces = false) (dC : Nat → ClassId) (dI : Nat → Nat → Nat) (cy : Nat → ClassId) (ek a : Nat → Nat) (k0 : Nat) (IH : ∀ j : Nat, j < k0 → P_F2 l dC dI cy ek a j) (d : Nat) (L0 : LV) (σ0 : CS) (r0 : RS) (h0 : f_F2 k0 d 12 0 L0 σ0 = some r0) (z : Nat → Nat) (sz : Nat) : vx_Met l yX5_row w_f_X5_row ({ frames := 9 + d, cells := r0.2.2.1, slots := r0.2.2.2, locals := 173 + 33 * d }) (va_Pc [.ref (a 40), .int (L0.1 1), .int (L0.1 2)] (nInF (dC, dI) cy ek sz (vC cy a z σ0))) (xV dC dI cy a (va_A (vC cy a z σ0) sz) [41, 43, 51] z r0) (xX dC dI cy a (va_A (vC cy a z σ0) sz) [41, 43, 51] z r0) r0.2.2.1 r0.2.2.2 (va_A (vC cy a z σ0) sz) := by
  refine vx_ofW (cc := cX5_row) (maxL := 3) (ret := none) (by decide) rfl ?_
  intro p e s m args below meth c s₁ B hml hno hv
  obtain ⟨rfl, ⟨⟨hsz, hP, hK, hD0, hG⟩, hE⟩, hT⟩ := hv
  have hx := B.exec
  have hb := B.bytes
  have hr := B.returns
  have hts := atoms_spec (ws := w_f_X5_row) B.pre
  have hown : s.vm.findClass RX5 = some m.cls := findClass_of_methodNamed B.named
  have hlocks := B.notSynchronized
  subst hsz
  have hD := hD0.self (sz := s.heap.size)
  generalize hAe : va_A (vC cy a z σ0) s.heap.size = A at hD hE hT ⊢
  have hA : ∀ q : Nat, s.heap.size ≤ q → A q := fun q h => by rw [← hAe]; exact Or.inr h
  have hS : va_S A s.heap s.heap [] := va_S.rf
  have hl := lv_entry ([.ref (a 40), .int (L0.1 1), .int (L0.1 2)]) (n := 3) (Nat.le_of_ble_eq_true rfl)
  rw [lg_entry_eq]
  generalize (lg_sl ([.ref (a 40), .int (L0.1 1), .int (L0.1 2)]) ++ List.replicate (3 - (lg_sl ([.ref (a 40), .int (L0.1 1), .int (L0.1 2)])).length) Slot.unset).toArray = ls at hl ⊢
  have hl : lv_has ls 3 [(0, .ref (a 40)), (1, .int (L0.1 1)), (2, .int (L0.1 2))] := hl
  generalize hmc : r0.2.2.1 = mc
  generalize hms : r0.2.2.2 = ms
  have blk : ∀ k : Nat, k ≤ k0 → (bX p l e (headSpec w_f_X5_row ({ frames := 9 + d, cells := mc, slots := ms, locals := 173 + 33 * d })).room s m #[.ref (a 40), .int (L0.1 1), .int (L0.1 2)] below meth c dC dI cy a A (fun r => vx_MQ below (xV dC dI cy a A [41, 43, 51] z r) (xX dC dI cy a A [41, 43, 51] z r) #[.ref (a 40), .int (L0.1 1), .int (L0.1 2)] s mc ms A) [41, 43, 51] z mc ms 3 (f_F2 k d 12 0) (fun z L => [(0, .ref (a 40)), (1, .int (L.1 1)), (2, .int (L.1 2))]) 0 (fun z L => [])) ∧ (bX p l e (headSpec w_f_X5_row ({ frames := 9 + d, cells := mc, slots := ms, locals := 173 + 33 * d })).room s m #[.ref (a 40), .int (L0.1 1), .int (L0.1 2)] below meth c dC dI cy a A (fun r => vx_MQ below (xV dC dI cy a A [41, 43, 51] z r) (xX dC dI cy a A [41, 43, 51] z r) #[.ref (a 40), .int (L0.1 1), .int (L0.1 2)] s mc ms A) [41, 43, 51] z mc ms 3 (f_F2 k d 12 1) (fun z L => [(0, .ref (a 40)), (1, .int (L.1 1)), (2, .int (L.1 2))]) 24 (fun z L => [])) ∧ (bX p l e (headSpec w_f_X5_row ({ frames := 9 + d, cells := mc, slots := ms, locals := 173 + 33 * d })).room s m #[.ref (a 40), .int (L0.1 1), .int (L0.1 2)] below meth c dC dI cy a A (fun r => vx_MQ below (xV dC dI cy a A [41, 43, 51] z r) (xX dC dI cy a A [41, 43, 51] z r) #[.ref (a 40), .int (L0.1 1), .int (L0.1 2)] s mc ms A) [41, 43, 51] z mc ms 3 (f_F2 k d 12 2) (fun z L => [(0, .ref (a 40)), (1, .int (L.1 1))]) 101 (fun z L => [])) ∧ (bX p l e (headSpec w_f_X5_row ({ frames := 9 + d, cells := mc, slots := ms, locals := 173 + 33 * d })).room s m #[.ref (a 40), .int (L0.1 1), .int (L0.1 2)] below meth c dC dI cy a A (fun r => vx_MQ below (xV dC dI cy a A [41, 43, 51] z r) (xX dC dI cy a A [41, 43, 51] z r) #[.ref (a 40), .int (L0.1 1), .int (L0.1 2)] s mc ms A) [41, 43, 51] z mc ms 3 (f_F2 k d 12 3) (fun z L => [(0, .ref (a 40)), (1, .int (L.1 1)), (2, .int (L.1 2))]) 51 (fun z L => [])) ∧ (bX p l e (headSpec w_f_X5_row ({ frames := 9 + d, cells := mc, slots := ms, locals := 173 + 33 * d })).room s m #[.ref (a 40), .int (L0.1 1), .int (L0.1 2)] below meth c dC dI cy a A (fun r => vx_MQ below (xV dC dI cy a A [41, 43, 51] z r) (xX dC dI cy a A [41, 43, 51] z r) #[.ref (a 40), .int (L0.1 1), .int (L0.1 2)] s mc ms A) [41, 43, 51] z mc ms 3 (f_F2 k d 12 4) (fun z L => [(0, .ref (a 40)), (1, .int (L.1 1)), (2, .int (L.1 2))]) 96 (fun z L => [])) := by
    intro k
    induction k with
    | zero => exact fun _ => ⟨fun z c1 c2 L σ r h => (by cases h), fun z c1 c2 L σ r h => (by cases h), fun z c1 c2 L σ r h => (by cases h), fun z c1 c2 L σ r h => (by cases h), fun z c1 c2 L σ r h => (by cases h)⟩
    | succ k ih =>
      intro hk
      replace ih := ih (by omega)
      refine ⟨?_, ?_, ?_, ?_, ?_⟩
      · intro z cells slots L σ r h hzk hc hs H locs ls hP hD hS hl
        rw [f_F2_12, t_X5_row_0] at h
        refine lv_aload_n hx hb dX5_row_0 rfl (lv_at hl 0 rfl) ?_
        obtain ⟨r1, hc1, hle1, h9⟩ := ox_ex h
        clear h
        refine kx_v (vx_runV (As := []) (rest := []) ⟨hx, hb, hml, hown, hts⟩ (c_f_X5_opens l hl0 dC dI cy ek a k lZ σ r1 hc1 z H.size) (cwV 0 hts g_f_X5_row_X5_opens_V173 rfl rfl rfl hd_f_X5_opens (by show 7 + 1 ≤ 9 + d ∧ 8 + (1 + 11) + 126 ≤ 173 + 33 * d; omega)) ⟨nb_blindF, va_recv hK hP (ci := 4) (q0 := 40) rfl rfl, (kx_pre hK hG hE hT hA hP hD hS)⟩ rfl rfl hl.1 rfl (lv_room (Nat.le_of_ble_eq_true rfl)) dX5_row_1 ⟨Nat.le_trans (Nat.add_le_add_left hle1.1 _) (Nat.le_of_eq hc), Nat.le_trans (Nat.add_le_add_left hle1.2 _) (Nat.le_of_eq hs)⟩) hK hA hzk hP hD hS (by decide) hno hlocks ?_
        rcases h9 with ⟨h00, y1, hny1, hy⟩ | ⟨h00, hy⟩
        · subst hy
          have h := hny1
          refine Or.inl ⟨h00, fun u H locs hz1 hzk hP hD hS => ?_⟩
          obtain rfl := (zk_nil hz1).symm
          replace hc := (Nat.add_assoc _ _ _).trans hc
          replace hs := (Nat.add_assoc _ _ _).trans hs
          refine lv_aload_n hx hb dX5_row_4 rfl (lv_at hl 0 rfl) ?_
          refine hg_40_0 hx hb hts in_f_X5_row_X5 hown hK hP (hts _ (List.mem_cons_of_mem _ (List.mem_append_left _ (List.mem_append_left _ (List.mem_of_getElem? (i := 33) rfl))))) dX5_row_5 ?_
          refine hg_37_2n hx hb hts in_f_X5_row_X2 hown hK hP (va_Nw.use rfl (hG.1 _ (List.mem_of_getElem? (i := 52) rfl))) dX5_row_8 ?_
          refine lv_bipush (v := 45) hx hb dX5_row_11 (by decide) ?_
          refine lv_icmp_ne (tgt := 24) hx hb dX5_row_13 (by decide) (fun c2 => ?_) (fun c2 => ?_)
          · rw [if_neg c2] at h
            exact ih.2.1 z _ _ L r1.2.1 _ h hzk hc hs H locs ls hP hD hS (lv_sub hl [0, 1, 2] rfl)
          · rw [if_pos c2] at h
            refine lv_aload_n hx hb dX5_row_16 rfl (lv_at hl 0 rfl) ?_
            refine lv_iload_n hx hb dX5_row_17 rfl (lv_at hl 2 rfl) ?_
            obtain ⟨e3, he3, h⟩ := of_ex h
            obtain ⟨r3, hc3, hle3, h9⟩ := ox_ex h
            clear h
            refine kx_v (r := y1) (vx_runV (As := [.int (L.1 2)]) (rest := []) ⟨hx, hb, hml, hown, hts⟩ ((IH k (by omega)).2.2.2.1 e3 (lI lZ 1 ((L.1 2))) r1.2.1 r3 hc3 z H.size) (cwV 1 hts g_f_X5_row_X5_former_V438 rfl rfl rfl hd_f_X5_former (by show (9 + e3) + 1 ≤ 9 + d ∧ 8 + (6 + 11) + (173 + 33 * e3) ≤ 173 + 33 * d; omega)) ⟨nb_blindF, va_recv hK hP (ci := 4) (q0 := 40) rfl rfl, (kx_pre hK hG hE hT hA hP hD hS)⟩ rfl rfl hl.1 rfl (lv_room (Nat.le_of_ble_eq_true rfl)) dX5_row_18 ⟨Nat.le_trans (Nat.add_le_add_left hle3.1 _) (Nat.le_of_eq hc), Nat.le_trans (Nat.add_le_add_left hle3.2 _) (Nat.le_of_eq hs)⟩) hK hA hzk hP hD hS (by decide) hno hlocks ?_
            rcases h9 with ⟨h00, y3, hny3, hy⟩ | ⟨h00, hy⟩
            · subst hy
              have h := hny3
              refine Or.inl ⟨h00, fun z H locs hz3 hzk hP hD hS => ?_⟩
              replace hc := (Nat.add_assoc _ _ _).trans hc
              replace hs := (Nat.add_assoc _ _ _).trans hs
              refine lv_goto (tgt := 101) hx hb dX5_row_21 (by decide) ?_
              exact ih.2.2.1 z _ _ L r3.2.1 _ h hzk hc hs H locs ls hP hD hS (lv_sub hl [0, 1] rfl)
            · subst hy
              exact Or.inr ⟨h00, rfl, hc, hs⟩
        · subst hy
          exact Or.inr ⟨h00, rfl, hc, hs⟩
      · intro z cells slots L σ r h hzk hc hs H locs ls hP hD hS hl
        rw [f_F2_12, t_X5_row_1] at h
        refine lv_aload_n hx hb dX5_row_24 rfl (lv_at hl 0 rfl) ?_
        refine hg_40_0 hx hb hts in_f_X5_row_X5 hown hK hP (hts _ (List.mem_cons_of_mem _ (List.mem_append_left _ (List.mem_append_left _ (List.mem_of_getElem? (i := 33) rfl))))) dX5_row_25 ?_
        refine hg_37_2n hx hb hts in_f_X5_row_X2 hown hK hP (va_Nw.use rfl (hG.1 _ (List.mem_of_getElem? (i := 52) rfl))) dX5_row_28 ?_
        refine lv_iload_n hx hb dX5_row_31 rfl (lv_at hl 1 rfl) ?_
        refine lv_icmp_ne (tgt := 51) hx hb dX5_row_32 (by decide) (fun c1 => ?_) (fun c1 => ?_)
        · rw [if_neg c1] at h
          exact ih.2.2.2.1 z _ _ L σ _ h hzk hc hs H locs ls hP hD hS (lv_sub hl [0, 1, 2] rfl)
        · rw [if_pos c1] at h
          refine lv_aload_n hx hb dX5_row_35 rfl (lv_at hl 0 rfl) ?_
          obtain ⟨b2, hb2, h⟩ := oP_ex h
          refine hgq_40_2 hx hb hts in_f_X5_row_X5 hown hK hP (hts _ (List.mem_cons_of_mem _ (List.mem_append_left _ (List.mem_append_left _ (List.mem_of_getElem? (i := 24) rfl))))) hb2 dX5_row_36 ?_
          refine lv_bipush (v := 48) hx hb dX5_row_39 (by decide) ?_
          refine lv_iload_n hx hb dX5_row_41 rfl (lv_at hl 2 rfl) ?_
          refine lv_iadd hx hb dX5_row_42 ?_
          refine lv_iconst (v := 0) hx hb dX5_row_43 (by decide) ?_
          obtain ⟨r3, hc3, hle3, h9⟩ := ox_ex h
          clear h
          refine kx_i (vx_runV (As := [.int (48 + ((L.1 2))), .int 0]) (rest := []) ⟨hx, hb, hml, hown, hts⟩ (c_f_X7_emit__P l hl0 dC dI cy ek a k (lI (lI (lB lZ 0 b2) 1 ((48 + ((L.1 2))))) 2 0) σ r3 hc3 z H.size) (cwV 2 hts g_f_X5_row_X7_emit__P_V66 rfl rfl rfl hd_f_X7_emit__P (by show 7 + 1 ≤ 9 + d ∧ 8 + (3 + 11) + 121 ≤ 173 + 33 * d; omega)) ⟨nb_blindF, recvP b2 hK hP, (kx_pre hK hG hE hT hA hP hD hS)⟩ rfl rfl hl.1 rfl (lv_room (Nat.le_of_ble_eq_true rfl)) dX5_row_44 ⟨Nat.le_trans (Nat.add_le_add_left hle3.1 _) (Nat.le_of_eq hc), Nat.le_trans (Nat.add_le_add_left hle3.2 _) (Nat.le_of_eq hs)⟩) hK hA hzk hP hD hS (by decide) hno hlocks ?_
          rcases h9 with ⟨h00, y3, hny3, hy⟩ | ⟨h00, hy⟩
          · subst hy
            have h := hny3
            refine Or.inl ⟨h00, fun z H locs hz3 hzk hP hD hS => ?_⟩
            replace hc := (Nat.add_assoc _ _ _).trans hc
            replace hs := (Nat.add_assoc _ _ _).trans hs
            refine lv_pop hx hb dX5_row_47 rfl ?_
            refine lv_goto (tgt := 101) hx hb dX5_row_48 (by decide) ?_
            exact ih.2.2.1 z _ _ L r3.2.1 _ h hzk hc hs H locs ls hP hD hS (lv_sub hl [0, 1] rfl)
          · subst hy
            exact Or.inr ⟨h00, rfl, hc, hs⟩
      · intro z cells slots L σ r h hzk hc hs H locs ls hP hD hS hl
        rw [f_F2_12, t_X5_row_2] at h
        refine lv_aload_n hx hb dX5_row_101 rfl (lv_at hl 0 rfl) ?_
        refine lv_iload_n hx hb dX5_row_102 rfl (lv_at hl 1 rfl) ?_
        obtain ⟨r1, hc1, hle1, h9⟩ := ox_ex h
        clear h
        refine kx_v (vx_runV (As := [.int (L.1 1)]) (rest := []) ⟨hx, hb, hml, hown, hts⟩ (c_f_X5_closes l hl0 dC dI cy ek a k (lI lZ 1 ((L.1 1))) σ r1 hc1 z H.size) (cwV 1 hts g_f_X5_row_X5_closes_V186 rfl rfl rfl hd_f_X5_closes (by show 7 + 1 ≤ 9 + d ∧ 8 + (2 + 11) + 126 ≤ 173 + 33 * d; omega)) ⟨nb_blindF, va_recv hK hP (ci := 4) (q0 := 40) rfl rfl, (kx_pre hK hG hE hT hA hP hD hS)⟩ rfl rfl hl.1 rfl (lv_room (Nat.le_of_ble_eq_true rfl)) dX5_row_103 ⟨Nat.le_trans (Nat.add_le_add_left hle1.1 _) (Nat.le_of_eq hc), Nat.le_trans (Nat.add_le_add_left hle1.2 _) (Nat.le_of_eq hs)⟩) hK hA hzk hP hD hS (by decide) hno hlocks ?_
        rcases h9 with ⟨h00, y1, hny1, hy⟩ | ⟨h00, hy⟩
        · subst hy
          have h := hny1
          refine Or.inl ⟨h00, fun u H locs hz1 hzk hP hD hS => ?_⟩
          obtain rfl := (zk_nil hz1).symm
          replace hc := (Nat.add_assoc _ _ _).trans hc
          replace hs := (Nat.add_assoc _ _ _).trans hs
          obtain rfl := Option.some.inj h
          subst hc
          subst hs
          exact xr_v hx hb hr hK hzk hP hD hS hlocks dX5_row_106
        · subst hy
          exact Or.inr ⟨h00, rfl, hc, hs⟩
      · intro z cells slots L σ r h hzk hc hs H locs ls hP hD hS hl
        rw [f_F2_12, t_X5_row_3] at h
        refine lv_aload_n hx hb dX5_row_51 rfl (lv_at hl 0 rfl) ?_
        refine lv_iconst (v := 0) hx hb dX5_row_52 (by decide) ?_
        obtain ⟨e1, he1, h⟩ := of_ex h
        obtain ⟨r1, hc1, hle1, h9⟩ := ox_ex h
        clear h
        refine kx_v (vx_runV (As := [.int 0]) (rest := []) ⟨hx, hb, hml, hown, hts⟩ ((IH k (by omega)).2.1 e1 (lI lZ 1 0) σ r1 hc1 z H.size) (cwV 1 hts g_f_X5_row_X5_exp_V90 rfl rfl rfl hd_f_X5_exp (by show (9 + e1) + 1 ≤ 9 + d ∧ 8 + (8 + 11) + (173 + 33 * e1) ≤ 173 + 33 * d; omega)) ⟨nb_blindF, va_recv hK hP (ci := 4) (q0 := 40) rfl rfl, (kx_pre hK hG hE hT hA hP hD hS)⟩ rfl rfl hl.1 rfl (lv_room (Nat.le_of_ble_eq_true rfl)) dX5_row_53 ⟨Nat.le_trans (Nat.add_le_add_left hle1.1 _) (Nat.le_of_eq hc), Nat.le_trans (Nat.add_le_add_left hle1.2 _) (Nat.le_of_eq hs)⟩) hK hA hzk hP hD hS (by decide) hno hlocks ?_
        rcases h9 with ⟨h00, y1, hny1, hy⟩ | ⟨h00, hy⟩
        · subst hy
          have h := hny1
          refine Or.inl ⟨h00, fun z H locs hz1 hzk hP hD hS => ?_⟩
          replace hc := (Nat.add_assoc _ _ _).trans hc
          replace hs := (Nat.add_assoc _ _ _).trans hs
          refine lv_aload_n hx hb dX5_row_56 rfl (lv_at hl 0 rfl) ?_
          refine hg_40_0 hx hb hts in_f_X5_row_X5 hown hK hP (hts _ (List.mem_cons_of_mem _ (List.mem_append_left _ (List.mem_append_left _ (List.mem_of_getElem? (i := 33) rfl))))) dX5_row_57 ?_
          refine hg_37_2n hx hb hts in_f_X5_row_X2 hown hK hP (va_Nw.use rfl (hG.1 _ (List.mem_of_getElem? (i := 52) rfl))) dX5_row_60 ?_
          refine lv_bipush (v := 28) hx hb dX5_row_63 (by decide) ?_
          refine lv_icmp_ne (tgt := 96) hx hb dX5_row_65 (by decide) (fun c2 => ?_) (fun c2 => ?_)
          · rw [if_neg c2] at h
            exact ih.2.2.2.2 z _ _ L r1.2.1 _ h hzk hc hs H locs ls hP hD hS (lv_sub hl [0, 1, 2] rfl)
          · rw [if_pos c2] at h
            refine lv_aload_n hx hb dX5_row_68 rfl (lv_at hl 0 rfl) ?_
            refine hg_40_0 hx hb hts in_f_X5_row_X5 hown hK hP (hts _ (List.mem_cons_of_mem _ (List.mem_append_left _ (List.mem_append_left _ (List.mem_of_getElem? (i := 33) rfl))))) dX5_row_69 ?_
            obtain ⟨r3, hc3, hle3, h9⟩ := ox_ex h
            clear h
            refine kx_v (r := y1) (vx_runV (As := []) (rest := []) ⟨hx, hb, hml, hown, hts⟩ (c_f_X2_advance l hl0 dC dI cy ek a k lZ r1.2.1 r3 hc3 z H.size) (cwV 0 hts g_f_X5_row_X2_advance_V30 rfl rfl rfl hd_f_X2_advance (by show 6 + 1 ≤ 9 + d ∧ 8 + (7 + 11) + 100 ≤ 173 + 33 * d; omega)) ⟨nb_blindF, va_recv hK hP (ci := 2) (q0 := 37) rfl rfl, (kx_pre hK hG hE hT hA hP hD hS)⟩ rfl rfl hl.1 rfl (lv_room (Nat.le_of_ble_eq_true rfl)) dX5_row_72 ⟨Nat.le_trans (Nat.add_le_add_left hle3.1 _) (Nat.le_of_eq hc), Nat.le_trans (Nat.add_le_add_left hle3.2 _) (Nat.le_of_eq hs)⟩) hK hA hzk hP hD hS (by decide) hno hlocks ?_
            rcases h9 with ⟨h00, y3, hny3, hy⟩ | ⟨h00, hy⟩
            · subst hy
              have h := hny3
              refine Or.inl ⟨h00, fun u H locs hz3 hzk hP hD hS => ?_⟩
              obtain rfl := (zk_nil hz3).symm
              replace hc := (Nat.add_assoc _ _ _).trans hc
              replace hs := (Nat.add_assoc _ _ _).trans hs
              refine lv_aload_n hx hb dX5_row_75 rfl (lv_at hl 0 rfl) ?_
              refine lv_iconst (v := 0) hx hb dX5_row_76 (by decide) ?_
              obtain ⟨e4, he4, h⟩ := of_ex h
              obtain ⟨r4, hc4, hle4, h9⟩ := ox_ex h
              clear h
              refine kx_v (r := y3) (vx_runV (As := [.int 0]) (rest := []) ⟨hx, hb, hml, hown, hts⟩ ((IH k (by omega)).2.1 e4 (lI lZ 1 0) r3.2.1 r4 hc4 z H.size) (cwV 1 hts g_f_X5_row_X5_exp_V90 rfl rfl rfl hd_f_X5_exp (by show (9 + e4) + 1 ≤ 9 + d ∧ 8 + (8 + 11) + (173 + 33 * e4) ≤ 173 + 33 * d; omega)) ⟨nb_blindF, va_recv hK hP (ci := 4) (q0 := 40) rfl rfl, (kx_pre hK hG hE hT hA hP hD hS)⟩ rfl rfl hl.1 rfl (lv_room (Nat.le_of_ble_eq_true rfl)) dX5_row_77 ⟨Nat.le_trans (Nat.add_le_add_left hle4.1 _) (Nat.le_of_eq hc), Nat.le_trans (Nat.add_le_add_left hle4.2 _) (Nat.le_of_eq hs)⟩) hK hA hzk hP hD hS (by decide) hno hlocks ?_
              rcases h9 with ⟨h00, y4, hny4, hy⟩ | ⟨h00, hy⟩
              · subst hy
                have h := hny4
                refine Or.inl ⟨h00, fun z H locs hz4 hzk hP hD hS => ?_⟩
                replace hc := (Nat.add_assoc _ _ _).trans hc
                replace hs := (Nat.add_assoc _ _ _).trans hs
                refine lv_aload_n hx hb dX5_row_80 rfl (lv_at hl 0 rfl) ?_
                obtain ⟨b5, hb5, h⟩ := oP_ex h
                refine hgq_40_2 hx hb hts in_f_X5_row_X5 hown hK hP (hts _ (List.mem_cons_of_mem _ (List.mem_append_left _ (List.mem_append_left _ (List.mem_of_getElem? (i := 24) rfl))))) hb5 dX5_row_81 ?_
                refine lv_bipush (v := 50) hx hb dX5_row_84 (by decide) ?_
                refine lv_iload_n hx hb dX5_row_86 rfl (lv_at hl 2 rfl) ?_
                refine lv_iadd hx hb dX5_row_87 ?_
                refine lv_iconst (v := 0) hx hb dX5_row_88 (by decide) ?_
                obtain ⟨r6, hc6, hle6, h9⟩ := ox_ex h
                clear h
                refine kx_i (r := y4) (vx_runV (As := [.int (50 + ((L.1 2))), .int 0]) (rest := []) ⟨hx, hb, hml, hown, hts⟩ (c_f_X7_emit__P l hl0 dC dI cy ek a k (lI (lI (lB lZ 0 b5) 1 ((50 + ((L.1 2))))) 2 0) r4.2.1 r6 hc6 z H.size) (cwV 2 hts g_f_X5_row_X7_emit__P_V66 rfl rfl rfl hd_f_X7_emit__P (by show 7 + 1 ≤ 9 + d ∧ 8 + (3 + 11) + 121 ≤ 173 + 33 * d; omega)) ⟨nb_blindF, recvP b5 hK hP, (kx_pre hK hG hE hT hA hP hD hS)⟩ rfl rfl hl.1 rfl (lv_room (Nat.le_of_ble_eq_true rfl)) dX5_row_89 ⟨Nat.le_trans (Nat.add_le_add_left hle6.1 _) (Nat.le_of_eq hc), Nat.le_trans (Nat.add_le_add_left hle6.2 _) (Nat.le_of_eq hs)⟩) hK hA hzk hP hD hS (by decide) hno hlocks ?_
                rcases h9 with ⟨h00, y6, hny6, hy⟩ | ⟨h00, hy⟩
                · subst hy
                  have h := hny6
                  refine Or.inl ⟨h00, fun z H locs hz6 hzk hP hD hS => ?_⟩
                  replace hc := (Nat.add_assoc _ _ _).trans hc
                  replace hs := (Nat.add_assoc _ _ _).trans hs
                  refine lv_pop hx hb dX5_row_92 rfl ?_
                  refine lv_goto (tgt := 101) hx hb dX5_row_93 (by decide) ?_
                  exact ih.2.2.1 z _ _ L r6.2.1 _ h hzk hc hs H locs ls hP hD hS (lv_sub hl [0, 1] rfl)
                · subst hy
                  exact Or.inr ⟨h00, rfl, hc, hs⟩
              · subst hy
                exact Or.inr ⟨h00, rfl, hc, hs⟩
            · subst hy
              exact Or.inr ⟨h00, rfl, hc, hs⟩
        · subst hy
          exact Or.inr ⟨h00, rfl, hc, hs⟩
      · intro z cells slots L σ r h hzk hc hs H locs ls hP hD hS hl
        rw [f_F2_12, t_X5_row_4] at h
        refine lv_aload_n hx hb dX5_row_96 rfl (lv_at hl 0 rfl) ?_
        refine lv_iload_n hx hb dX5_row_97 rfl (lv_at hl 2 rfl) ?_
        obtain ⟨e1, he1, h⟩ := of_ex h
        obtain ⟨r1, hc1, hle1, h9⟩ := ox_ex h
        clear h
        refine kx_v (vx_runV (As := [.int (L.1 2)]) (rest := []) ⟨hx, hb, hml, hown, hts⟩ ((IH k (by omega)).2.2.2.2.2.2.1 e1 (lI lZ 1 ((L.1 2))) σ r1 hc1 z H.size) (cwV 1 hts g_f_X5_row_X5_members_V441 rfl rfl rfl hd_f_X5_members (by show (9 + e1) + 1 ≤ 9 + d ∧ 8 + (4 + 11) + (173 + 33 * e1) ≤ 173 + 33 * d; omega)) ⟨nb_blindF, va_recv hK hP (ci := 4) (q0 := 40) rfl rfl, (kx_pre hK hG hE hT hA hP hD hS)⟩ rfl rfl hl.1 rfl (lv_room (Nat.le_of_ble_eq_true rfl)) dX5_row_98 ⟨Nat.le_trans (Nat.add_le_add_left hle1.1 _) (Nat.le_of_eq hc), Nat.le_trans (Nat.add_le_add_left hle1.2 _) (Nat.le_of_eq hs)⟩) hK hA hzk hP hD hS (by decide) hno hlocks ?_
        rcases h9 with ⟨h00, y1, hny1, hy⟩ | ⟨h00, hy⟩
        · subst hy
          have h := hny1
          refine Or.inl ⟨h00, fun z H locs hz1 hzk hP hD hS => ?_⟩
          replace hc := (Nat.add_assoc _ _ _).trans hc
          replace hs := (Nat.add_assoc _ _ _).trans hs
          exact ih.2.2.1 z _ _ L r1.2.1 _ h hzk hc hs H locs ls hP hD hS (lv_sub hl [0, 1] rfl)
        · subst hy
          exact Or.inr ⟨h00, rfl, hc, hs⟩
  exact (blk k0 (Nat.le_refl _)).1 z 0 0 L0 σ0 r0 h0 (zk_rf _ _) ((Nat.zero_add _).trans hmc) ((Nat.zero_add _).trans hms) s.heap [] ls hP hD hS hl
theorem gg_f_X5_word_X2_advance : GoodIn w_f_X5_word w_f_X2_advance := goodIn_sub (fun w h => (List.mem_cons.mp h).elim (fun e => (List.mem_cons_of_mem _ (List.mem_append_left _ (List.mem_append_right _ (List.mem_append_right _ (List.mem_append_right _ (List.mem_append_right _ (List.mem_append_right _ (List.mem_append_left _ (List.mem_cons.mpr (Or.inl e))))))))))) (fun h => (List.mem_append.mp h).elim (fun h => (List.mem_cons_of_mem _ (List.mem_append_left _ (List.mem_append_right _ (List.mem_append_right _ (List.mem_append_right _ (List.mem_append_right _ (List.mem_append_right _ (List.mem_append_left _ (List.mem_cons_of_mem _ h)))))))))) (fun h => List.mem_cons_of_mem _ (List.mem_append_right _ h)))) w_f_X2_advance_good
theorem g_f_X5_word_X2_advance_V30 : GoodIn w_f_X5_word (wsV RX5 30 RX2 yX2_advance w_f_X2_advance) := goodIn_app (nb_g4 (List.mem_cons_of_mem _ (List.mem_append_left _ (List.mem_append_left _ (List.mem_of_getElem? (i := 34) rfl)))) (List.mem_cons_of_mem _ (List.mem_append_left _ (List.mem_append_left _ (List.mem_of_getElem? (i := 35) rfl)))) (List.mem_cons_of_mem _ (List.mem_append_left _ (List.mem_append_left _ (List.mem_of_getElem? (i := 36) rfl)))) (List.mem_cons_of_mem _ (List.mem_append_left _ (List.mem_append_left _ (List.mem_of_getElem? (i := 37) rfl)))) (by decide +kernel)) gg_f_X5_word_X2_advance
theorem gg_f_X5_word_X5_closes : GoodIn w_f_X5_word w_f_X5_closes := goodIn_sub (fun w h => (List.mem_cons.mp h).elim (fun e => (List.mem_cons_of_mem _ (List.mem_append_left _ (List.mem_append_right _ (List.mem_append_right _ (List.mem_append_right _ (List.mem_append_right _ (List.mem_append_right _ (List.mem_append_right _ (List.mem_append_left _ (List.mem_cons.mpr (Or.inl e)))))))))))) (fun h => (List.mem_append.mp h).elim (fun h => (List.mem_cons_of_mem _ (List.mem_append_left _ (List.mem_append_right _ (List.mem_append_right _ (List.mem_append_right _ (List.mem_append_right _ (List.mem_append_right _ (List.mem_append_right _ (List.mem_append_left _ (List.mem_cons_of_mem _ h))))))))))) (fun h => List.mem_cons_of_mem _ (List.mem_append_right _ h)))) w_f_X5_closes_good
theorem g_f_X5_word_X5_closes_V186 : GoodIn w_f_X5_word (wsV RX5 186 RX5 yX5_closes w_f_X5_closes) := goodIn_app (nb_g4 (List.mem_cons_of_mem _ (List.mem_append_left _ (List.mem_append_left _ (List.mem_of_getElem? (i := 38) rfl)))) (List.mem_cons_of_mem _ (List.mem_append_left _ (List.mem_append_left _ (List.mem_of_getElem? (i := 39) rfl)))) (List.mem_cons_of_mem _ (List.mem_append_left _ (List.mem_append_left _ (List.mem_of_getElem? (i := 40) rfl)))) (List.mem_cons_of_mem _ (List.mem_append_left _ (List.mem_append_left _ (List.mem_of_getElem? (i := 17) rfl)))) (by decide +kernel)) gg_f_X5_word_X5_closes
theorem gg_f_X5_word_X5_exp : GoodIn w_f_X5_word w_f_X5_exp := goodIn_sub (fun w h => (List.mem_cons.mp h).elim (fun e => e ▸ (List.mem_cons_of_mem _ (List.mem_append_left _ (List.mem_append_left _ (List.mem_of_getElem? (i := 1) rfl))))) (fun h => List.mem_cons_of_mem _ h)) w_f_X5_exp_good
theorem g_f_X5_word_X5_exp_V90 : GoodIn w_f_X5_word (wsV RX5 90 RX5 yX5_exp w_f_X5_exp) := goodIn_app (nb_g4 (List.mem_cons_of_mem _ (List.mem_append_left _ (List.mem_append_left _ (List.mem_of_getElem? (i := 18) rfl)))) (List.mem_cons_of_mem _ (List.mem_append_left _ (List.mem_append_left _ (List.mem_of_getElem? (i := 19) rfl)))) (List.mem_cons_of_mem _ (List.mem_append_left _ (List.mem_append_left _ (List.mem_of_getElem? (i := 20) rfl)))) (List.mem_cons_of_mem _ (List.mem_append_left _ (List.mem_append_left _ (List.mem_of_getElem? (i := 17) rfl)))) (by decide +kernel)) gg_f_X5_word_X5_exp
theorem gg_f_X5_word_X5_opens : GoodIn w_f_X5_word w_f_X5_opens := goodIn_sub (fun w h => (List.mem_cons.mp h).elim (fun e => (List.mem_cons_of_mem _ (List.mem_append_left _ (List.mem_append_right _ (List.mem_append_left _ (List.mem_cons.mpr (Or.inl e))))))) (fun h => (List.mem_append.mp h).elim (fun h => (List.mem_cons_of_mem _ (List.mem_append_left _ (List.mem_append_right _ (List.mem_append_left _ (List.mem_cons_of_mem _ h)))))) (fun h => List.mem_cons_of_mem _ (List.mem_append_right _ h)))) w_f_X5_opens_good
theorem g_f_X5_word_X5_opens_V173 : GoodIn w_f_X5_word (wsV RX5 173 RX5 yX5_opens w_f_X5_opens) := goodIn_app (nb_g4 (List.mem_cons_of_mem _ (List.mem_append_left _ (List.mem_append_left _ (List.mem_of_getElem? (i := 14) rfl)))) (List.mem_cons_of_mem _ (List.mem_append_left _ (List.mem_append_left _ (List.mem_of_getElem? (i := 15) rfl)))) (List.mem_cons_of_mem _ (List.mem_append_left _ (List.mem_append_left _ (List.mem_of_getElem? (i := 16) rfl)))) (List.mem_cons_of_mem _ (List.mem_append_left _ (List.mem_append_left _ (List.mem_of_getElem? (i := 17) rfl)))) (by decide +kernel)) gg_f_X5_word_X5_opens
theorem gg_f_X5_word_X5_refuse : GoodIn w_f_X5_word w_f_X5_refuse := goodIn_sub (fun w h => (List.mem_cons.mp h).elim (fun e => (List.mem_cons_of_mem _ (List.mem_append_left _ (List.mem_append_right _ (List.mem_append_right _ (List.mem_append_right _ (List.mem_append_right _ (List.mem_append_right _ (List.mem_append_right _ (List.mem_append_right _ (List.mem_append_right _ (List.mem_append_right _ (List.mem_append_right _ (List.mem_append_right _ (List.mem_append_right _ (List.mem_append_right _ (List.mem_append_right _ (List.mem_append_right _ (List.mem_append_right _ (List.mem_append_left _ (List.mem_cons.mpr (Or.inl e)))))))))))))))))))))) (fun h => (List.mem_append.mp h).elim (fun h => (List.mem_cons_of_mem _ (List.mem_append_left _ (List.mem_append_right _ (List.mem_append_right _ (List.mem_append_right _ (List.mem_append_right _ (List.mem_append_right _ (List.mem_append_right _ (List.mem_append_right _ (List.mem_append_right _ (List.mem_append_right _ (List.mem_append_right _ (List.mem_append_right _ (List.mem_append_right _ (List.mem_append_right _ (List.mem_append_right _ (List.mem_append_right _ (List.mem_append_right _ (List.mem_append_left _ (List.mem_cons_of_mem _ h))))))))))))))))))))) (fun h => List.mem_cons_of_mem _ (List.mem_append_right _ h)))) w_f_X5_refuse_good
theorem g_f_X5_word_X5_refuse_V125 : GoodIn w_f_X5_word (wsV RX5 125 RX5 yX5_refuse w_f_X5_refuse) := goodIn_app (nb_g4 (List.mem_cons_of_mem _ (List.mem_append_left _ (List.mem_append_left _ (List.mem_of_getElem? (i := 79) rfl)))) (List.mem_cons_of_mem _ (List.mem_append_left _ (List.mem_append_left _ (List.mem_of_getElem? (i := 80) rfl)))) (List.mem_cons_of_mem _ (List.mem_append_left _ (List.mem_append_left _ (List.mem_of_getElem? (i := 81) rfl)))) (List.mem_cons_of_mem _ (List.mem_append_left _ (List.mem_append_left _ (List.mem_of_getElem? (i := 17) rfl)))) (by decide +kernel)) gg_f_X5_word_X5_refuse
theorem gg_f_X5_word_X5_want : GoodIn w_f_X5_word w_f_X5_want := goodIn_sub (fun w h => (List.mem_cons.mp h).elim (fun e => (List.mem_cons_of_mem _ (List.mem_append_left _ (List.mem_append_right _ (List.mem_append_right _ (List.mem_append_right _ (List.mem_append_right _ (List.mem_append_right _ (List.mem_append_right _ (List.mem_append_right _ (List.mem_append_right _ (List.mem_append_right _ (List.mem_append_right _ (List.mem_append_right _ (List.mem_append_right _ (List.mem_append_right _ (List.mem_append_right _ (List.mem_append_right _ (List.mem_append_left _ (List.mem_cons.mpr (Or.inl e))))))))))))))))))))) (fun h => (List.mem_append.mp h).elim (fun h => (List.mem_cons_of_mem _ (List.mem_append_left _ (List.mem_append_right _ (List.mem_append_right _ (List.mem_append_right _ (List.mem_append_right _ (List.mem_append_right _ (List.mem_append_right _ (List.mem_append_right _ (List.mem_append_right _ (List.mem_append_right _ (List.mem_append_right _ (List.mem_append_right _ (List.mem_append_right _ (List.mem_append_right _ (List.mem_append_right _ (List.mem_append_right _ (List.mem_append_left _ (List.mem_cons_of_mem _ h)))))))))))))))))))) (fun h => List.mem_cons_of_mem _ (List.mem_append_right _ h)))) w_f_X5_want_good
theorem g_f_X5_word_X5_want_V61 : GoodIn w_f_X5_word (wsV RX5 61 RX5 yX5_want w_f_X5_want) := goodIn_app (nb_g4 (List.mem_cons_of_mem _ (List.mem_append_left _ (List.mem_append_left _ (List.mem_of_getElem? (i := 76) rfl)))) (List.mem_cons_of_mem _ (List.mem_append_left _ (List.mem_append_left _ (List.mem_of_getElem? (i := 77) rfl)))) (List.mem_cons_of_mem _ (List.mem_append_left _ (List.mem_append_left _ (List.mem_of_getElem? (i := 78) rfl)))) (List.mem_cons_of_mem _ (List.mem_append_left _ (List.mem_append_left _ (List.mem_of_getElem? (i := 17) rfl)))) (by decide +kernel)) gg_f_X5_word_X5_want
theorem gg_f_X5_word_X7_emit__P : GoodIn w_f_X5_word w_f_X7_emit__P := goodIn_sub (fun w h => (List.mem_cons.mp h).elim (fun e => (List.mem_cons_of_mem _ (List.mem_append_left _ (List.mem_append_right _ (List.mem_append_right _ (List.mem_append_right _ (List.mem_append_left _ (List.mem_cons.mpr (Or.inl e))))))))) (fun h => (List.mem_append.mp h).elim (fun h => (List.mem_cons_of_mem _ (List.mem_append_left _ (List.mem_append_right _ (List.mem_append_right _ (List.mem_append_right _ (List.mem_append_left _ (List.mem_cons_of_mem _ h)))))))) (fun h => List.mem_cons_of_mem _ (List.mem_append_right _ h)))) w_f_X7_emit__P_good
theorem g_f_X5_word_X7_emit__P_V66 : GoodIn w_f_X5_word (wsV RX5 66 RX7 yX7_emit w_f_X7_emit__P) := goodIn_app (nb_g4 (List.mem_cons_of_mem _ (List.mem_append_left _ (List.mem_append_left _ (List.mem_of_getElem? (i := 25) rfl)))) (List.mem_cons_of_mem _ (List.mem_append_left _ (List.mem_append_left _ (List.mem_of_getElem? (i := 26) rfl)))) (List.mem_cons_of_mem _ (List.mem_append_left _ (List.mem_append_left _ (List.mem_of_getElem? (i := 27) rfl)))) (List.mem_cons_of_mem _ (List.mem_append_left _ (List.mem_append_left _ (List.mem_of_getElem? (i := 28) rfl)))) (by decide +kernel)) gg_f_X5_word_X7_emit__P
theorem gg_f_X5_word_X5_wordOp : GoodIn w_f_X5_word w_y_X5_wordOp := goodIn_sub (fun w h => (List.mem_cons.mp h).elim (fun e => (List.mem_cons_of_mem _ (List.mem_append_left _ (List.mem_append_right _ (List.mem_append_right _ (List.mem_append_right _ (List.mem_append_right _ (List.mem_append_right _ (List.mem_append_right _ (List.mem_append_right _ (List.mem_append_right _ (List.mem_append_right _ (List.mem_append_right _ (List.mem_append_right _ (List.mem_append_right _ (List.mem_append_right _ (List.mem_append_right _ (List.mem_append_right _ (List.mem_append_right _ (List.mem_append_right _ (List.mem_append_right _ (List.mem_append_right _ (List.mem_append_right _ (List.mem_append_right _ (List.mem_append_right _ (List.mem_append_right _ (List.mem_append_right _ (List.mem_append_right _ (List.mem_append_right _ (List.mem_append_right _ (List.mem_append_right _ (List.mem_append_left _ (List.mem_cons.mpr (Or.inl e)))))))))))))))))))))))))))))))))) (fun h => (List.mem_append.mp h).elim (fun h => (List.mem_cons_of_mem _ (List.mem_append_left _ (List.mem_append_right _ (List.mem_append_right _ (List.mem_append_right _ (List.mem_append_right _ (List.mem_append_right _ (List.mem_append_right _ (List.mem_append_right _ (List.mem_append_right _ (List.mem_append_right _ (List.mem_append_right _ (List.mem_append_right _ (List.mem_append_right _ (List.mem_append_right _ (List.mem_append_right _ (List.mem_append_right _ (List.mem_append_right _ (List.mem_append_right _ (List.mem_append_right _ (List.mem_append_right _ (List.mem_append_right _ (List.mem_append_right _ (List.mem_append_right _ (List.mem_append_right _ (List.mem_append_right _ (List.mem_append_right _ (List.mem_append_right _ (List.mem_append_right _ (List.mem_append_right _ (List.mem_append_left _ (List.mem_cons_of_mem _ h))))))))))))))))))))))))))))))))) (fun h => List.mem_cons_of_mem _ (List.mem_append_right _ h)))) w_y_X5_wordOp_good
theorem g_y_X5_word_X5_wordOp_S447 : GoodIn w_f_X5_word (va_wsS RX5 447 yX5_wordOp w_y_X5_wordOp) := goodIn_app (nb_g3 (List.mem_cons_of_mem _ (List.mem_append_left _ (List.mem_append_left _ (List.mem_of_getElem? (i := 152) rfl)))) (List.mem_cons_of_mem _ (List.mem_append_left _ (List.mem_append_left _ (List.mem_of_getElem? (i := 153) rfl)))) (List.mem_cons_of_mem _ (List.mem_append_left _ (List.mem_append_left _ (List.mem_of_getElem? (i := 17) rfl)))) (by decide +kernel)) gg_f_X5_word_X5_wordOp
set_option maxHeartbeats 40000000 in
set_option maxRecDepth 100000 in
theorem c_t_X5_word (l : Launch) (hl0 : l.stackTraces = false) (dC : Nat → ClassId) (dI : Nat → Nat → Nat) (cy : Nat → ClassId) (ek a : Nat → Nat) (k0 : Nat) (IH : ∀ j : Nat, j < k0 → P_F2 l dC dI cy ek a j) (d : Nat) (L0 : LV) (σ0 : CS) (r0 : RS) (h0 : f_F2 k0 d 13 0 L0 σ0 = some r0) (z : Nat → Nat) (sz : Nat) : vx_Met l yX5_word w_f_X5_word ({ frames := 9 + d, cells := r0.2.2.1, slots := r0.2.2.2, locals := 173 + 33 * d }) (va_Pc [.ref (a 40)] (nInF (dC, dI) cy ek sz (vC cy a z σ0))) (xV dC dI cy a (va_A (vC cy a z σ0) sz) [41, 43, 51] z r0) (xX dC dI cy a (va_A (vC cy a z σ0) sz) [41, 43, 51] z r0) r0.2.2.1 r0.2.2.2 (va_A (vC cy a z σ0) sz) := by
  refine vx_ofW (cc := cX5_word) (maxL := 4) (ret := none) (by decide) rfl ?_
  intro p e s m args below meth c s₁ B hml hno hv
  obtain ⟨rfl, ⟨⟨hsz, hP, hK, hD0, hG⟩, hE⟩, hT⟩ := hv
  have hx := B.exec
  have hb := B.bytes
  have hr := B.returns
  have hts := atoms_spec (ws := w_f_X5_word) B.pre
  have hown : s.vm.findClass RX5 = some m.cls := findClass_of_methodNamed B.named
  have hlocks := B.notSynchronized
  subst hsz
  have hD := hD0.self (sz := s.heap.size)
  generalize hAe : va_A (vC cy a z σ0) s.heap.size = A at hD hE hT ⊢
  have hA : ∀ q : Nat, s.heap.size ≤ q → A q := fun q h => by rw [← hAe]; exact Or.inr h
  have hS : va_S A s.heap s.heap [] := va_S.rf
  have hl := lv_entry ([.ref (a 40)]) (n := 4) (Nat.le_of_ble_eq_true rfl)
  rw [lg_entry_eq]
  generalize (lg_sl ([.ref (a 40)]) ++ List.replicate (4 - (lg_sl ([.ref (a 40)])).length) Slot.unset).toArray = ls at hl ⊢
  have hl : lv_has ls 4 [(0, .ref (a 40))] := hl
  generalize hmc : r0.2.2.1 = mc
  generalize hms : r0.2.2.2 = ms
  have blk : ∀ k : Nat, k ≤ k0 → (bX p l e (headSpec w_f_X5_word ({ frames := 9 + d, cells := mc, slots := ms, locals := 173 + 33 * d })).room s m #[.ref (a 40)] below meth c dC dI cy a A (fun r => vx_MQ below (xV dC dI cy a A [41, 43, 51] z r) (xX dC dI cy a A [41, 43, 51] z r) #[.ref (a 40)] s mc ms A) [41, 43, 51] z mc ms 4 (f_F2 k d 13 0) (fun z L => [(0, .ref (a 40))]) 0 (fun z L => [])) ∧ (bX p l e (headSpec w_f_X5_word ({ frames := 9 + d, cells := mc, slots := ms, locals := 173 + 33 * d })).room s m #[.ref (a 40)] below meth c dC dI cy a A (fun r => vx_MQ below (xV dC dI cy a A [41, 43, 51] z r) (xX dC dI cy a A [41, 43, 51] z r) #[.ref (a 40)] s mc ms A) [41, 43, 51] z mc ms 4 (f_F2 k d 13 1) (fun z L => [(0, .ref (a 40)), (1, .int (L.1 1))]) 26 (fun z L => [])) ∧ (bX p l e (headSpec w_f_X5_word ({ frames := 9 + d, cells := mc, slots := ms, locals := 173 + 33 * d })).room s m #[.ref (a 40)] below meth c dC dI cy a A (fun r => vx_MQ below (xV dC dI cy a A [41, 43, 51] z r) (xX dC dI cy a A [41, 43, 51] z r) #[.ref (a 40)] s mc ms A) [41, 43, 51] z mc ms 4 (f_F2 k d 13 2) (fun z L => [(0, .ref (a 40)), (1, .int (L.1 1))]) 27 (fun z L => [.int (L.1 100)])) ∧ (bX p l e (headSpec w_f_X5_word ({ frames := 9 + d, cells := mc, slots := ms, locals := 173 + 33 * d })).room s m #[.ref (a 40)] below meth c dC dI cy a A (fun r => vx_MQ below (xV dC dI cy a A [41, 43, 51] z r) (xX dC dI cy a A [41, 43, 51] z r) #[.ref (a 40)] s mc ms A) [41, 43, 51] z mc ms 4 (f_F2 k d 13 3) (fun z L => [(0, .ref (a 40)), (1, .int (L.1 1)), (2, .int (L.1 2))]) 61 (fun z L => [])) ∧ (bX p l e (headSpec w_f_X5_word ({ frames := 9 + d, cells := mc, slots := ms, locals := 173 + 33 * d })).room s m #[.ref (a 40)] below meth c dC dI cy a A (fun r => vx_MQ below (xV dC dI cy a A [41, 43, 51] z r) (xX dC dI cy a A [41, 43, 51] z r) #[.ref (a 40)] s mc ms A) [41, 43, 51] z mc ms 4 (f_F2 k d 13 4) (fun z L => [(0, .ref (a 40)), (2, .int (L.1 2)), (3, .int (L.1 3))]) 87 (fun z L => [])) ∧ (bX p l e (headSpec w_f_X5_word ({ frames := 9 + d, cells := mc, slots := ms, locals := 173 + 33 * d })).room s m #[.ref (a 40)] below meth c dC dI cy a A (fun r => vx_MQ below (xV dC dI cy a A [41, 43, 51] z r) (xX dC dI cy a A [41, 43, 51] z r) #[.ref (a 40)] s mc ms A) [41, 43, 51] z mc ms 4 (f_F2 k d 13 5) (fun z L => [(3, .int (L.1 3))]) 128 (fun z L => [.ref (a (pA (L.2.2.1 100)))])) ∧ (bX p l e (headSpec w_f_X5_word ({ frames := 9 + d, cells := mc, slots := ms, locals := 173 + 33 * d })).room s m #[.ref (a 40)] below meth c dC dI cy a A (fun r => vx_MQ below (xV dC dI cy a A [41, 43, 51] z r) (xX dC dI cy a A [41, 43, 51] z r) #[.ref (a 40)] s mc ms A) [41, 43, 51] z mc ms 4 (f_F2 k d 13 6) (fun z L => []) 129 (fun z L => [.int (L.1 100), .ref (a (pA (L.2.2.1 101)))])) := by
    intro k
    induction k with
    | zero => exact fun _ => ⟨fun z c1 c2 L σ r h => (by cases h), fun z c1 c2 L σ r h => (by cases h), fun z c1 c2 L σ r h => (by cases h), fun z c1 c2 L σ r h => (by cases h), fun z c1 c2 L σ r h => (by cases h), fun z c1 c2 L σ r h => (by cases h), fun z c1 c2 L σ r h => (by cases h)⟩
    | succ k ih =>
      intro hk
      replace ih := ih (by omega)
      refine ⟨?_, ?_, ?_, ?_, ?_, ?_, ?_⟩
      · intro z cells slots L σ r h hzk hc hs H locs ls hP hD hS hl
        rw [f_F2_13, t_X5_word_0] at h
        refine lv_aload_n hx hb dX5_word_0 rfl (lv_at hl 0 rfl) ?_
        refine hg_40_0 hx hb hts in_f_X5_word_X5 hown hK hP (hts _ (List.mem_cons_of_mem _ (List.mem_append_left _ (List.mem_append_left _ (List.mem_of_getElem? (i := 33) rfl))))) dX5_word_1 ?_
        refine hg_37_2n hx hb hts in_f_X5_word_X2 hown hK hP (va_Nw.use rfl (hG.1 _ (List.mem_of_getElem? (i := 52) rfl))) dX5_word_4 ?_
        refine lv_istore_n (lv' := [(1, .int (σ.1 3702)), (0, .ref (a 40))]) hx hb dX5_word_7 rfl hl (by decide) rfl (fun ls hl => ?_)
        refine lv_iload_n hx hb dX5_word_8 rfl (lv_at hl 0 rfl) ?_
        refine lv_bipush (v := 84) hx hb dX5_word_9 (by decide) ?_
        refine lv_icmp_ne (tgt := 26) hx hb dX5_word_11 (by decide) (fun c1 => ?_) (fun c1 => ?_)
        · rw [if_neg c1] at h
          exact ih.2.1 z _ _ (lI L 1 ((σ.1 3702))) σ _ h hzk hc hs H locs ls hP hD hS (lv_sub hl [1, 0] rfl)
        · rw [if_pos c1] at h
          refine lv_aload_n hx hb dX5_word_14 rfl (lv_at hl 1 rfl) ?_
          refine hg_40_4 hx hb hts in_f_X5_word_X5 hown hK hP (hts _ (List.mem_cons_of_mem _ (List.mem_append_left _ (List.mem_append_left _ (List.mem_of_getElem? (i := 151) rfl))))) dX5_word_15 ?_
          refine lv_iconst (v := 1) hx hb dX5_word_18 (by decide) ?_
          refine lv_icmp_lt (tgt := 26) hx hb dX5_word_19 (by decide) (fun c2 => ?_) (fun c2 => ?_)
          · rw [if_pos c2] at h
            exact ih.2.1 z _ _ (lI L 1 ((σ.1 3702))) σ _ h hzk hc hs H locs ls hP hD hS (lv_sub hl [1, 0] rfl)
          · rw [if_neg c2] at h
            refine lv_iconst (v := 1) hx hb dX5_word_22 (by decide) ?_
            refine lv_goto (tgt := 27) hx hb dX5_word_23 (by decide) ?_
            exact ih.2.2.1 z _ _ (lI (lI L 1 ((σ.1 3702))) 100 1) σ _ h hzk hc hs H locs ls hP hD hS (lv_sub hl [1, 0] rfl)
      · intro z cells slots L σ r h hzk hc hs H locs ls hP hD hS hl
        rw [f_F2_13, t_X5_word_1] at h
        refine lv_iconst (v := 0) hx hb dX5_word_26 (by decide) ?_
        exact ih.2.2.1 z _ _ (lI L 100 0) σ _ h hzk hc hs H locs ls hP hD hS (lv_sub hl [0, 1] rfl)
      · intro z cells slots L σ r h hzk hc hs H locs ls hP hD hS hl
        rw [f_F2_13, t_X5_word_2] at h
        refine lv_istore_n (lv' := [(2, .int (L.1 100)), (0, .ref (a 40)), (1, .int (L.1 1))]) hx hb dX5_word_27 rfl hl (by decide) rfl (fun ls hl => ?_)
        refine lv_iload_n hx hb dX5_word_28 rfl (lv_at hl 2 rfl) ?_
        refine lv_bipush (v := 83) hx hb dX5_word_29 (by decide) ?_
        refine lv_icmp_ne (tgt := 61) hx hb dX5_word_31 (by decide) (fun c1 => ?_) (fun c1 => ?_)
        · rw [if_neg c1] at h
          exact ih.2.2.2.1 z _ _ (lI L 2 ((L.1 100))) σ _ h hzk hc hs H locs ls hP hD hS (lv_sub hl [1, 2, 0] rfl)
        · rw [if_pos c1] at h
          refine lv_aload_n hx hb dX5_word_34 rfl (lv_at hl 1 rfl) ?_
          refine hg_40_4 hx hb hts in_f_X5_word_X5 hown hK hP (hts _ (List.mem_cons_of_mem _ (List.mem_append_left _ (List.mem_append_left _ (List.mem_of_getElem? (i := 151) rfl))))) dX5_word_35 ?_
          refine lv_iconst (v := 2) hx hb dX5_word_38 (by decide) ?_
          refine lv_icmp_ne (tgt := 61) hx hb dX5_word_39 (by decide) (fun c2 => ?_) (fun c2 => ?_)
          · rw [if_neg c2] at h
            exact ih.2.2.2.1 z _ _ (lI L 2 ((L.1 100))) σ _ h hzk hc hs H locs ls hP hD hS (lv_sub hl [1, 2, 0] rfl)
          · rw [if_pos c2] at h
            refine lv_aload_n hx hb dX5_word_42 rfl (lv_at hl 1 rfl) ?_
            refine hg_40_0 hx hb hts in_f_X5_word_X5 hown hK hP (hts _ (List.mem_cons_of_mem _ (List.mem_append_left _ (List.mem_append_left _ (List.mem_of_getElem? (i := 33) rfl))))) dX5_word_43 ?_
            obtain ⟨r3, hc3, hle3, h9⟩ := ox_ex h
            clear h
            refine kx_v (vx_runV (As := []) (rest := []) ⟨hx, hb, hml, hown, hts⟩ (c_f_X2_advance l hl0 dC dI cy ek a k lZ σ r3 hc3 z H.size) (cwV 0 hts g_f_X5_word_X2_advance_V30 rfl rfl rfl hd_f_X2_advance (by show 6 + 1 ≤ 9 + d ∧ 8 + (7 + 11) + 100 ≤ 173 + 33 * d; omega)) ⟨nb_blindF, va_recv hK hP (ci := 2) (q0 := 37) rfl rfl, (kx_pre hK hG hE hT hA hP hD hS)⟩ rfl rfl hl.1 rfl (lv_room (Nat.le_of_ble_eq_true rfl)) dX5_word_46 ⟨Nat.le_trans (Nat.add_le_add_left hle3.1 _) (Nat.le_of_eq hc), Nat.le_trans (Nat.add_le_add_left hle3.2 _) (Nat.le_of_eq hs)⟩) hK hA hzk hP hD hS (by decide) hno hlocks ?_
            rcases h9 with ⟨h00, y3, hny3, hy⟩ | ⟨h00, hy⟩
            · subst hy
              have h := hny3
              refine Or.inl ⟨h00, fun u H locs hz3 hzk hP hD hS => ?_⟩
              obtain rfl := (zk_nil hz3).symm
              replace hc := (Nat.add_assoc _ _ _).trans hc
              replace hs := (Nat.add_assoc _ _ _).trans hs
              refine lv_aload_n hx hb dX5_word_49 rfl (lv_at hl 1 rfl) ?_
              obtain ⟨b4, hb4, h⟩ := oP_ex h
              refine hgq_40_2 hx hb hts in_f_X5_word_X5 hown hK hP (hts _ (List.mem_cons_of_mem _ (List.mem_append_left _ (List.mem_append_left _ (List.mem_of_getElem? (i := 24) rfl))))) hb4 dX5_word_50 ?_
              refine lv_bipush (v := 54) hx hb dX5_word_53 (by decide) ?_
              refine lv_iconst (v := 0) hx hb dX5_word_55 (by decide) ?_
              obtain ⟨r5, hc5, hle5, h9⟩ := ox_ex h
              clear h
              refine kx_i (r := y3) (vx_runV (As := [.int 54, .int 0]) (rest := []) ⟨hx, hb, hml, hown, hts⟩ (c_f_X7_emit__P l hl0 dC dI cy ek a k (lI (lI (lB lZ 0 b4) 1 54) 2 0) r3.2.1 r5 hc5 z H.size) (cwV 2 hts g_f_X5_word_X7_emit__P_V66 rfl rfl rfl hd_f_X7_emit__P (by show 7 + 1 ≤ 9 + d ∧ 8 + (3 + 11) + 121 ≤ 173 + 33 * d; omega)) ⟨nb_blindF, recvP b4 hK hP, (kx_pre hK hG hE hT hA hP hD hS)⟩ rfl rfl hl.1 rfl (lv_room (Nat.le_of_ble_eq_true rfl)) dX5_word_56 ⟨Nat.le_trans (Nat.add_le_add_left hle5.1 _) (Nat.le_of_eq hc), Nat.le_trans (Nat.add_le_add_left hle5.2 _) (Nat.le_of_eq hs)⟩) hK hA hzk hP hD hS (by decide) hno hlocks ?_
              rcases h9 with ⟨h00, y5, hny5, hy⟩ | ⟨h00, hy⟩
              · subst hy
                have h := hny5
                refine Or.inl ⟨h00, fun z H locs hz5 hzk hP hD hS => ?_⟩
                replace hc := (Nat.add_assoc _ _ _).trans hc
                replace hs := (Nat.add_assoc _ _ _).trans hs
                refine lv_pop hx hb dX5_word_59 rfl ?_
                obtain rfl := Option.some.inj h
                subst hc
                subst hs
                exact xr_v hx hb hr hK hzk hP hD hS hlocks dX5_word_60
              · subst hy
                exact Or.inr ⟨h00, rfl, hc, hs⟩
            · subst hy
              exact Or.inr ⟨h00, rfl, hc, hs⟩
      · intro z cells slots L σ r h hzk hc hs H locs ls hP hD hS hl
        rw [f_F2_13, t_X5_word_3] at h
        refine lv_iload_n hx hb dX5_word_61 rfl (lv_at hl 1 rfl) ?_
        obtain ⟨r1, hc1, h⟩ := op_ex h
        refine kc_i (va_runS (As := [.int (L.1 1)]) (rest := []) ⟨hx, hb, hml, hown, hts⟩ (c_y_X5_wordOp l dC dI cy a z k (lI lZ 0 ((L.1 1))) σ r1 hc1 H.size) (va_cwS 1 hts g_y_X5_word_X5_wordOp_S447 rfl rfl rfl hd_y_X5_wordOp (by show 0 + 1 ≤ 9 + d ∧ 8 + (1 + 11) + 0 ≤ 173 + 33 * d; omega)) ⟨nb_blind, (kb_pre hK hG hP hD)⟩ rfl rfl hl.1 rfl (lv_room (Nat.le_of_ble_eq_true rfl)) dX5_word_62 ⟨(Nat.le_trans (Nat.le_add_right _ _) (Nat.le_of_eq hc)), (Nat.le_trans (Nat.le_add_right _ _) (Nat.le_of_eq hs))⟩) hA hP hD hS (fun H locs hP hD hS => ?_)
        refine lv_istore_n (lv' := [(3, .int r1.1), (0, .ref (a 40)), (1, .int (L.1 1)), (2, .int (L.1 2))]) hx hb dX5_word_65 rfl hl (by decide) rfl (fun ls hl => ?_)
        refine lv_iload_n hx hb dX5_word_66 rfl (lv_at hl 0 rfl) ?_
        refine lv_iconst (v := (-1)) hx hb dX5_word_67 (by decide) ?_
        refine lv_icmp_ne (tgt := 87) hx hb dX5_word_68 (by decide) (fun c2 => ?_) (fun c2 => ?_)
        · rw [if_neg c2] at h
          exact ih.2.2.2.2.1 z _ _ (lI L 3 r1.1) r1.2 _ h hzk hc hs H locs ls hP hD hS (lv_sub hl [1, 3, 0] rfl)
        · rw [if_pos c2] at h
          refine lv_iload_n hx hb dX5_word_71 rfl (lv_at hl 3 rfl) ?_
          refine lv_if_ne (tgt := 87) hx hb dX5_word_72 (by decide) (fun c3 => ?_) (fun c3 => ?_)
          · rw [if_neg c3] at h
            exact ih.2.2.2.2.1 z _ _ (lI L 3 r1.1) r1.2 _ h hzk hc hs H locs ls hP hD hS (lv_sub hl [1, 3, 0] rfl)
          · rw [if_pos c3] at h
            refine lv_aload_n hx hb dX5_word_75 rfl (lv_at hl 1 rfl) ?_
            refine lv_iconst (v := 2) hx hb dX5_word_76 (by decide) ?_
            refine lv_aload_n hx hb dX5_word_77 rfl (lv_at hl 1 rfl) ?_
            refine hg_40_0 hx hb hts in_f_X5_word_X5 hown hK hP (hts _ (List.mem_cons_of_mem _ (List.mem_append_left _ (List.mem_append_left _ (List.mem_of_getElem? (i := 33) rfl))))) dX5_word_78 ?_
            refine hg_37_3n hx hb hts in_f_X5_word_X2 hown hK hP (va_Nw.use rfl (hG.1 _ (List.mem_of_getElem? (i := 54) rfl))) dX5_word_81 ?_
            obtain ⟨r4, hc4, hle4, h9⟩ := ox_ex h
            clear h
            refine kx_v (vx_runV (As := [.int 2, .int (r1.2.1 3703)]) (rest := []) ⟨hx, hb, hml, hown, hts⟩ (c_f_X5_refuse l hl0 dC dI cy ek a k (lI (lI lZ 1 2) 2 ((r1.2.1 3703))) r1.2 r4 hc4 z H.size) (cwV 2 hts g_f_X5_word_X5_refuse_V125 rfl rfl rfl hd_f_X5_refuse (by show 6 + 1 ≤ 9 + d ∧ 8 + (3 + 11) + 100 ≤ 173 + 33 * d; omega)) ⟨nb_blindF, va_recv hK hP (ci := 4) (q0 := 40) rfl rfl, (kx_pre hK hG hE hT hA hP hD hS)⟩ rfl rfl hl.1 rfl (lv_room (Nat.le_of_ble_eq_true rfl)) dX5_word_84 ⟨Nat.le_trans (Nat.add_le_add_left hle4.1 _) (Nat.le_of_eq hc), Nat.le_trans (Nat.add_le_add_left hle4.2 _) (Nat.le_of_eq hs)⟩) hK hA hzk hP hD hS (by decide) hno hlocks ?_
            rcases h9 with ⟨h00, y4, hny4, hy⟩ | ⟨h00, hy⟩
            · subst hy
              have h := hny4
              refine Or.inl ⟨h00, fun u H locs hz4 hzk hP hD hS => ?_⟩
              obtain rfl := (zk_nil hz4).symm
              replace hc := (Nat.add_assoc _ _ _).trans hc
              replace hs := (Nat.add_assoc _ _ _).trans hs
              exact ih.2.2.2.2.1 z _ _ (lI L 3 r1.1) r4.2.1 _ h hzk hc hs H locs ls hP hD hS (lv_sub hl [1, 3, 0] rfl)
            · subst hy
              exact Or.inr ⟨h00, rfl, hc, hs⟩
      · intro z cells slots L σ r h hzk hc hs H locs ls hP hD hS hl
        rw [f_F2_13, t_X5_word_4] at h
        refine lv_aload_n hx hb dX5_word_87 rfl (lv_at hl 0 rfl) ?_
        refine hg_40_0 hx hb hts in_f_X5_word_X5 hown hK hP (hts _ (List.mem_cons_of_mem _ (List.mem_append_left _ (List.mem_append_left _ (List.mem_of_getElem? (i := 33) rfl))))) dX5_word_88 ?_
        obtain ⟨r1, hc1, hle1, h9⟩ := ox_ex h
        clear h
        refine kx_v (vx_runV (As := []) (rest := []) ⟨hx, hb, hml, hown, hts⟩ (c_f_X2_advance l hl0 dC dI cy ek a k lZ σ r1 hc1 z H.size) (cwV 0 hts g_f_X5_word_X2_advance_V30 rfl rfl rfl hd_f_X2_advance (by show 6 + 1 ≤ 9 + d ∧ 8 + (7 + 11) + 100 ≤ 173 + 33 * d; omega)) ⟨nb_blindF, va_recv hK hP (ci := 2) (q0 := 37) rfl rfl, (kx_pre hK hG hE hT hA hP hD hS)⟩ rfl rfl hl.1 rfl (lv_room (Nat.le_of_ble_eq_true rfl)) dX5_word_91 ⟨Nat.le_trans (Nat.add_le_add_left hle1.1 _) (Nat.le_of_eq hc), Nat.le_trans (Nat.add_le_add_left hle1.2 _) (Nat.le_of_eq hs)⟩) hK hA hzk hP hD hS (by decide) hno hlocks ?_
        rcases h9 with ⟨h00, y1, hny1, hy⟩ | ⟨h00, hy⟩
        · subst hy
          have h := hny1
          refine Or.inl ⟨h00, fun u H locs hz1 hzk hP hD hS => ?_⟩
          obtain rfl := (zk_nil hz1).symm
          replace hc := (Nat.add_assoc _ _ _).trans hc
          replace hs := (Nat.add_assoc _ _ _).trans hs
          refine lv_aload_n hx hb dX5_word_94 rfl (lv_at hl 0 rfl) ?_
          refine lv_bipush (v := 10) hx hb dX5_word_95 (by decide) ?_
          obtain ⟨r2, hc2, hle2, h9⟩ := ox_ex h
          clear h
          refine kx_v (r := y1) (vx_runV (As := [.int 10]) (rest := []) ⟨hx, hb, hml, hown, hts⟩ (c_f_X5_want l hl0 dC dI cy ek a k (lI lZ 1 10) r1.2.1 r2 hc2 z H.size) (cwV 1 hts g_f_X5_word_X5_want_V61 rfl rfl rfl hd_f_X5_want (by show 7 + 1 ≤ 9 + d ∧ 8 + (2 + 11) + 122 ≤ 173 + 33 * d; omega)) ⟨nb_blindF, va_recv hK hP (ci := 4) (q0 := 40) rfl rfl, (kx_pre hK hG hE hT hA hP hD hS)⟩ rfl rfl hl.1 rfl (lv_room (Nat.le_of_ble_eq_true rfl)) dX5_word_97 ⟨Nat.le_trans (Nat.add_le_add_left hle2.1 _) (Nat.le_of_eq hc), Nat.le_trans (Nat.add_le_add_left hle2.2 _) (Nat.le_of_eq hs)⟩) hK hA hzk hP hD hS (by decide) hno hlocks ?_
          rcases h9 with ⟨h00, y2, hny2, hy⟩ | ⟨h00, hy⟩
          · subst hy
            have h := hny2
            refine Or.inl ⟨h00, fun u H locs hz2 hzk hP hD hS => ?_⟩
            obtain rfl := (zk_nil hz2).symm
            replace hc := (Nat.add_assoc _ _ _).trans hc
            replace hs := (Nat.add_assoc _ _ _).trans hs
            refine lv_aload_n hx hb dX5_word_100 rfl (lv_at hl 0 rfl) ?_
            obtain ⟨r3, hc3, hle3, h9⟩ := ox_ex h
            clear h
            refine kx_v (r := y2) (vx_runV (As := []) (rest := []) ⟨hx, hb, hml, hown, hts⟩ (c_f_X5_opens l hl0 dC dI cy ek a k lZ r2.2.1 r3 hc3 z H.size) (cwV 0 hts g_f_X5_word_X5_opens_V173 rfl rfl rfl hd_f_X5_opens (by show 7 + 1 ≤ 9 + d ∧ 8 + (1 + 11) + 126 ≤ 173 + 33 * d; omega)) ⟨nb_blindF, va_recv hK hP (ci := 4) (q0 := 40) rfl rfl, (kx_pre hK hG hE hT hA hP hD hS)⟩ rfl rfl hl.1 rfl (lv_room (Nat.le_of_ble_eq_true rfl)) dX5_word_101 ⟨Nat.le_trans (Nat.add_le_add_left hle3.1 _) (Nat.le_of_eq hc), Nat.le_trans (Nat.add_le_add_left hle3.2 _) (Nat.le_of_eq hs)⟩) hK hA hzk hP hD hS (by decide) hno hlocks ?_
            rcases h9 with ⟨h00, y3, hny3, hy⟩ | ⟨h00, hy⟩
            · subst hy
              have h := hny3
              refine Or.inl ⟨h00, fun u H locs hz3 hzk hP hD hS => ?_⟩
              obtain rfl := (zk_nil hz3).symm
              replace hc := (Nat.add_assoc _ _ _).trans hc
              replace hs := (Nat.add_assoc _ _ _).trans hs
              refine lv_aload_n hx hb dX5_word_104 rfl (lv_at hl 0 rfl) ?_
              refine lv_iconst (v := 0) hx hb dX5_word_105 (by decide) ?_
              obtain ⟨e4, he4, h⟩ := of_ex h
              obtain ⟨r4, hc4, hle4, h9⟩ := ox_ex h
              clear h
              refine kx_v (r := y3) (vx_runV (As := [.int 0]) (rest := []) ⟨hx, hb, hml, hown, hts⟩ ((IH k (by omega)).2.1 e4 (lI lZ 1 0) r3.2.1 r4 hc4 z H.size) (cwV 1 hts g_f_X5_word_X5_exp_V90 rfl rfl rfl hd_f_X5_exp (by show (9 + e4) + 1 ≤ 9 + d ∧ 8 + (8 + 11) + (173 + 33 * e4) ≤ 173 + 33 * d; omega)) ⟨nb_blindF, va_recv hK hP (ci := 4) (q0 := 40) rfl rfl, (kx_pre hK hG hE hT hA hP hD hS)⟩ rfl rfl hl.1 rfl (lv_room (Nat.le_of_ble_eq_true rfl)) dX5_word_106 ⟨Nat.le_trans (Nat.add_le_add_left hle4.1 _) (Nat.le_of_eq hc), Nat.le_trans (Nat.add_le_add_left hle4.2 _) (Nat.le_of_eq hs)⟩) hK hA hzk hP hD hS (by decide) hno hlocks ?_
              rcases h9 with ⟨h00, y4, hny4, hy⟩ | ⟨h00, hy⟩
              · subst hy
                have h := hny4
                refine Or.inl ⟨h00, fun z H locs hz4 hzk hP hD hS => ?_⟩
                replace hc := (Nat.add_assoc _ _ _).trans hc
                replace hs := (Nat.add_assoc _ _ _).trans hs
                refine lv_aload_n hx hb dX5_word_109 rfl (lv_at hl 0 rfl) ?_
                refine lv_bipush (v := 11) hx hb dX5_word_110 (by decide) ?_
                obtain ⟨r5, hc5, hle5, h9⟩ := ox_ex h
                clear h
                refine kx_v (r := y4) (vx_runV (As := [.int 11]) (rest := []) ⟨hx, hb, hml, hown, hts⟩ (c_f_X5_closes l hl0 dC dI cy ek a k (lI lZ 1 11) r4.2.1 r5 hc5 z H.size) (cwV 1 hts g_f_X5_word_X5_closes_V186 rfl rfl rfl hd_f_X5_closes (by show 7 + 1 ≤ 9 + d ∧ 8 + (2 + 11) + 126 ≤ 173 + 33 * d; omega)) ⟨nb_blindF, va_recv hK hP (ci := 4) (q0 := 40) rfl rfl, (kx_pre hK hG hE hT hA hP hD hS)⟩ rfl rfl hl.1 rfl (lv_room (Nat.le_of_ble_eq_true rfl)) dX5_word_112 ⟨Nat.le_trans (Nat.add_le_add_left hle5.1 _) (Nat.le_of_eq hc), Nat.le_trans (Nat.add_le_add_left hle5.2 _) (Nat.le_of_eq hs)⟩) hK hA hzk hP hD hS (by decide) hno hlocks ?_
                rcases h9 with ⟨h00, y5, hny5, hy⟩ | ⟨h00, hy⟩
                · subst hy
                  have h := hny5
                  refine Or.inl ⟨h00, fun u H locs hz5 hzk hP hD hS => ?_⟩
                  obtain rfl := (zk_nil hz5).symm
                  replace hc := (Nat.add_assoc _ _ _).trans hc
                  replace hs := (Nat.add_assoc _ _ _).trans hs
                  refine lv_aload_n hx hb dX5_word_115 rfl (lv_at hl 0 rfl) ?_
                  obtain ⟨b6, hb6, h⟩ := oP_ex h
                  refine hgq_40_2 hx hb hts in_f_X5_word_X5 hown hK hP (hts _ (List.mem_cons_of_mem _ (List.mem_append_left _ (List.mem_append_left _ (List.mem_of_getElem? (i := 24) rfl))))) hb6 dX5_word_116 ?_
                  refine lv_iload_n hx hb dX5_word_119 rfl (lv_at hl 1 rfl) ?_
                  refine lv_if_eq (tgt := 128) hx hb dX5_word_120 (by decide) (fun c7 => ?_) (fun c7 => ?_)
                  · rw [if_pos c7] at h
                    exact ih.2.2.2.2.2.1 z _ _ (lB L 100 b6) r5.2.1 _ h hzk hc hs H locs ls hP hD hS (lv_sub hl [2] rfl)
                  · rw [if_neg c7] at h
                    refine lv_bipush (v := 55) hx hb dX5_word_123 (by decide) ?_
                    refine lv_goto (tgt := 129) hx hb dX5_word_125 (by decide) ?_
                    exact ih.2.2.2.2.2.2 z _ _ (lB (lI L 100 55) 101 b6) r5.2.1 _ h hzk hc hs H locs ls hP hD hS (lv_sub hl [] rfl)
                · subst hy
                  exact Or.inr ⟨h00, rfl, hc, hs⟩
              · subst hy
                exact Or.inr ⟨h00, rfl, hc, hs⟩
            · subst hy
              exact Or.inr ⟨h00, rfl, hc, hs⟩
          · subst hy
            exact Or.inr ⟨h00, rfl, hc, hs⟩
        · subst hy
          exact Or.inr ⟨h00, rfl, hc, hs⟩
      · intro z cells slots L σ r h hzk hc hs H locs ls hP hD hS hl
        rw [f_F2_13, t_X5_word_5] at h
        refine lv_iload_n hx hb dX5_word_128 rfl (lv_at hl 0 rfl) ?_
        exact ih.2.2.2.2.2.2 z _ _ (lB (lI L 100 ((L.1 3))) 101 ((L.2.2.1 100))) σ _ h hzk hc hs H locs ls hP hD hS (lv_sub hl [] rfl)
      · intro z cells slots L σ r h hzk hc hs H locs ls hP hD hS hl
        rw [f_F2_13, t_X5_word_6] at h
        refine lv_iconst (v := 0) hx hb dX5_word_129 (by decide) ?_
        obtain ⟨r1, hc1, hle1, h9⟩ := ox_ex h
        clear h
        refine kx_i (vx_runV (As := [.int (L.1 100), .int 0]) (rest := []) ⟨hx, hb, hml, hown, hts⟩ (c_f_X7_emit__P l hl0 dC dI cy ek a k (lI (lI (lB lZ 0 ((L.2.2.1 101))) 1 ((L.1 100))) 2 0) σ r1 hc1 z H.size) (cwV 2 hts g_f_X5_word_X7_emit__P_V66 rfl rfl rfl hd_f_X7_emit__P (by show 7 + 1 ≤ 9 + d ∧ 8 + (3 + 11) + 121 ≤ 173 + 33 * d; omega)) ⟨nb_blindF, recvP ((L.2.2.1 101)) hK hP, (kx_pre hK hG hE hT hA hP hD hS)⟩ rfl rfl hl.1 rfl (lv_room (Nat.le_of_ble_eq_true rfl)) dX5_word_130 ⟨Nat.le_trans (Nat.add_le_add_left hle1.1 _) (Nat.le_of_eq hc), Nat.le_trans (Nat.add_le_add_left hle1.2 _) (Nat.le_of_eq hs)⟩) hK hA hzk hP hD hS (by decide) hno hlocks ?_
        rcases h9 with ⟨h00, y1, hny1, hy⟩ | ⟨h00, hy⟩
        · subst hy
          have h := hny1
          refine Or.inl ⟨h00, fun z H locs hz1 hzk hP hD hS => ?_⟩
          replace hc := (Nat.add_assoc _ _ _).trans hc
          replace hs := (Nat.add_assoc _ _ _).trans hs
          refine lv_pop hx hb dX5_word_133 rfl ?_
          obtain rfl := Option.some.inj h
          subst hc
          subst hs
          exact xr_v hx hb hr hK hzk hP hD hS hlocks dX5_word_134
        · subst hy
          exact Or.inr ⟨h00, rfl, hc, hs⟩
  exact (blk k0 (Nat.le_refl _)).1 z 0 0 L0 σ0 r0 h0 (zk_rf _ _) ((Nat.zero_add _).trans hmc) ((Nat.zero_add _).trans hms) s.heap [] ls hP hD hS hl
theorem c_F2 (l : Launch) (hl0 : l.stackTraces = false) (dC : Nat → ClassId) (dI : Nat → Nat → Nat) (cy : Nat → ClassId) (ek a : Nat → Nat) : ∀ k0 : Nat, P_F2 l dC dI cy ek a k0 := by
  intro k0
  induction k0 using Nat.strongRecOn with
  | ind k0 IH => exact ⟨c_t_X5_choice l hl0 dC dI cy ek a k0 IH, c_t_X5_exp l hl0 dC dI cy ek a k0 IH, c_t_X5_exps l hl0 dC dI cy ek a k0 IH, c_t_X5_former l hl0 dC dI cy ek a k0 IH, c_t_X5_functionCall l hl0 dC dI cy ek a k0 IH, c_t_X5_iters l hl0 dC dI cy ek a k0 IH, c_t_X5_members l hl0 dC dI cy ek a k0 IH, c_t_X5_named l hl0 dC dI cy ek a k0 IH, c_t_X5_operand l hl0 dC dI cy ek a k0 IH, c_t_X5_part l hl0 dC dI cy ek a k0 IH, c_t_X5_primary l hl0 dC dI cy ek a k0 IH, c_t_X5_quantifier l hl0 dC dI cy ek a k0 IH, c_t_X5_row l hl0 dC dI cy ek a k0 IH, c_t_X5_word l hl0 dC dI cy ek a k0 IH⟩
def f_X5_choice (k b : Nat) (L : LV) (σ : CS) : Option RS := f_F2 k 400 0 b L σ
theorem c_f_X5_choice (l : Launch) (hl0 : l.stackTraces = false) (dC : Nat → ClassId) (dI : Nat → Nat → Nat) (cy : Nat → ClassId) (ek a : Nat → Nat) (k0 : Nat) (L0 : LV) (σ0 : CS) (r0 : RS) (h0 : f_X5_choice k0 0 L0 σ0 = some r0) (z : Nat → Nat) (sz : Nat) : vx_Met l yX5_choice w_f_X5_choice ({ frames := 409, cells := r0.2.2.1, slots := r0.2.2.2, locals := 13373 }) (va_Pc [.ref (a 40)] (nInF (dC, dI) cy ek sz (vC cy a z σ0))) (xV dC dI cy a (va_A (vC cy a z σ0) sz) [41, 43, 51] z r0) (xX dC dI cy a (va_A (vC cy a z σ0) sz) [41, 43, 51] z r0) r0.2.2.1 r0.2.2.2 (va_A (vC cy a z σ0) sz) := (c_F2 l hl0 dC dI cy ek a k0).1 400 L0 σ0 r0 h0 z sz
def f_X5_exp (k b : Nat) (L : LV) (σ : CS) : Option RS := f_F2 k 400 1 b L σ
theorem c_f_X5_exp (l : Launch) (hl0 : l.stackTraces = false) (dC : Nat → ClassId) (dI : Nat → Nat → Nat) (cy : Nat → ClassId) (ek a : Nat → Nat) (k0 : Nat) (L0 : LV) (σ0 : CS) (r0 : RS) (h0 : f_X5_exp k0 0 L0 σ0 = some r0) (z : Nat → Nat) (sz : Nat) : vx_Met l yX5_exp w_f_X5_exp ({ frames := 409, cells := r0.2.2.1, slots := r0.2.2.2, locals := 13373 }) (va_Pc [.ref (a 40), .int (L0.1 1)] (nInF (dC, dI) cy ek sz (vC cy a z σ0))) (xV dC dI cy a (va_A (vC cy a z σ0) sz) [41, 43, 51] z r0) (xX dC dI cy a (va_A (vC cy a z σ0) sz) [41, 43, 51] z r0) r0.2.2.1 r0.2.2.2 (va_A (vC cy a z σ0) sz) := (c_F2 l hl0 dC dI cy ek a k0).2.1 400 L0 σ0 r0 h0 z sz
def f_X5_exps (k b : Nat) (L : LV) (σ : CS) : Option RS := f_F2 k 400 2 b L σ
theorem c_f_X5_exps (l : Launch) (hl0 : l.stackTraces = false) (dC : Nat → ClassId) (dI : Nat → Nat → Nat) (cy : Nat → ClassId) (ek a : Nat → Nat) (k0 : Nat) (L0 : LV) (σ0 : CS) (r0 : RS) (h0 : f_X5_exps k0 0 L0 σ0 = some r0) (z : Nat → Nat) (sz : Nat) : vx_Met l yX5_exps w_f_X5_exps ({ frames := 409, cells := r0.2.2.1, slots := r0.2.2.2, locals := 13373 }) (va_Pc [.ref (a 40)] (nInF (dC, dI) cy ek sz (vC cy a z σ0))) (xI dC dI cy a (va_A (vC cy a z σ0) sz) [41, 43, 51] z r0) (xX dC dI cy a (va_A (vC cy a z σ0) sz) [41, 43, 51] z r0) r0.2.2.1 r0.2.2.2 (va_A (vC cy a z σ0) sz) := (c_F2 l hl0 dC dI cy ek a k0).2.2.1 400 L0 σ0 r0 h0 z sz
def f_X5_former (k b : Nat) (L : LV) (σ : CS) : Option RS := f_F2 k 400 3 b L σ
theorem c_f_X5_former (l : Launch) (hl0 : l.stackTraces = false) (dC : Nat → ClassId) (dI : Nat → Nat → Nat) (cy : Nat → ClassId) (ek a : Nat → Nat) (k0 : Nat) (L0 : LV) (σ0 : CS) (r0 : RS) (h0 : f_X5_former k0 0 L0 σ0 = some r0) (z : Nat → Nat) (sz : Nat) : vx_Met l yX5_former w_f_X5_former ({ frames := 409, cells := r0.2.2.1, slots := r0.2.2.2, locals := 13373 }) (va_Pc [.ref (a 40), .int (L0.1 1)] (nInF (dC, dI) cy ek sz (vC cy a z σ0))) (xV dC dI cy a (va_A (vC cy a z σ0) sz) [41, 43, 51] z r0) (xX dC dI cy a (va_A (vC cy a z σ0) sz) [41, 43, 51] z r0) r0.2.2.1 r0.2.2.2 (va_A (vC cy a z σ0) sz) := (c_F2 l hl0 dC dI cy ek a k0).2.2.2.1 400 L0 σ0 r0 h0 z sz
def f_X5_functionCall (k b : Nat) (L : LV) (σ : CS) : Option RS := f_F2 k 400 4 b L σ
theorem c_f_X5_functionCall (l : Launch) (hl0 : l.stackTraces = false) (dC : Nat → ClassId) (dI : Nat → Nat → Nat) (cy : Nat → ClassId) (ek a : Nat → Nat) (k0 : Nat) (L0 : LV) (σ0 : CS) (r0 : RS) (h0 : f_X5_functionCall k0 0 L0 σ0 = some r0) (z : Nat → Nat) (sz : Nat) : vx_Met l yX5_functionCall w_f_X5_functionCall ({ frames := 409, cells := r0.2.2.1, slots := r0.2.2.2, locals := 13373 }) (va_Pc [.ref (a 40), .int (L0.1 1)] (nInF (dC, dI) cy ek sz (vC cy a z σ0))) (xV dC dI cy a (va_A (vC cy a z σ0) sz) [41, 43, 51] z r0) (xX dC dI cy a (va_A (vC cy a z σ0) sz) [41, 43, 51] z r0) r0.2.2.1 r0.2.2.2 (va_A (vC cy a z σ0) sz) := (c_F2 l hl0 dC dI cy ek a k0).2.2.2.2.1 400 L0 σ0 r0 h0 z sz
def f_X5_iters (k b : Nat) (L : LV) (σ : CS) : Option RS := f_F2 k 400 5 b L σ
theorem c_f_X5_iters (l : Launch) (hl0 : l.stackTraces = false) (dC : Nat → ClassId) (dI : Nat → Nat → Nat) (cy : Nat → ClassId) (ek a : Nat → Nat) (k0 : Nat) (L0 : LV) (σ0 : CS) (r0 : RS) (h0 : f_X5_iters k0 0 L0 σ0 = some r0) (z : Nat → Nat) (sz : Nat) : vx_Met l yX5_iters w_f_X5_iters ({ frames := 409, cells := r0.2.2.1, slots := r0.2.2.2, locals := 13373 }) (va_Pc [.ref (a 40), .int (L0.1 1)] (nInF (dC, dI) cy ek sz (vC cy a z σ0))) (xV dC dI cy a (va_A (vC cy a z σ0) sz) [41, 43, 51] z r0) (xX dC dI cy a (va_A (vC cy a z σ0) sz) [41, 43, 51] z r0) r0.2.2.1 r0.2.2.2 (va_A (vC cy a z σ0) sz) := (c_F2 l hl0 dC dI cy ek a k0).2.2.2.2.2.1 400 L0 σ0 r0 h0 z sz
def f_X5_members (k b : Nat) (L : LV) (σ : CS) : Option RS := f_F2 k 400 6 b L σ
theorem c_f_X5_members (l : Launch) (hl0 : l.stackTraces = false) (dC : Nat → ClassId) (dI : Nat → Nat → Nat) (cy : Nat → ClassId) (ek a : Nat → Nat) (k0 : Nat) (L0 : LV) (σ0 : CS) (r0 : RS) (h0 : f_X5_members k0 0 L0 σ0 = some r0) (z : Nat → Nat) (sz : Nat) : vx_Met l yX5_members w_f_X5_members ({ frames := 409, cells := r0.2.2.1, slots := r0.2.2.2, locals := 13373 }) (va_Pc [.ref (a 40), .int (L0.1 1)] (nInF (dC, dI) cy ek sz (vC cy a z σ0))) (xV dC dI cy a (va_A (vC cy a z σ0) sz) [41, 43, 51] z r0) (xX dC dI cy a (va_A (vC cy a z σ0) sz) [41, 43, 51] z r0) r0.2.2.1 r0.2.2.2 (va_A (vC cy a z σ0) sz) := (c_F2 l hl0 dC dI cy ek a k0).2.2.2.2.2.2.1 400 L0 σ0 r0 h0 z sz
def f_X5_named (k b : Nat) (L : LV) (σ : CS) : Option RS := f_F2 k 400 7 b L σ
theorem c_f_X5_named (l : Launch) (hl0 : l.stackTraces = false) (dC : Nat → ClassId) (dI : Nat → Nat → Nat) (cy : Nat → ClassId) (ek a : Nat → Nat) (k0 : Nat) (L0 : LV) (σ0 : CS) (r0 : RS) (h0 : f_X5_named k0 0 L0 σ0 = some r0) (z : Nat → Nat) (sz : Nat) : vx_Met l yX5_named w_f_X5_named ({ frames := 409, cells := r0.2.2.1, slots := r0.2.2.2, locals := 13373 }) (va_Pc [.ref (a 40)] (nInF (dC, dI) cy ek sz (vC cy a z σ0))) (xI dC dI cy a (va_A (vC cy a z σ0) sz) [41, 43, 51] z r0) (xX dC dI cy a (va_A (vC cy a z σ0) sz) [41, 43, 51] z r0) r0.2.2.1 r0.2.2.2 (va_A (vC cy a z σ0) sz) := (c_F2 l hl0 dC dI cy ek a k0).2.2.2.2.2.2.2.1 400 L0 σ0 r0 h0 z sz
def f_X5_operand (k b : Nat) (L : LV) (σ : CS) : Option RS := f_F2 k 400 8 b L σ
theorem c_f_X5_operand (l : Launch) (hl0 : l.stackTraces = false) (dC : Nat → ClassId) (dI : Nat → Nat → Nat) (cy : Nat → ClassId) (ek a : Nat → Nat) (k0 : Nat) (L0 : LV) (σ0 : CS) (r0 : RS) (h0 : f_X5_operand k0 0 L0 σ0 = some r0) (z : Nat → Nat) (sz : Nat) : vx_Met l yX5_operand w_f_X5_operand ({ frames := 409, cells := r0.2.2.1, slots := r0.2.2.2, locals := 13373 }) (va_Pc [.ref (a 40)] (nInF (dC, dI) cy ek sz (vC cy a z σ0))) (xV dC dI cy a (va_A (vC cy a z σ0) sz) [41, 43, 51] z r0) (xX dC dI cy a (va_A (vC cy a z σ0) sz) [41, 43, 51] z r0) r0.2.2.1 r0.2.2.2 (va_A (vC cy a z σ0) sz) := (c_F2 l hl0 dC dI cy ek a k0).2.2.2.2.2.2.2.2.1 400 L0 σ0 r0 h0 z sz
def f_X5_part (k b : Nat) (L : LV) (σ : CS) : Option RS := f_F2 k 400 9 b L σ
theorem c_f_X5_part (l : Launch) (hl0 : l.stackTraces = false) (dC : Nat → ClassId) (dI : Nat → Nat → Nat) (cy : Nat → ClassId) (ek a : Nat → Nat) (k0 : Nat) (L0 : LV) (σ0 : CS) (r0 : RS) (h0 : f_X5_part k0 0 L0 σ0 = some r0) (z : Nat → Nat) (sz : Nat) : vx_Met l yX5_part w_f_X5_part ({ frames := 409, cells := r0.2.2.1, slots := r0.2.2.2, locals := 13373 }) (va_Pc [.ref (a 40)] (nInF (dC, dI) cy ek sz (vC cy a z σ0))) (xI dC dI cy a (va_A (vC cy a z σ0) sz) [41, 43, 51] z r0) (xX dC dI cy a (va_A (vC cy a z σ0) sz) [41, 43, 51] z r0) r0.2.2.1 r0.2.2.2 (va_A (vC cy a z σ0) sz) := (c_F2 l hl0 dC dI cy ek a k0).2.2.2.2.2.2.2.2.2.1 400 L0 σ0 r0 h0 z sz
def f_X5_primary (k b : Nat) (L : LV) (σ : CS) : Option RS := f_F2 k 400 10 b L σ
theorem c_f_X5_primary (l : Launch) (hl0 : l.stackTraces = false) (dC : Nat → ClassId) (dI : Nat → Nat → Nat) (cy : Nat → ClassId) (ek a : Nat → Nat) (k0 : Nat) (L0 : LV) (σ0 : CS) (r0 : RS) (h0 : f_X5_primary k0 0 L0 σ0 = some r0) (z : Nat → Nat) (sz : Nat) : vx_Met l yX5_primary w_f_X5_primary ({ frames := 409, cells := r0.2.2.1, slots := r0.2.2.2, locals := 13373 }) (va_Pc [.ref (a 40)] (nInF (dC, dI) cy ek sz (vC cy a z σ0))) (xI dC dI cy a (va_A (vC cy a z σ0) sz) [41, 43, 51] z r0) (xX dC dI cy a (va_A (vC cy a z σ0) sz) [41, 43, 51] z r0) r0.2.2.1 r0.2.2.2 (va_A (vC cy a z σ0) sz) := (c_F2 l hl0 dC dI cy ek a k0).2.2.2.2.2.2.2.2.2.2.1 400 L0 σ0 r0 h0 z sz
def f_X5_quantifier (k b : Nat) (L : LV) (σ : CS) : Option RS := f_F2 k 400 11 b L σ
theorem c_f_X5_quantifier (l : Launch) (hl0 : l.stackTraces = false) (dC : Nat → ClassId) (dI : Nat → Nat → Nat) (cy : Nat → ClassId) (ek a : Nat → Nat) (k0 : Nat) (L0 : LV) (σ0 : CS) (r0 : RS) (h0 : f_X5_quantifier k0 0 L0 σ0 = some r0) (z : Nat → Nat) (sz : Nat) : vx_Met l yX5_quantifier w_f_X5_quantifier ({ frames := 409, cells := r0.2.2.1, slots := r0.2.2.2, locals := 13373 }) (va_Pc [.ref (a 40)] (nInF (dC, dI) cy ek sz (vC cy a z σ0))) (xV dC dI cy a (va_A (vC cy a z σ0) sz) [41, 43, 51] z r0) (xX dC dI cy a (va_A (vC cy a z σ0) sz) [41, 43, 51] z r0) r0.2.2.1 r0.2.2.2 (va_A (vC cy a z σ0) sz) := (c_F2 l hl0 dC dI cy ek a k0).2.2.2.2.2.2.2.2.2.2.2.1 400 L0 σ0 r0 h0 z sz
def f_X5_row (k b : Nat) (L : LV) (σ : CS) : Option RS := f_F2 k 400 12 b L σ
theorem c_f_X5_row (l : Launch) (hl0 : l.stackTraces = false) (dC : Nat → ClassId) (dI : Nat → Nat → Nat) (cy : Nat → ClassId) (ek a : Nat → Nat) (k0 : Nat) (L0 : LV) (σ0 : CS) (r0 : RS) (h0 : f_X5_row k0 0 L0 σ0 = some r0) (z : Nat → Nat) (sz : Nat) : vx_Met l yX5_row w_f_X5_row ({ frames := 409, cells := r0.2.2.1, slots := r0.2.2.2, locals := 13373 }) (va_Pc [.ref (a 40), .int (L0.1 1), .int (L0.1 2)] (nInF (dC, dI) cy ek sz (vC cy a z σ0))) (xV dC dI cy a (va_A (vC cy a z σ0) sz) [41, 43, 51] z r0) (xX dC dI cy a (va_A (vC cy a z σ0) sz) [41, 43, 51] z r0) r0.2.2.1 r0.2.2.2 (va_A (vC cy a z σ0) sz) := (c_F2 l hl0 dC dI cy ek a k0).2.2.2.2.2.2.2.2.2.2.2.2.1 400 L0 σ0 r0 h0 z sz
def f_X5_word (k b : Nat) (L : LV) (σ : CS) : Option RS := f_F2 k 400 13 b L σ
theorem c_f_X5_word (l : Launch) (hl0 : l.stackTraces = false) (dC : Nat → ClassId) (dI : Nat → Nat → Nat) (cy : Nat → ClassId) (ek a : Nat → Nat) (k0 : Nat) (L0 : LV) (σ0 : CS) (r0 : RS) (h0 : f_X5_word k0 0 L0 σ0 = some r0) (z : Nat → Nat) (sz : Nat) : vx_Met l yX5_word w_f_X5_word ({ frames := 409, cells := r0.2.2.1, slots := r0.2.2.2, locals := 13373 }) (va_Pc [.ref (a 40)] (nInF (dC, dI) cy ek sz (vC cy a z σ0))) (xV dC dI cy a (va_A (vC cy a z σ0) sz) [41, 43, 51] z r0) (xX dC dI cy a (va_A (vC cy a z σ0) sz) [41, 43, 51] z r0) r0.2.2.1 r0.2.2.2 (va_A (vC cy a z σ0) sz) := (c_F2 l hl0 dC dI cy ek a k0).2.2.2.2.2.2.2.2.2.2.2.2.2 400 L0 σ0 r0 h0 z sz
/-! X5_function -/
def f_X5_function : Nat → Nat → LV → CS → Option RS
  | 0, _, _, _ => none
  | k + 1, 0, L, σ => ox (f_X5_tellUnit k 0 (lI lZ 1 1) σ) (fun r1 => if (((uI r1.2.1 4004 0).1 3702)) = 11 then (f_X5_function k 1 (lI L 1 r1.1.2) (uI r1.2.1 4004 0)) else (ox (f_X5_parameter k 0 (lI lZ 1 r1.1.2) (uI r1.2.1 4004 0)) (fun r3 => f_X5_function k 2 (lI (lI L 1 r1.1.2) 2 0) r3.2.1)))
  | k + 1, 1, L, σ => ox (f_X5_closes k 0 (lI lZ 1 11) σ) (fun r1 => ox (f_X5_expect k 0 (lI lZ 1 20) r1.2.1) (fun r2 => ox (f_X5_exp k 0 (lI lZ 1 0) r2.2.1) (fun r3 => oP (sPp r3.2.1) (fun b4 => ox (f_X7_emit__P k 0 (lI (lI (lB lZ 0 b4) 1 18) 2 0) r3.2.1) (fun r5 => ox (f_X5_expect k 0 (lI lZ 1 17) r5.2.1) (fun r6 => op (y_X5_closeUnit k 0 (lI lZ 1 ((L.1 1))) r6.2.1) (fun r7 => some ((0, 0), r7.2, (0, 0)))))))))
  | k + 1, 2, L, σ => if 8 < ((L.1 2)) then (f_X5_function k 1 L σ) else (if ((σ.1 3702)) = 16 then (ox (f_X2_advance k 0 lZ σ) (fun r3 => ox (f_X5_parameter k 0 (lI lZ 1 ((L.1 1))) r3.2.1) (fun r4 => f_X5_function k 2 (lI L 2 ((((L.1 2)) + 1))) r4.2.1))) else (f_X5_function k 1 L σ))
  | _ + 1, _ + 3, _, _ => none
def o_f_X5_function : List Cond := [.methodLink RX5 179 yX5_tellUnit, .instanceMethod yX5_tellUnit, .selects RX5 yX5_tellUnit yX5_tellUnit, .initialized RX5, .fieldLink RX5 100 "SetHouse$Parser" "allowed" "I", .fieldLink RX5 18 "SetHouse$Parser" "lex" "LSetHouse$Lexer;", .methodLink RX5 183 yX5_parameter, .instanceMethod yX5_parameter, .selects RX5 yX5_parameter yX5_parameter, .methodLink RX5 186 yX5_closes, .instanceMethod yX5_closes, .selects RX5 yX5_closes yX5_closes, .methodLink RX5 141 yX5_expect, .instanceMethod yX5_expect, .selects RX5 yX5_expect yX5_expect, .methodLink RX5 90 yX5_exp, .instanceMethod yX5_exp, .selects RX5 yX5_exp yX5_exp, .fieldLink RX5 93 "SetHouse$Parser" "p" "LSetHouse$Program;", .methodLink RX5 66 yX7_emit, .instanceMethod yX7_emit, .selects RX7 yX7_emit yX7_emit, .initialized RX7, .methodLink RX5 189 yX5_closeUnit, .instanceMethod yX5_closeUnit, .selects RX5 yX5_closeUnit yX5_closeUnit, .methodLink RX5 30 yX2_advance, .instanceMethod yX2_advance, .selects RX2 yX2_advance yX2_advance, .initialized RX2]
theorem o_f_X5_function_good : o_f_X5_function.all goodWord = true := by decide +kernel
def p_f_X5_function : List Cond := o_f_X5_function ++ ((.code yX5_tellUnit cX5_tellUnit 2 (some .int) :: p_f_X5_tellUnit) ++ ((.code yX5_parameter cX5_parameter 2 none :: p_f_X5_parameter) ++ ((.code yX5_closes cX5_closes 2 none :: p_f_X5_closes) ++ ((.code yX5_expect cX5_expect 2 none :: p_f_X5_expect) ++ ((.code yX5_exp cX5_exp 8 none :: p_f_F2) ++ ((.code yX7_emit cX7_emit 3 (some .int) :: p_f_X7_emit__P) ++ ((.code yX5_closeUnit cX5_closeUnit 2 none :: p_y_X5_closeUnit) ++ ((.code yX2_advance cX2_advance 7 none :: p_f_X2_advance) ++ []))))))))
theorem p_f_X5_function_good : p_f_X5_function.all goodWord = true := nb_all2 o_f_X5_function_good (nb_all2 (nb_allc (by decide +kernel) p_f_X5_tellUnit_good) (nb_all2 (nb_allc (by decide +kernel) p_f_X5_parameter_good) (nb_all2 (nb_allc (by decide +kernel) p_f_X5_closes_good) (nb_all2 (nb_allc (by decide +kernel) p_f_X5_expect_good) (nb_all2 (nb_allc (by decide +kernel) p_f_F2_good) (nb_all2 (nb_allc (by decide +kernel) p_f_X7_emit__P_good) (nb_all2 (nb_allc (by decide +kernel) p_y_X5_closeUnit_good) (nb_all2 (nb_allc (by decide +kernel) p_f_X2_advance_good) rfl))))))))
def w_f_X5_function : List Cond := .code yX5_function cX5_function 3 none :: (p_f_X5_function ++ fC)
theorem w_f_X5_function_good : w_f_X5_function.all goodWord = true := nb_allc (by decide +kernel) (nb_all2 p_f_X5_function_good fC_good)
theorem in_f_X5_function_X2 : ∀ w ∈ wsX20, w ∈ w_f_X5_function := fun _ h => List.mem_cons_of_mem _ (List.mem_append_right _ (List.mem_append_right _ (List.mem_append_right _ (List.mem_append_left _ h))))
theorem in_f_X5_function_X5 : ∀ w ∈ wsX50, w ∈ w_f_X5_function := fun _ h => List.mem_cons_of_mem _ (List.mem_append_right _ (List.mem_append_right _ (List.mem_append_right _ (List.mem_append_right _ (List.mem_append_right _ (List.mem_append_left _ h))))))
theorem hd_f_X5_function : yX5_function.cls = RX5 ∧ yX5_function.cls ≠ "java/lang/invoke/MethodHandle" ∧ yX5_function.cls ≠ "java/lang/invoke/VarHandle" ∧ (parseMethodDescriptor yX5_function.desc).map (fun d => d.parameters.length) = some 0 := by decide +kernel
theorem gg_f_X5_function_X2_advance : GoodIn w_f_X5_function w_f_X2_advance := goodIn_sub (fun w h => (List.mem_cons.mp h).elim (fun e => (List.mem_cons_of_mem _ (List.mem_append_left _ (List.mem_append_right _ (List.mem_append_right _ (List.mem_append_right _ (List.mem_append_right _ (List.mem_append_right _ (List.mem_append_right _ (List.mem_append_right _ (List.mem_append_right _ (List.mem_append_left _ (List.mem_cons.mpr (Or.inl e)))))))))))))) (fun h => (List.mem_append.mp h).elim (fun h => (List.mem_cons_of_mem _ (List.mem_append_left _ (List.mem_append_right _ (List.mem_append_right _ (List.mem_append_right _ (List.mem_append_right _ (List.mem_append_right _ (List.mem_append_right _ (List.mem_append_right _ (List.mem_append_right _ (List.mem_append_left _ (List.mem_cons_of_mem _ h))))))))))))) (fun h => List.mem_cons_of_mem _ (List.mem_append_right _ h)))) w_f_X2_advance_good
theorem g_f_X5_function_X2_advance_V30 : GoodIn w_f_X5_function (wsV RX5 30 RX2 yX2_advance w_f_X2_advance) := goodIn_app (nb_g4 (List.mem_cons_of_mem _ (List.mem_append_left _ (List.mem_append_left _ (List.mem_of_getElem? (i := 26) rfl)))) (List.mem_cons_of_mem _ (List.mem_append_left _ (List.mem_append_left _ (List.mem_of_getElem? (i := 27) rfl)))) (List.mem_cons_of_mem _ (List.mem_append_left _ (List.mem_append_left _ (List.mem_of_getElem? (i := 28) rfl)))) (List.mem_cons_of_mem _ (List.mem_append_left _ (List.mem_append_left _ (List.mem_of_getElem? (i := 29) rfl)))) (by decide +kernel)) gg_f_X5_function_X2_advance
theorem gg_f_X5_function_X5_closes : GoodIn w_f_X5_function w_f_X5_closes := goodIn_sub (fun w h => (List.mem_cons.mp h).elim (fun e => (List.mem_cons_of_mem _ (List.mem_append_left _ (List.mem_append_right _ (List.mem_append_right _ (List.mem_append_right _ (List.mem_append_left _ (List.mem_cons.mpr (Or.inl e))))))))) (fun h => (List.mem_append.mp h).elim (fun h => (List.mem_cons_of_mem _ (List.mem_append_left _ (List.mem_append_right _ (List.mem_append_right _ (List.mem_append_right _ (List.mem_append_left _ (List.mem_cons_of_mem _ h)))))))) (fun h => List.mem_cons_of_mem _ (List.mem_append_right _ h)))) w_f_X5_closes_good
theorem g_f_X5_function_X5_closes_V186 : GoodIn w_f_X5_function (wsV RX5 186 RX5 yX5_closes w_f_X5_closes) := goodIn_app (nb_g4 (List.mem_cons_of_mem _ (List.mem_append_left _ (List.mem_append_left _ (List.mem_of_getElem? (i := 9) rfl)))) (List.mem_cons_of_mem _ (List.mem_append_left _ (List.mem_append_left _ (List.mem_of_getElem? (i := 10) rfl)))) (List.mem_cons_of_mem _ (List.mem_append_left _ (List.mem_append_left _ (List.mem_of_getElem? (i := 11) rfl)))) (List.mem_cons_of_mem _ (List.mem_append_left _ (List.mem_append_left _ (List.mem_of_getElem? (i := 3) rfl)))) (by decide +kernel)) gg_f_X5_function_X5_closes
theorem gg_f_X5_function_X5_exp : GoodIn w_f_X5_function w_f_X5_exp := goodIn_sub (fun w h => (List.mem_cons.mp h).elim (fun e => (List.mem_cons_of_mem _ (List.mem_append_left _ (List.mem_append_right _ (List.mem_append_right _ (List.mem_append_right _ (List.mem_append_right _ (List.mem_append_right _ (List.mem_append_left _ (List.mem_cons.mpr (Or.inl e))))))))))) (fun h => (List.mem_append.mp h).elim (fun h => (List.mem_cons_of_mem _ (List.mem_append_left _ (List.mem_append_right _ (List.mem_append_right _ (List.mem_append_right _ (List.mem_append_right _ (List.mem_append_right _ (List.mem_append_left _ (List.mem_cons_of_mem _ h)))))))))) (fun h => List.mem_cons_of_mem _ (List.mem_append_right _ h)))) w_f_X5_exp_good
theorem g_f_X5_function_X5_exp_V90 : GoodIn w_f_X5_function (wsV RX5 90 RX5 yX5_exp w_f_X5_exp) := goodIn_app (nb_g4 (List.mem_cons_of_mem _ (List.mem_append_left _ (List.mem_append_left _ (List.mem_of_getElem? (i := 15) rfl)))) (List.mem_cons_of_mem _ (List.mem_append_left _ (List.mem_append_left _ (List.mem_of_getElem? (i := 16) rfl)))) (List.mem_cons_of_mem _ (List.mem_append_left _ (List.mem_append_left _ (List.mem_of_getElem? (i := 17) rfl)))) (List.mem_cons_of_mem _ (List.mem_append_left _ (List.mem_append_left _ (List.mem_of_getElem? (i := 3) rfl)))) (by decide +kernel)) gg_f_X5_function_X5_exp
theorem gg_f_X5_function_X5_expect : GoodIn w_f_X5_function w_f_X5_expect := goodIn_sub (fun w h => (List.mem_cons.mp h).elim (fun e => (List.mem_cons_of_mem _ (List.mem_append_left _ (List.mem_append_right _ (List.mem_append_right _ (List.mem_append_right _ (List.mem_append_right _ (List.mem_append_left _ (List.mem_cons.mpr (Or.inl e)))))))))) (fun h => (List.mem_append.mp h).elim (fun h => (List.mem_cons_of_mem _ (List.mem_append_left _ (List.mem_append_right _ (List.mem_append_right _ (List.mem_append_right _ (List.mem_append_right _ (List.mem_append_left _ (List.mem_cons_of_mem _ h))))))))) (fun h => List.mem_cons_of_mem _ (List.mem_append_right _ h)))) w_f_X5_expect_good
theorem g_f_X5_function_X5_expect_V141 : GoodIn w_f_X5_function (wsV RX5 141 RX5 yX5_expect w_f_X5_expect) := goodIn_app (nb_g4 (List.mem_cons_of_mem _ (List.mem_append_left _ (List.mem_append_left _ (List.mem_of_getElem? (i := 12) rfl)))) (List.mem_cons_of_mem _ (List.mem_append_left _ (List.mem_append_left _ (List.mem_of_getElem? (i := 13) rfl)))) (List.mem_cons_of_mem _ (List.mem_append_left _ (List.mem_append_left _ (List.mem_of_getElem? (i := 14) rfl)))) (List.mem_cons_of_mem _ (List.mem_append_left _ (List.mem_append_left _ (List.mem_of_getElem? (i := 3) rfl)))) (by decide +kernel)) gg_f_X5_function_X5_expect
theorem gg_f_X5_function_X5_parameter : GoodIn w_f_X5_function w_f_X5_parameter := goodIn_sub (fun w h => (List.mem_cons.mp h).elim (fun e => (List.mem_cons_of_mem _ (List.mem_append_left _ (List.mem_append_right _ (List.mem_append_right _ (List.mem_append_left _ (List.mem_cons.mpr (Or.inl e)))))))) (fun h => (List.mem_append.mp h).elim (fun h => (List.mem_cons_of_mem _ (List.mem_append_left _ (List.mem_append_right _ (List.mem_append_right _ (List.mem_append_left _ (List.mem_cons_of_mem _ h))))))) (fun h => List.mem_cons_of_mem _ (List.mem_append_right _ h)))) w_f_X5_parameter_good
theorem g_f_X5_function_X5_parameter_V183 : GoodIn w_f_X5_function (wsV RX5 183 RX5 yX5_parameter w_f_X5_parameter) := goodIn_app (nb_g4 (List.mem_cons_of_mem _ (List.mem_append_left _ (List.mem_append_left _ (List.mem_of_getElem? (i := 6) rfl)))) (List.mem_cons_of_mem _ (List.mem_append_left _ (List.mem_append_left _ (List.mem_of_getElem? (i := 7) rfl)))) (List.mem_cons_of_mem _ (List.mem_append_left _ (List.mem_append_left _ (List.mem_of_getElem? (i := 8) rfl)))) (List.mem_cons_of_mem _ (List.mem_append_left _ (List.mem_append_left _ (List.mem_of_getElem? (i := 3) rfl)))) (by decide +kernel)) gg_f_X5_function_X5_parameter
theorem gg_f_X5_function_X5_tellUnit : GoodIn w_f_X5_function w_f_X5_tellUnit := goodIn_sub (fun w h => (List.mem_cons.mp h).elim (fun e => (List.mem_cons_of_mem _ (List.mem_append_left _ (List.mem_append_right _ (List.mem_append_left _ (List.mem_cons.mpr (Or.inl e))))))) (fun h => (List.mem_append.mp h).elim (fun h => (List.mem_cons_of_mem _ (List.mem_append_left _ (List.mem_append_right _ (List.mem_append_left _ (List.mem_cons_of_mem _ h)))))) (fun h => List.mem_cons_of_mem _ (List.mem_append_right _ h)))) w_f_X5_tellUnit_good
theorem g_f_X5_function_X5_tellUnit_V179 : GoodIn w_f_X5_function (wsV RX5 179 RX5 yX5_tellUnit w_f_X5_tellUnit) := goodIn_app (nb_g4 (List.mem_cons_of_mem _ (List.mem_append_left _ (List.mem_append_left _ (List.mem_of_getElem? (i := 0) rfl)))) (List.mem_cons_of_mem _ (List.mem_append_left _ (List.mem_append_left _ (List.mem_of_getElem? (i := 1) rfl)))) (List.mem_cons_of_mem _ (List.mem_append_left _ (List.mem_append_left _ (List.mem_of_getElem? (i := 2) rfl)))) (List.mem_cons_of_mem _ (List.mem_append_left _ (List.mem_append_left _ (List.mem_of_getElem? (i := 3) rfl)))) (by decide +kernel)) gg_f_X5_function_X5_tellUnit
theorem gg_f_X5_function_X7_emit__P : GoodIn w_f_X5_function w_f_X7_emit__P := goodIn_sub (fun w h => (List.mem_cons.mp h).elim (fun e => (List.mem_cons_of_mem _ (List.mem_append_left _ (List.mem_append_right _ (List.mem_append_right _ (List.mem_append_right _ (List.mem_append_right _ (List.mem_append_right _ (List.mem_append_right _ (List.mem_append_left _ (List.mem_cons.mpr (Or.inl e)))))))))))) (fun h => (List.mem_append.mp h).elim (fun h => (List.mem_cons_of_mem _ (List.mem_append_left _ (List.mem_append_right _ (List.mem_append_right _ (List.mem_append_right _ (List.mem_append_right _ (List.mem_append_right _ (List.mem_append_right _ (List.mem_append_left _ (List.mem_cons_of_mem _ h))))))))))) (fun h => List.mem_cons_of_mem _ (List.mem_append_right _ h)))) w_f_X7_emit__P_good
theorem g_f_X5_function_X7_emit__P_V66 : GoodIn w_f_X5_function (wsV RX5 66 RX7 yX7_emit w_f_X7_emit__P) := goodIn_app (nb_g4 (List.mem_cons_of_mem _ (List.mem_append_left _ (List.mem_append_left _ (List.mem_of_getElem? (i := 19) rfl)))) (List.mem_cons_of_mem _ (List.mem_append_left _ (List.mem_append_left _ (List.mem_of_getElem? (i := 20) rfl)))) (List.mem_cons_of_mem _ (List.mem_append_left _ (List.mem_append_left _ (List.mem_of_getElem? (i := 21) rfl)))) (List.mem_cons_of_mem _ (List.mem_append_left _ (List.mem_append_left _ (List.mem_of_getElem? (i := 22) rfl)))) (by decide +kernel)) gg_f_X5_function_X7_emit__P
theorem gg_f_X5_function_X5_closeUnit : GoodIn w_f_X5_function w_y_X5_closeUnit := goodIn_sub (fun w h => (List.mem_cons.mp h).elim (fun e => (List.mem_cons_of_mem _ (List.mem_append_left _ (List.mem_append_right _ (List.mem_append_right _ (List.mem_append_right _ (List.mem_append_right _ (List.mem_append_right _ (List.mem_append_right _ (List.mem_append_right _ (List.mem_append_left _ (List.mem_cons.mpr (Or.inl e))))))))))))) (fun h => (List.mem_append.mp h).elim (fun h => (List.mem_cons_of_mem _ (List.mem_append_left _ (List.mem_append_right _ (List.mem_append_right _ (List.mem_append_right _ (List.mem_append_right _ (List.mem_append_right _ (List.mem_append_right _ (List.mem_append_right _ (List.mem_append_left _ (List.mem_cons_of_mem _ h)))))))))))) (fun h => List.mem_cons_of_mem _ (List.mem_append_right _ h)))) w_y_X5_closeUnit_good
theorem g_y_X5_function_X5_closeUnit_V189 : GoodIn w_f_X5_function (wsV RX5 189 RX5 yX5_closeUnit w_y_X5_closeUnit) := goodIn_app (nb_g4 (List.mem_cons_of_mem _ (List.mem_append_left _ (List.mem_append_left _ (List.mem_of_getElem? (i := 23) rfl)))) (List.mem_cons_of_mem _ (List.mem_append_left _ (List.mem_append_left _ (List.mem_of_getElem? (i := 24) rfl)))) (List.mem_cons_of_mem _ (List.mem_append_left _ (List.mem_append_left _ (List.mem_of_getElem? (i := 25) rfl)))) (List.mem_cons_of_mem _ (List.mem_append_left _ (List.mem_append_left _ (List.mem_of_getElem? (i := 3) rfl)))) (by decide +kernel)) gg_f_X5_function_X5_closeUnit
set_option maxHeartbeats 40000000 in
set_option maxRecDepth 100000 in
theorem c_f_X5_function (l : Launch) (hl0 : l.stackTraces = false) (dC : Nat → ClassId) (dI : Nat → Nat → Nat) (cy : Nat → ClassId) (ek a : Nat → Nat) (k0 : Nat) (L0 : LV) (σ0 : CS) (r0 : RS) (h0 : f_X5_function k0 0 L0 σ0 = some r0) (z : Nat → Nat) (sz : Nat) : vx_Met l yX5_function w_f_X5_function ({ frames := 410, cells := r0.2.2.1, slots := r0.2.2.2, locals := 13400 }) (va_Pc [.ref (a 40)] (nInF (dC, dI) cy ek sz (vC cy a z σ0))) (xV dC dI cy a (va_A (vC cy a z σ0) sz) [41, 43, 51] z r0) (xX dC dI cy a (va_A (vC cy a z σ0) sz) [41, 43, 51] z r0) r0.2.2.1 r0.2.2.2 (va_A (vC cy a z σ0) sz) := by
  refine vx_ofW (cc := cX5_function) (maxL := 3) (ret := none) (by decide) rfl ?_
  intro p e s m args below meth c s₁ B hml hno hv
  obtain ⟨rfl, ⟨⟨hsz, hP, hK, hD0, hG⟩, hE⟩, hT⟩ := hv
  have hx := B.exec
  have hb := B.bytes
  have hr := B.returns
  have hts := atoms_spec (ws := w_f_X5_function) B.pre
  have hown : s.vm.findClass RX5 = some m.cls := findClass_of_methodNamed B.named
  have hlocks := B.notSynchronized
  subst hsz
  have hD := hD0.self (sz := s.heap.size)
  generalize hAe : va_A (vC cy a z σ0) s.heap.size = A at hD hE hT ⊢
  have hA : ∀ q : Nat, s.heap.size ≤ q → A q := fun q h => by rw [← hAe]; exact Or.inr h
  have hS : va_S A s.heap s.heap [] := va_S.rf
  have hl := lv_entry ([.ref (a 40)]) (n := 3) (Nat.le_of_ble_eq_true rfl)
  rw [lg_entry_eq]
  generalize (lg_sl ([.ref (a 40)]) ++ List.replicate (3 - (lg_sl ([.ref (a 40)])).length) Slot.unset).toArray = ls at hl ⊢
  have hl : lv_has ls 3 [(0, .ref (a 40))] := hl
  generalize hmc : r0.2.2.1 = mc
  generalize hms : r0.2.2.2 = ms
  have blk : ∀ k : Nat, (bX p l e (headSpec w_f_X5_function ({ frames := 410, cells := mc, slots := ms, locals := 13400 })).room s m #[.ref (a 40)] below meth c dC dI cy a A (fun r => vx_MQ below (xV dC dI cy a A [41, 43, 51] z r) (xX dC dI cy a A [41, 43, 51] z r) #[.ref (a 40)] s mc ms A) [41, 43, 51] z mc ms 3 (f_X5_function k 0) (fun z L => [(0, .ref (a 40))]) 0 (fun z L => [])) ∧ (bX p l e (headSpec w_f_X5_function ({ frames := 410, cells := mc, slots := ms, locals := 13400 })).room s m #[.ref (a 40)] below meth c dC dI cy a A (fun r => vx_MQ below (xV dC dI cy a A [41, 43, 51] z r) (xX dC dI cy a A [41, 43, 51] z r) #[.ref (a 40)] s mc ms A) [41, 43, 51] z mc ms 3 (f_X5_function k 1) (fun z L => [(0, .ref (a 40)), (1, .int (L.1 1))]) 66 (fun z L => [])) ∧ (bX p l e (headSpec w_f_X5_function ({ frames := 410, cells := mc, slots := ms, locals := 13400 })).room s m #[.ref (a 40)] below meth c dC dI cy a A (fun r => vx_MQ below (xV dC dI cy a A [41, 43, 51] z r) (xX dC dI cy a A [41, 43, 51] z r) #[.ref (a 40)] s mc ms A) [41, 43, 51] z mc ms 3 (f_X5_function k 2) (fun z L => [(0, .ref (a 40)), (1, .int (L.1 1)), (2, .int (L.1 2))]) 30 (fun z L => [])) := by
    intro k
    induction k with
    | zero => exact ⟨fun z c1 c2 L σ r h => (by cases h), fun z c1 c2 L σ r h => (by cases h), fun z c1 c2 L σ r h => (by cases h)⟩
    | succ k ih =>
      refine ⟨?_, ?_, ?_⟩
      · intro z cells slots L σ r h hzk hc hs H locs ls hP hD hS hl
        rw [f_X5_function] at h
        refine lv_aload_n hx hb dX5_function_0 rfl (lv_at hl 0 rfl) ?_
        refine lv_iconst (v := 1) hx hb dX5_function_1 (by decide) ?_
        obtain ⟨r1, hc1, hle1, h9⟩ := ox_ex h
        clear h
        refine kx_i (vx_runV (As := [.int 1]) (rest := []) ⟨hx, hb, hml, hown, hts⟩ (c_f_X5_tellUnit l hl0 dC dI cy ek a k (lI lZ 1 1) σ r1 hc1 z H.size) (cwV 1 hts g_f_X5_function_X5_tellUnit_V179 rfl rfl rfl hd_f_X5_tellUnit ⟨Nat.le_of_ble_eq_true rfl, Nat.le_of_ble_eq_true rfl⟩) ⟨nb_blindF, va_recv hK hP (ci := 4) (q0 := 40) rfl rfl, (kx_pre hK hG hE hT hA hP hD hS)⟩ rfl rfl hl.1 rfl (lv_room (Nat.le_of_ble_eq_true rfl)) dX5_function_2 ⟨Nat.le_trans (Nat.add_le_add_left hle1.1 _) (Nat.le_of_eq hc), Nat.le_trans (Nat.add_le_add_left hle1.2 _) (Nat.le_of_eq hs)⟩) hK hA hzk hP hD hS (by decide) hno hlocks ?_
        rcases h9 with ⟨h00, y1, hny1, hy⟩ | ⟨h00, hy⟩
        · subst hy
          have h := hny1
          refine Or.inl ⟨h00, fun u H locs hz1 hzk hP hD hS => ?_⟩
          obtain rfl := (zk_nil hz1).symm
          replace hc := (Nat.add_assoc _ _ _).trans hc
          replace hs := (Nat.add_assoc _ _ _).trans hs
          refine lv_istore_n (lv' := [(1, .int r1.1.2), (0, .ref (a 40))]) hx hb dX5_function_5 rfl hl (by decide) rfl (fun ls hl => ?_)
          refine lv_aload_n hx hb dX5_function_6 rfl (lv_at hl 1 rfl) ?_
          refine lv_iconst (v := 0) hx hb dX5_function_7 (by decide) ?_
          refine hp_40_4 hx hb hts in_f_X5_function_X5 hown hK hP hD hS (hts _ (List.mem_cons_of_mem _ (List.mem_append_left _ (List.mem_append_left _ (List.mem_of_getElem? (i := 4) rfl))))) dX5_function_8 (fun H locs hP hD hS => ?_)
          refine lv_aload_n hx hb dX5_function_11 rfl (lv_at hl 1 rfl) ?_
          refine hg_40_0 hx hb hts in_f_X5_function_X5 hown hK hP (hts _ (List.mem_cons_of_mem _ (List.mem_append_left _ (List.mem_append_left _ (List.mem_of_getElem? (i := 5) rfl))))) dX5_function_12 ?_
          refine hg_37_2n hx hb hts in_f_X5_function_X2 hown hK hP (va_Nw.use rfl (hG.1 _ (List.mem_of_getElem? (i := 52) rfl))) dX5_function_15 ?_
          refine lv_bipush (v := 11) hx hb dX5_function_18 (by decide) ?_
          refine lv_icmp_eq (tgt := 66) hx hb dX5_function_20 (by decide) (fun c2 => ?_) (fun c2 => ?_)
          · rw [if_pos c2] at h
            exact ih.2.1 z _ _ (lI L 1 r1.1.2) (uI r1.2.1 4004 0) _ h hzk hc hs H locs ls hP hD hS (lv_sub hl [1, 0] rfl)
          · rw [if_neg c2] at h
            refine lv_aload_n hx hb dX5_function_23 rfl (lv_at hl 1 rfl) ?_
            refine lv_iload_n hx hb dX5_function_24 rfl (lv_at hl 0 rfl) ?_
            obtain ⟨r3, hc3, hle3, h9⟩ := ox_ex h
            clear h
            refine kx_v (r := y1) (vx_runV (As := [.int r1.1.2]) (rest := []) ⟨hx, hb, hml, hown, hts⟩ (c_f_X5_parameter l hl0 dC dI cy ek a k (lI lZ 1 r1.1.2) (uI r1.2.1 4004 0) r3 hc3 z H.size) (cwV 1 hts g_f_X5_function_X5_parameter_V183 rfl rfl rfl hd_f_X5_parameter ⟨Nat.le_of_ble_eq_true rfl, Nat.le_of_ble_eq_true rfl⟩) ⟨nb_blindF, va_recv hK hP (ci := 4) (q0 := 40) rfl rfl, (kx_pre hK hG hE hT hA hP hD hS)⟩ rfl rfl hl.1 rfl (lv_room (Nat.le_of_ble_eq_true rfl)) dX5_function_25 ⟨Nat.le_trans (Nat.add_le_add_left hle3.1 _) (Nat.le_of_eq hc), Nat.le_trans (Nat.add_le_add_left hle3.2 _) (Nat.le_of_eq hs)⟩) hK hA hzk hP hD hS (by decide) hno hlocks ?_
            rcases h9 with ⟨h00, y3, hny3, hy⟩ | ⟨h00, hy⟩
            · subst hy
              have h := hny3
              refine Or.inl ⟨h00, fun u H locs hz3 hzk hP hD hS => ?_⟩
              obtain rfl := (zk_nil hz3).symm
              replace hc := (Nat.add_assoc _ _ _).trans hc
              replace hs := (Nat.add_assoc _ _ _).trans hs
              refine lv_iconst (v := 0) hx hb dX5_function_28 (by decide) ?_
              refine lv_istore_n (lv' := [(2, .int 0), (1, .int r1.1.2), (0, .ref (a 40))]) hx hb dX5_function_29 rfl hl (by decide) rfl (fun ls hl => ?_)
              exact ih.2.2 z _ _ (lI (lI L 1 r1.1.2) 2 0) r3.2.1 _ h hzk hc hs H locs ls hP hD hS (lv_sub hl [2, 1, 0] rfl)
            · subst hy
              exact Or.inr ⟨h00, rfl, hc, hs⟩
        · subst hy
          exact Or.inr ⟨h00, rfl, hc, hs⟩
      · intro z cells slots L σ r h hzk hc hs H locs ls hP hD hS hl
        rw [f_X5_function] at h
        refine lv_aload_n hx hb dX5_function_66 rfl (lv_at hl 0 rfl) ?_
        refine lv_bipush (v := 11) hx hb dX5_function_67 (by decide) ?_
        obtain ⟨r1, hc1, hle1, h9⟩ := ox_ex h
        clear h
        refine kx_v (vx_runV (As := [.int 11]) (rest := []) ⟨hx, hb, hml, hown, hts⟩ (c_f_X5_closes l hl0 dC dI cy ek a k (lI lZ 1 11) σ r1 hc1 z H.size) (cwV 1 hts g_f_X5_function_X5_closes_V186 rfl rfl rfl hd_f_X5_closes ⟨Nat.le_of_ble_eq_true rfl, Nat.le_of_ble_eq_true rfl⟩) ⟨nb_blindF, va_recv hK hP (ci := 4) (q0 := 40) rfl rfl, (kx_pre hK hG hE hT hA hP hD hS)⟩ rfl rfl hl.1 rfl (lv_room (Nat.le_of_ble_eq_true rfl)) dX5_function_69 ⟨Nat.le_trans (Nat.add_le_add_left hle1.1 _) (Nat.le_of_eq hc), Nat.le_trans (Nat.add_le_add_left hle1.2 _) (Nat.le_of_eq hs)⟩) hK hA hzk hP hD hS (by decide) hno hlocks ?_
        rcases h9 with ⟨h00, y1, hny1, hy⟩ | ⟨h00, hy⟩
        · subst hy
          have h := hny1
          refine Or.inl ⟨h00, fun u H locs hz1 hzk hP hD hS => ?_⟩
          obtain rfl := (zk_nil hz1).symm
          replace hc := (Nat.add_assoc _ _ _).trans hc
          replace hs := (Nat.add_assoc _ _ _).trans hs
          refine lv_aload_n hx hb dX5_function_72 rfl (lv_at hl 0 rfl) ?_
          refine lv_bipush (v := 20) hx hb dX5_function_73 (by decide) ?_
          obtain ⟨r2, hc2, hle2, h9⟩ := ox_ex h
          clear h
          refine kx_v (r := y1) (vx_runV (As := [.int 20]) (rest := []) ⟨hx, hb, hml, hown, hts⟩ (c_f_X5_expect l hl0 dC dI cy ek a k (lI lZ 1 20) r1.2.1 r2 hc2 z H.size) (cwV 1 hts g_f_X5_function_X5_expect_V141 rfl rfl rfl hd_f_X5_expect ⟨Nat.le_of_ble_eq_true rfl, Nat.le_of_ble_eq_true rfl⟩) ⟨nb_blindF, va_recv hK hP (ci := 4) (q0 := 40) rfl rfl, (kx_pre hK hG hE hT hA hP hD hS)⟩ rfl rfl hl.1 rfl (lv_room (Nat.le_of_ble_eq_true rfl)) dX5_function_75 ⟨Nat.le_trans (Nat.add_le_add_left hle2.1 _) (Nat.le_of_eq hc), Nat.le_trans (Nat.add_le_add_left hle2.2 _) (Nat.le_of_eq hs)⟩) hK hA hzk hP hD hS (by decide) hno hlocks ?_
          rcases h9 with ⟨h00, y2, hny2, hy⟩ | ⟨h00, hy⟩
          · subst hy
            have h := hny2
            refine Or.inl ⟨h00, fun u H locs hz2 hzk hP hD hS => ?_⟩
            obtain rfl := (zk_nil hz2).symm
            replace hc := (Nat.add_assoc _ _ _).trans hc
            replace hs := (Nat.add_assoc _ _ _).trans hs
            refine lv_aload_n hx hb dX5_function_78 rfl (lv_at hl 0 rfl) ?_
            refine lv_iconst (v := 0) hx hb dX5_function_79 (by decide) ?_
            obtain ⟨r3, hc3, hle3, h9⟩ := ox_ex h
            clear h
            refine kx_v (r := y2) (vx_runV (As := [.int 0]) (rest := []) ⟨hx, hb, hml, hown, hts⟩ (c_f_X5_exp l hl0 dC dI cy ek a k (lI lZ 1 0) r2.2.1 r3 hc3 z H.size) (cwV 1 hts g_f_X5_function_X5_exp_V90 rfl rfl rfl hd_f_X5_exp ⟨Nat.le_of_ble_eq_true rfl, Nat.le_of_ble_eq_true rfl⟩) ⟨nb_blindF, va_recv hK hP (ci := 4) (q0 := 40) rfl rfl, (kx_pre hK hG hE hT hA hP hD hS)⟩ rfl rfl hl.1 rfl (lv_room (Nat.le_of_ble_eq_true rfl)) dX5_function_80 ⟨Nat.le_trans (Nat.add_le_add_left hle3.1 _) (Nat.le_of_eq hc), Nat.le_trans (Nat.add_le_add_left hle3.2 _) (Nat.le_of_eq hs)⟩) hK hA hzk hP hD hS (by decide) hno hlocks ?_
            rcases h9 with ⟨h00, y3, hny3, hy⟩ | ⟨h00, hy⟩
            · subst hy
              have h := hny3
              refine Or.inl ⟨h00, fun z H locs hz3 hzk hP hD hS => ?_⟩
              replace hc := (Nat.add_assoc _ _ _).trans hc
              replace hs := (Nat.add_assoc _ _ _).trans hs
              refine lv_aload_n hx hb dX5_function_83 rfl (lv_at hl 0 rfl) ?_
              obtain ⟨b4, hb4, h⟩ := oP_ex h
              refine hgq_40_2 hx hb hts in_f_X5_function_X5 hown hK hP (hts _ (List.mem_cons_of_mem _ (List.mem_append_left _ (List.mem_append_left _ (List.mem_of_getElem? (i := 18) rfl))))) hb4 dX5_function_84 ?_
              refine lv_bipush (v := 18) hx hb dX5_function_87 (by decide) ?_
              refine lv_iconst (v := 0) hx hb dX5_function_89 (by decide) ?_
              obtain ⟨r5, hc5, hle5, h9⟩ := ox_ex h
              clear h
              refine kx_i (r := y3) (vx_runV (As := [.int 18, .int 0]) (rest := []) ⟨hx, hb, hml, hown, hts⟩ (c_f_X7_emit__P l hl0 dC dI cy ek a k (lI (lI (lB lZ 0 b4) 1 18) 2 0) r3.2.1 r5 hc5 z H.size) (cwV 2 hts g_f_X5_function_X7_emit__P_V66 rfl rfl rfl hd_f_X7_emit__P ⟨Nat.le_of_ble_eq_true rfl, Nat.le_of_ble_eq_true rfl⟩) ⟨nb_blindF, recvP b4 hK hP, (kx_pre hK hG hE hT hA hP hD hS)⟩ rfl rfl hl.1 rfl (lv_room (Nat.le_of_ble_eq_true rfl)) dX5_function_90 ⟨Nat.le_trans (Nat.add_le_add_left hle5.1 _) (Nat.le_of_eq hc), Nat.le_trans (Nat.add_le_add_left hle5.2 _) (Nat.le_of_eq hs)⟩) hK hA hzk hP hD hS (by decide) hno hlocks ?_
              rcases h9 with ⟨h00, y5, hny5, hy⟩ | ⟨h00, hy⟩
              · subst hy
                have h := hny5
                refine Or.inl ⟨h00, fun z H locs hz5 hzk hP hD hS => ?_⟩
                replace hc := (Nat.add_assoc _ _ _).trans hc
                replace hs := (Nat.add_assoc _ _ _).trans hs
                refine lv_pop hx hb dX5_function_93 rfl ?_
                refine lv_aload_n hx hb dX5_function_94 rfl (lv_at hl 0 rfl) ?_
                refine lv_bipush (v := 17) hx hb dX5_function_95 (by decide) ?_
                obtain ⟨r6, hc6, hle6, h9⟩ := ox_ex h
                clear h
                refine kx_v (r := y5) (vx_runV (As := [.int 17]) (rest := []) ⟨hx, hb, hml, hown, hts⟩ (c_f_X5_expect l hl0 dC dI cy ek a k (lI lZ 1 17) r5.2.1 r6 hc6 z H.size) (cwV 1 hts g_f_X5_function_X5_expect_V141 rfl rfl rfl hd_f_X5_expect ⟨Nat.le_of_ble_eq_true rfl, Nat.le_of_ble_eq_true rfl⟩) ⟨nb_blindF, va_recv hK hP (ci := 4) (q0 := 40) rfl rfl, (kx_pre hK hG hE hT hA hP hD hS)⟩ rfl rfl hl.1 rfl (lv_room (Nat.le_of_ble_eq_true rfl)) dX5_function_97 ⟨Nat.le_trans (Nat.add_le_add_left hle6.1 _) (Nat.le_of_eq hc), Nat.le_trans (Nat.add_le_add_left hle6.2 _) (Nat.le_of_eq hs)⟩) hK hA hzk hP hD hS (by decide) hno hlocks ?_
                rcases h9 with ⟨h00, y6, hny6, hy⟩ | ⟨h00, hy⟩
                · subst hy
                  have h := hny6
                  refine Or.inl ⟨h00, fun u H locs hz6 hzk hP hD hS => ?_⟩
                  obtain rfl := (zk_nil hz6).symm
                  replace hc := (Nat.add_assoc _ _ _).trans hc
                  replace hs := (Nat.add_assoc _ _ _).trans hs
                  refine lv_aload_n hx hb dX5_function_100 rfl (lv_at hl 0 rfl) ?_
                  refine lv_iload_n hx hb dX5_function_101 rfl (lv_at hl 1 rfl) ?_
                  obtain ⟨r7, hc7, h⟩ := op_ex h
                  refine kc_v (va_runV (As := [.int (L.1 1)]) (rest := []) ⟨hx, hb, hml, hown, hts⟩ (c_y_X5_closeUnit l dC dI cy a z k (lI lZ 1 ((L.1 1))) r6.2.1 r7 hc7 H.size) (cwV 1 hts g_y_X5_function_X5_closeUnit_V189 rfl rfl rfl hd_y_X5_closeUnit ⟨Nat.le_of_ble_eq_true rfl, Nat.le_of_ble_eq_true rfl⟩) ⟨nb_blind, va_recv hK hP (ci := 4) (q0 := 40) rfl rfl, (kb_pre hK hG hP hD)⟩ rfl rfl hl.1 rfl (lv_room (Nat.le_of_ble_eq_true rfl)) dX5_function_102 ⟨(Nat.le_trans (Nat.le_add_right _ _) (Nat.le_of_eq hc)), (Nat.le_trans (Nat.le_add_right _ _) (Nat.le_of_eq hs))⟩) hA hP hD hS (fun H locs hP hD hS => ?_)
                  obtain rfl := Option.some.inj h
                  subst hc
                  subst hs
                  exact xr_v hx hb hr hK hzk hP hD hS hlocks dX5_function_105
                · subst hy
                  exact Or.inr ⟨h00, rfl, hc, hs⟩
              · subst hy
                exact Or.inr ⟨h00, rfl, hc, hs⟩
            · subst hy
              exact Or.inr ⟨h00, rfl, hc, hs⟩
          · subst hy
            exact Or.inr ⟨h00, rfl, hc, hs⟩
        · subst hy
          exact Or.inr ⟨h00, rfl, hc, hs⟩
      · intro z cells slots L σ r h hzk hc hs H locs ls hP hD hS hl
        rw [f_X5_function] at h
        refine lv_iload_n hx hb dX5_function_30 rfl (lv_at hl 2 rfl) ?_
        refine lv_bipush (v := 8) hx hb dX5_function_31 (by decide) ?_
        refine lv_icmp_gt (tgt := 66) hx hb dX5_function_33 (by decide) (fun c1 => ?_) (fun c1 => ?_)
        · rw [if_pos c1] at h
          exact ih.2.1 z _ _ L σ _ h hzk hc hs H locs ls hP hD hS (lv_sub hl [0, 1] rfl)
        · rw [if_neg c1] at h
          refine lv_aload_n hx hb dX5_function_36 rfl (lv_at hl 0 rfl) ?_
          refine hg_40_0 hx hb hts in_f_X5_function_X5 hown hK hP (hts _ (List.mem_cons_of_mem _ (List.mem_append_left _ (List.mem_append_left _ (List.mem_of_getElem? (i := 5) rfl))))) dX5_function_37 ?_
          refine hg_37_2n hx hb hts in_f_X5_function_X2 hown hK hP (va_Nw.use rfl (hG.1 _ (List.mem_of_getElem? (i := 52) rfl))) dX5_function_40 ?_
          refine lv_bipush (v := 16) hx hb dX5_function_43 (by decide) ?_
          refine lv_icmp_ne (tgt := 66) hx hb dX5_function_45 (by decide) (fun c2 => ?_) (fun c2 => ?_)
          · rw [if_neg c2] at h
            exact ih.2.1 z _ _ L σ _ h hzk hc hs H locs ls hP hD hS (lv_sub hl [0, 1] rfl)
          · rw [if_pos c2] at h
            refine lv_aload_n hx hb dX5_function_48 rfl (lv_at hl 0 rfl) ?_
            refine hg_40_0 hx hb hts in_f_X5_function_X5 hown hK hP (hts _ (List.mem_cons_of_mem _ (List.mem_append_left _ (List.mem_append_left _ (List.mem_of_getElem? (i := 5) rfl))))) dX5_function_49 ?_
            obtain ⟨r3, hc3, hle3, h9⟩ := ox_ex h
            clear h
            refine kx_v (vx_runV (As := []) (rest := []) ⟨hx, hb, hml, hown, hts⟩ (c_f_X2_advance l hl0 dC dI cy ek a k lZ σ r3 hc3 z H.size) (cwV 0 hts g_f_X5_function_X2_advance_V30 rfl rfl rfl hd_f_X2_advance ⟨Nat.le_of_ble_eq_true rfl, Nat.le_of_ble_eq_true rfl⟩) ⟨nb_blindF, va_recv hK hP (ci := 2) (q0 := 37) rfl rfl, (kx_pre hK hG hE hT hA hP hD hS)⟩ rfl rfl hl.1 rfl (lv_room (Nat.le_of_ble_eq_true rfl)) dX5_function_52 ⟨Nat.le_trans (Nat.add_le_add_left hle3.1 _) (Nat.le_of_eq hc), Nat.le_trans (Nat.add_le_add_left hle3.2 _) (Nat.le_of_eq hs)⟩) hK hA hzk hP hD hS (by decide) hno hlocks ?_
            rcases h9 with ⟨h00, y3, hny3, hy⟩ | ⟨h00, hy⟩
            · subst hy
              have h := hny3
              refine Or.inl ⟨h00, fun u H locs hz3 hzk hP hD hS => ?_⟩
              obtain rfl := (zk_nil hz3).symm
              replace hc := (Nat.add_assoc _ _ _).trans hc
              replace hs := (Nat.add_assoc _ _ _).trans hs
              refine lv_aload_n hx hb dX5_function_55 rfl (lv_at hl 0 rfl) ?_
              refine lv_iload_n hx hb dX5_function_56 rfl (lv_at hl 1 rfl) ?_
              obtain ⟨r4, hc4, hle4, h9⟩ := ox_ex h
              clear h
              refine kx_v (r := y3) (vx_runV (As := [.int (L.1 1)]) (rest := []) ⟨hx, hb, hml, hown, hts⟩ (c_f_X5_parameter l hl0 dC dI cy ek a k (lI lZ 1 ((L.1 1))) r3.2.1 r4 hc4 z H.size) (cwV 1 hts g_f_X5_function_X5_parameter_V183 rfl rfl rfl hd_f_X5_parameter ⟨Nat.le_of_ble_eq_true rfl, Nat.le_of_ble_eq_true rfl⟩) ⟨nb_blindF, va_recv hK hP (ci := 4) (q0 := 40) rfl rfl, (kx_pre hK hG hE hT hA hP hD hS)⟩ rfl rfl hl.1 rfl (lv_room (Nat.le_of_ble_eq_true rfl)) dX5_function_57 ⟨Nat.le_trans (Nat.add_le_add_left hle4.1 _) (Nat.le_of_eq hc), Nat.le_trans (Nat.add_le_add_left hle4.2 _) (Nat.le_of_eq hs)⟩) hK hA hzk hP hD hS (by decide) hno hlocks ?_
              rcases h9 with ⟨h00, y4, hny4, hy⟩ | ⟨h00, hy⟩
              · subst hy
                have h := hny4
                refine Or.inl ⟨h00, fun u H locs hz4 hzk hP hD hS => ?_⟩
                obtain rfl := (zk_nil hz4).symm
                replace hc := (Nat.add_assoc _ _ _).trans hc
                replace hs := (Nat.add_assoc _ _ _).trans hs
                refine lv_iinc (v := ((L.1 2)) + 1) (lv' := [(2, .int (((L.1 2)) + 1)), (0, .ref (a 40)), (1, .int (L.1 1))]) hx hb dX5_function_60 hl (k := 2) rfl rfl (by decide) rfl (fun ls hl => ?_)
                refine lv_goto (tgt := 30) hx hb dX5_function_63 (by decide) ?_
                exact ih.2.2 z _ _ (lI L 2 ((((L.1 2)) + 1))) r4.2.1 _ h hzk hc hs H locs ls hP hD hS (lv_sub hl [1, 2, 0] rfl)
              · subst hy
                exact Or.inr ⟨h00, rfl, hc, hs⟩
            · subst hy
              exact Or.inr ⟨h00, rfl, hc, hs⟩
  exact (blk k0).1 z 0 0 L0 σ0 r0 h0 (zk_rf _ _) ((Nat.zero_add _).trans hmc) ((Nat.zero_add _).trans hms) s.heap [] ls hP hD hS hl

theorem gg_f_X5_ifStatement_X2_advance : GoodIn w_f_X5_ifStatement w_f_X2_advance := goodIn_sub (fun w h => (List.mem_cons.mp h).elim (fun e => (List.mem_cons_of_mem _ (List.mem_append_left _ (List.mem_append_right _ (List.mem_append_right _ (List.mem_append_right _ (List.mem_append_right _ (List.mem_append_right _ (List.mem_append_right _ (List.mem_append_left _ (List.mem_cons.mpr (Or.inl e)))))))))))) (fun h => (List.mem_append.mp h).elim (fun h => (List.mem_cons_of_mem _ (List.mem_append_left _ (List.mem_append_right _ (List.mem_append_right _ (List.mem_append_right _ (List.mem_append_right _ (List.mem_append_right _ (List.mem_append_right _ (List.mem_append_left _ (List.mem_cons_of_mem _ h))))))))))) (fun h => List.mem_cons_of_mem _ (List.mem_append_right _ h)))) w_f_X2_advance_good
theorem g_f_X5_ifStatement_X2_advance_V30 : GoodIn w_f_X5_ifStatement (wsV RX5 30 RX2 yX2_advance w_f_X2_advance) := goodIn_app (nb_g4 (List.mem_cons_of_mem _ (List.mem_append_left _ (List.mem_append_left _ (List.mem_of_getElem? (i := 32) rfl)))) (List.mem_cons_of_mem _ (List.mem_append_left _ (List.mem_append_left _ (List.mem_of_getElem? (i := 33) rfl)))) (List.mem_cons_of_mem _ (List.mem_append_left _ (List.mem_append_left _ (List.mem_of_getElem? (i := 34) rfl)))) (List.mem_cons_of_mem _ (List.mem_append_left _ (List.mem_append_left _ (List.mem_of_getElem? (i := 35) rfl)))) (by decide +kernel)) gg_f_X5_ifStatement_X2_advance
theorem gg_f_X5_ifStatement_X5_block : GoodIn w_f_X5_ifStatement w_f_X5_block := goodIn_sub (fun w h => (List.mem_cons.mp h).elim (fun e => e ▸ (List.mem_cons_of_mem _ (List.mem_append_left _ (List.mem_append_left _ (List.mem_of_getElem? (i := 0) rfl))))) (fun h => List.mem_cons_of_mem _ h)) w_f_X5_block_good
theorem g_f_X5_ifStatement_X5_block_V58 : GoodIn w_f_X5_ifStatement (wsV RX5 58 RX5 yX5_block w_f_X5_block) := goodIn_app (nb_g4 (List.mem_cons_of_mem _ (List.mem_append_left _ (List.mem_append_left _ (List.mem_of_getElem? (i := 52) rfl)))) (List.mem_cons_of_mem _ (List.mem_append_left _ (List.mem_append_left _ (List.mem_of_getElem? (i := 53) rfl)))) (List.mem_cons_of_mem _ (List.mem_append_left _ (List.mem_append_left _ (List.mem_of_getElem? (i := 54) rfl)))) (List.mem_cons_of_mem _ (List.mem_append_left _ (List.mem_append_left _ (List.mem_of_getElem? (i := 9) rfl)))) (by decide +kernel)) gg_f_X5_ifStatement_X5_block
theorem gg_f_X5_ifStatement_X5_closes : GoodIn w_f_X5_ifStatement w_f_X5_closes := goodIn_sub (fun w h => (List.mem_cons.mp h).elim (fun e => (List.mem_cons_of_mem _ (List.mem_append_left _ (List.mem_append_right _ (List.mem_append_right _ (List.mem_append_right _ (List.mem_append_right _ (List.mem_append_right _ (List.mem_append_right _ (List.mem_append_right _ (List.mem_append_right _ (List.mem_append_right _ (List.mem_append_right _ (List.mem_append_right _ (List.mem_append_left _ (List.mem_cons.mpr (Or.inl e))))))))))))))))) (fun h => (List.mem_append.mp h).elim (fun h => (List.mem_cons_of_mem _ (List.mem_append_left _ (List.mem_append_right _ (List.mem_append_right _ (List.mem_append_right _ (List.mem_append_right _ (List.mem_append_right _ (List.mem_append_right _ (List.mem_append_right _ (List.mem_append_right _ (List.mem_append_right _ (List.mem_append_right _ (List.mem_append_right _ (List.mem_append_left _ (List.mem_cons_of_mem _ h)))))))))))))))) (fun h => List.mem_cons_of_mem _ (List.mem_append_right _ h)))) w_f_X5_closes_good
theorem g_f_X5_ifStatement_X5_closes_V186 : GoodIn w_f_X5_ifStatement (wsV RX5 186 RX5 yX5_closes w_f_X5_closes) := goodIn_app (nb_g4 (List.mem_cons_of_mem _ (List.mem_append_left _ (List.mem_append_left _ (List.mem_of_getElem? (i := 56) rfl)))) (List.mem_cons_of_mem _ (List.mem_append_left _ (List.mem_append_left _ (List.mem_of_getElem? (i := 57) rfl)))) (List.mem_cons_of_mem _ (List.mem_append_left _ (List.mem_append_left _ (List.mem_of_getElem? (i := 58) rfl)))) (List.mem_cons_of_mem _ (List.mem_append_left _ (List.mem_append_left _ (List.mem_of_getElem? (i := 9) rfl)))) (by decide +kernel)) gg_f_X5_ifStatement_X5_closes
theorem gg_f_X5_ifStatement_X5_exp : GoodIn w_f_X5_ifStatement w_f_X5_exp := goodIn_sub (fun w h => (List.mem_cons.mp h).elim (fun e => (List.mem_cons_of_mem _ (List.mem_append_left _ (List.mem_append_right _ (List.mem_append_right _ (List.mem_append_right _ (List.mem_append_right _ (List.mem_append_right _ (List.mem_append_right _ (List.mem_append_right _ (List.mem_append_left _ (List.mem_cons.mpr (Or.inl e))))))))))))) (fun h => (List.mem_append.mp h).elim (fun h => (List.mem_cons_of_mem _ (List.mem_append_left _ (List.mem_append_right _ (List.mem_append_right _ (List.mem_append_right _ (List.mem_append_right _ (List.mem_append_right _ (List.mem_append_right _ (List.mem_append_right _ (List.mem_append_left _ (List.mem_cons_of_mem _ h)))))))))))) (fun h => List.mem_cons_of_mem _ (List.mem_append_right _ h)))) w_f_X5_exp_good
theorem g_f_X5_ifStatement_X5_exp_V90 : GoodIn w_f_X5_ifStatement (wsV RX5 90 RX5 yX5_exp w_f_X5_exp) := goodIn_app (nb_g4 (List.mem_cons_of_mem _ (List.mem_append_left _ (List.mem_append_left _ (List.mem_of_getElem? (i := 36) rfl)))) (List.mem_cons_of_mem _ (List.mem_append_left _ (List.mem_append_left _ (List.mem_of_getElem? (i := 37) rfl)))) (List.mem_cons_of_mem _ (List.mem_append_left _ (List.mem_append_left _ (List.mem_of_getElem? (i := 38) rfl)))) (List.mem_cons_of_mem _ (List.mem_append_left _ (List.mem_append_left _ (List.mem_of_getElem? (i := 9) rfl)))) (by decide +kernel)) gg_f_X5_ifStatement_X5_exp
theorem gg_f_X5_ifStatement_X5_expect : GoodIn w_f_X5_ifStatement w_f_X5_expect := goodIn_sub (fun w h => (List.mem_cons.mp h).elim (fun e => (List.mem_cons_of_mem _ (List.mem_append_left _ (List.mem_append_right _ (List.mem_append_right _ (List.mem_append_right _ (List.mem_append_right _ (List.mem_append_right _ (List.mem_append_right _ (List.mem_append_right _ (List.mem_append_right _ (List.mem_append_right _ (List.mem_append_left _ (List.mem_cons.mpr (Or.inl e))))))))))))))) (fun h => (List.mem_append.mp h).elim (fun h => (List.mem_cons_of_mem _ (List.mem_append_left _ (List.mem_append_right _ (List.mem_append_right _ (List.mem_append_right _ (List.mem_append_right _ (List.mem_append_right _ (List.mem_append_right _ (List.mem_append_right _ (List.mem_append_right _ (List.mem_append_right _ (List.mem_append_left _ (List.mem_cons_of_mem _ h)))))))))))))) (fun h => List.mem_cons_of_mem _ (List.mem_append_right _ h)))) w_f_X5_expect_good
theorem g_f_X5_ifStatement_X5_expect_V141 : GoodIn w_f_X5_ifStatement (wsV RX5 141 RX5 yX5_expect w_f_X5_expect) := goodIn_app (nb_g4 (List.mem_cons_of_mem _ (List.mem_append_left _ (List.mem_append_left _ (List.mem_of_getElem? (i := 42) rfl)))) (List.mem_cons_of_mem _ (List.mem_append_left _ (List.mem_append_left _ (List.mem_of_getElem? (i := 43) rfl)))) (List.mem_cons_of_mem _ (List.mem_append_left _ (List.mem_append_left _ (List.mem_of_getElem? (i := 44) rfl)))) (List.mem_cons_of_mem _ (List.mem_append_left _ (List.mem_append_left _ (List.mem_of_getElem? (i := 9) rfl)))) (by decide +kernel)) gg_f_X5_ifStatement_X5_expect
theorem gg_f_X5_ifStatement_X5_opens : GoodIn w_f_X5_ifStatement w_f_X5_opens := goodIn_sub (fun w h => (List.mem_cons.mp h).elim (fun e => (List.mem_cons_of_mem _ (List.mem_append_left _ (List.mem_append_right _ (List.mem_append_right _ (List.mem_append_right _ (List.mem_append_right _ (List.mem_append_left _ (List.mem_cons.mpr (Or.inl e)))))))))) (fun h => (List.mem_append.mp h).elim (fun h => (List.mem_cons_of_mem _ (List.mem_append_left _ (List.mem_append_right _ (List.mem_append_right _ (List.mem_append_right _ (List.mem_append_right _ (List.mem_append_left _ (List.mem_cons_of_mem _ h))))))))) (fun h => List.mem_cons_of_mem _ (List.mem_append_right _ h)))) w_f_X5_opens_good
theorem g_f_X5_ifStatement_X5_opens_V173 : GoodIn w_f_X5_ifStatement (wsV RX5 173 RX5 yX5_opens w_f_X5_opens) := goodIn_app (nb_g4 (List.mem_cons_of_mem _ (List.mem_append_left _ (List.mem_append_left _ (List.mem_of_getElem? (i := 24) rfl)))) (List.mem_cons_of_mem _ (List.mem_append_left _ (List.mem_append_left _ (List.mem_of_getElem? (i := 25) rfl)))) (List.mem_cons_of_mem _ (List.mem_append_left _ (List.mem_append_left _ (List.mem_of_getElem? (i := 26) rfl)))) (List.mem_cons_of_mem _ (List.mem_append_left _ (List.mem_append_left _ (List.mem_of_getElem? (i := 9) rfl)))) (by decide +kernel)) gg_f_X5_ifStatement_X5_opens
theorem gg_f_X5_ifStatement_X7_emit__P : GoodIn w_f_X5_ifStatement w_f_X7_emit__P := goodIn_sub (fun w h => (List.mem_cons.mp h).elim (fun e => (List.mem_cons_of_mem _ (List.mem_append_left _ (List.mem_append_right _ (List.mem_append_right _ (List.mem_append_right _ (List.mem_append_left _ (List.mem_cons.mpr (Or.inl e))))))))) (fun h => (List.mem_append.mp h).elim (fun h => (List.mem_cons_of_mem _ (List.mem_append_left _ (List.mem_append_right _ (List.mem_append_right _ (List.mem_append_right _ (List.mem_append_left _ (List.mem_cons_of_mem _ h)))))))) (fun h => List.mem_cons_of_mem _ (List.mem_append_right _ h)))) w_f_X7_emit__P_good
theorem g_f_X5_ifStatement_X7_emit__P_V66 : GoodIn w_f_X5_ifStatement (wsV RX5 66 RX7 yX7_emit w_f_X7_emit__P) := goodIn_app (nb_g4 (List.mem_cons_of_mem _ (List.mem_append_left _ (List.mem_append_left _ (List.mem_of_getElem? (i := 15) rfl)))) (List.mem_cons_of_mem _ (List.mem_append_left _ (List.mem_append_left _ (List.mem_of_getElem? (i := 16) rfl)))) (List.mem_cons_of_mem _ (List.mem_append_left _ (List.mem_append_left _ (List.mem_of_getElem? (i := 17) rfl)))) (List.mem_cons_of_mem _ (List.mem_append_left _ (List.mem_append_left _ (List.mem_of_getElem? (i := 18) rfl)))) (by decide +kernel)) gg_f_X5_ifStatement_X7_emit__P
theorem gg_f_X5_ifStatement_X5_aimAll : GoodIn w_f_X5_ifStatement w_y_X5_aimAll := goodIn_sub (fun w h => (List.mem_cons.mp h).elim (fun e => (List.mem_cons_of_mem _ (List.mem_append_left _ (List.mem_append_right _ (List.mem_append_right _ (List.mem_append_right _ (List.mem_append_right _ (List.mem_append_right _ (List.mem_append_right _ (List.mem_append_right _ (List.mem_append_right _ (List.mem_append_right _ (List.mem_append_right _ (List.mem_append_right _ (List.mem_append_right _ (List.mem_append_left _ (List.mem_cons.mpr (Or.inl e)))))))))))))))))) (fun h => (List.mem_append.mp h).elim (fun h => (List.mem_cons_of_mem _ (List.mem_append_left _ (List.mem_append_right _ (List.mem_append_right _ (List.mem_append_right _ (List.mem_append_right _ (List.mem_append_right _ (List.mem_append_right _ (List.mem_append_right _ (List.mem_append_right _ (List.mem_append_right _ (List.mem_append_right _ (List.mem_append_right _ (List.mem_append_right _ (List.mem_append_left _ (List.mem_cons_of_mem _ h))))))))))))))))) (fun h => List.mem_cons_of_mem _ (List.mem_append_right _ h)))) w_y_X5_aimAll_good
theorem g_y_X5_ifStatement_X5_aimAll_V249 : GoodIn w_f_X5_ifStatement (wsV RX5 249 RX5 yX5_aimAll w_y_X5_aimAll) := goodIn_app (nb_g4 (List.mem_cons_of_mem _ (List.mem_append_left _ (List.mem_append_left _ (List.mem_of_getElem? (i := 59) rfl)))) (List.mem_cons_of_mem _ (List.mem_append_left _ (List.mem_append_left _ (List.mem_of_getElem? (i := 60) rfl)))) (List.mem_cons_of_mem _ (List.mem_append_left _ (List.mem_append_left _ (List.mem_of_getElem? (i := 61) rfl)))) (List.mem_cons_of_mem _ (List.mem_append_left _ (List.mem_append_left _ (List.mem_of_getElem? (i := 9) rfl)))) (by decide +kernel)) gg_f_X5_ifStatement_X5_aimAll
theorem gg_f_X5_ifStatement_X7_aim__P : GoodIn w_f_X5_ifStatement w_y_X7_aim__P := goodIn_sub (fun w h => (List.mem_cons.mp h).elim (fun e => (List.mem_cons_of_mem _ (List.mem_append_left _ (List.mem_append_right _ (List.mem_append_right _ (List.mem_append_right _ (List.mem_append_right _ (List.mem_append_right _ (List.mem_append_right _ (List.mem_append_right _ (List.mem_append_right _ (List.mem_append_left _ (List.mem_cons.mpr (Or.inl e)))))))))))))) (fun h => (List.mem_append.mp h).elim (fun h => (List.mem_cons_of_mem _ (List.mem_append_left _ (List.mem_append_right _ (List.mem_append_right _ (List.mem_append_right _ (List.mem_append_right _ (List.mem_append_right _ (List.mem_append_right _ (List.mem_append_right _ (List.mem_append_right _ (List.mem_append_left _ (List.mem_cons_of_mem _ h))))))))))))) (fun h => List.mem_cons_of_mem _ (List.mem_append_right _ h)))) w_y_X7_aim__P_good
theorem g_y_X5_ifStatement_X7_aim__P_V240 : GoodIn w_f_X5_ifStatement (wsV RX5 240 RX7 yX7_aim w_y_X7_aim__P) := goodIn_app (nb_g4 (List.mem_cons_of_mem _ (List.mem_append_left _ (List.mem_append_left _ (List.mem_of_getElem? (i := 39) rfl)))) (List.mem_cons_of_mem _ (List.mem_append_left _ (List.mem_append_left _ (List.mem_of_getElem? (i := 40) rfl)))) (List.mem_cons_of_mem _ (List.mem_append_left _ (List.mem_append_left _ (List.mem_of_getElem? (i := 41) rfl)))) (List.mem_cons_of_mem _ (List.mem_append_left _ (List.mem_append_left _ (List.mem_of_getElem? (i := 18) rfl)))) (by decide +kernel)) gg_f_X5_ifStatement_X7_aim__P
set_option maxHeartbeats 40000000 in
set_option maxRecDepth 100000 in
theorem c_t_X5_ifStatement (l : Launch) (hl0 : l.stackTraces = false) (dC : Nat → ClassId) (dI : Nat → Nat → Nat) (cy : Nat → ClassId) (ek a : Nat → Nat) (k0 : Nat) (IH : ∀ j : Nat, j < k0 → P_F3 l dC dI cy ek a j) (d : Nat) (L0 : LV) (σ0 : CS) (r0 : RS) (h0 : f_F3 k0 d 2 0 L0 σ0 = some r0) (z : Nat → Nat) (sz : Nat) : vx_Met l yX5_ifStatement w_f_X5_ifStatement ({ frames := 412 + d, cells := r0.2.2.1, slots := r0.2.2.2, locals := 13455 + 28 * d }) (va_Pc [.ref (a 40)] (nInF (dC, dI) cy ek sz (vC cy a z σ0))) (xV dC dI cy a (va_A (vC cy a z σ0) sz) [41, 42, 43, 51] z r0) (xX dC dI cy a (va_A (vC cy a z σ0) sz) [41, 42, 43, 51] z r0) r0.2.2.1 r0.2.2.2 (va_A (vC cy a z σ0) sz) := by
  refine vx_ofW (cc := cX5_ifStatement) (maxL := 4) (ret := none) (by decide) rfl ?_
  intro p e s m args below meth c s₁ B hml hno hv
  obtain ⟨rfl, ⟨⟨hsz, hP, hK, hD0, hG⟩, hE⟩, hT⟩ := hv
  have hx := B.exec
  have hb := B.bytes
  have hr := B.returns
  have hts := atoms_spec (ws := w_f_X5_ifStatement) B.pre
  have hown : s.vm.findClass RX5 = some m.cls := findClass_of_methodNamed B.named
  have hlocks := B.notSynchronized
  subst hsz
  have hD := hD0.self (sz := s.heap.size)
  generalize hAe : va_A (vC cy a z σ0) s.heap.size = A at hD hE hT ⊢
  have hA : ∀ q : Nat, s.heap.size ≤ q → A q := fun q h => by rw [← hAe]; exact Or.inr h
  have hS : va_S A s.heap s.heap [] := va_S.rf
  have hl := lv_entry ([.ref (a 40)]) (n := 4) (Nat.le_of_ble_eq_true rfl)
  rw [lg_entry_eq]
  generalize (lg_sl ([.ref (a 40)]) ++ List.replicate (4 - (lg_sl ([.ref (a 40)])).length) Slot.unset).toArray = ls at hl ⊢
  have hl : lv_has ls 4 [(0, .ref (a 40))] := hl
  generalize hmc : r0.2.2.1 = mc
  generalize hms : r0.2.2.2 = ms
  have blk : ∀ k : Nat, k ≤ k0 → (bX p l e (headSpec w_f_X5_ifStatement ({ frames := 412 + d, cells := mc, slots := ms, locals := 13455 + 28 * d })).room s m #[.ref (a 40)] below meth c dC dI cy a A (fun r => vx_MQ below (xV dC dI cy a A [41, 42, 43, 51] z r) (xX dC dI cy a A [41, 42, 43, 51] z r) #[.ref (a 40)] s mc ms A) [41, 42, 43, 51] z mc ms 4 (f_F3 k d 2 0) (fun z L => [(0, .ref (a 40))]) 0 (fun z L => [])) ∧ (bX p l e (headSpec w_f_X5_ifStatement ({ frames := 412 + d, cells := mc, slots := ms, locals := 13455 + 28 * d })).room s m #[.ref (a 40)] below meth c dC dI cy a A (fun r => vx_MQ below (xV dC dI cy a A [41, 42, 43, 51] z r) (xX dC dI cy a A [41, 42, 43, 51] z r) #[.ref (a 40)] s mc ms A) [41, 42, 43, 51] z mc ms 4 (f_F3 k d 2 1) (fun z L => [(0, .ref (a 40))]) 37 (fun z L => [])) ∧ (bX p l e (headSpec w_f_X5_ifStatement ({ frames := 412 + d, cells := mc, slots := ms, locals := 13455 + 28 * d })).room s m #[.ref (a 40)] below meth c dC dI cy a A (fun r => vx_MQ below (xV dC dI cy a A [41, 42, 43, 51] z r) (xX dC dI cy a A [41, 42, 43, 51] z r) #[.ref (a 40)] s mc ms A) [41, 42, 43, 51] z mc ms 4 (f_F3 k d 2 2) (fun z L => [(0, .ref (a 40))]) 42 (fun z L => [])) ∧ (bX p l e (headSpec w_f_X5_ifStatement ({ frames := 412 + d, cells := mc, slots := ms, locals := 13455 + 28 * d })).room s m #[.ref (a 40)] below meth c dC dI cy a A (fun r => vx_MQ below (xV dC dI cy a A [41, 42, 43, 51] z r) (xX dC dI cy a A [41, 42, 43, 51] z r) #[.ref (a 40)] s mc ms A) [41, 42, 43, 51] z mc ms 4 (f_F3 k d 2 3) (fun z L => [(0, .ref (a 40)), (1, .int (L.1 1)), (2, .int (L.1 2)), (3, .int (L.1 3))]) 66 (fun z L => [])) ∧ (bX p l e (headSpec w_f_X5_ifStatement ({ frames := 412 + d, cells := mc, slots := ms, locals := 13455 + 28 * d })).room s m #[.ref (a 40)] below meth c dC dI cy a A (fun r => vx_MQ below (xV dC dI cy a A [41, 42, 43, 51] z r) (xX dC dI cy a A [41, 42, 43, 51] z r) #[.ref (a 40)] s mc ms A) [41, 42, 43, 51] z mc ms 4 (f_F3 k d 2 4) (fun z L => [(0, .ref (a 40)), (1, .int (L.1 1)), (2, .int (L.1 2))]) 147 (fun z L => [])) ∧ (bX p l e (headSpec w_f_X5_ifStatement ({ frames := 412 + d, cells := mc, slots := ms, locals := 13455 + 28 * d })).room s m #[.ref (a 40)] below meth c dC dI cy a A (fun r => vx_MQ below (xV dC dI cy a A [41, 42, 43, 51] z r) (xX dC dI cy a A [41, 42, 43, 51] z r) #[.ref (a 40)] s mc ms A) [41, 42, 43, 51] z mc ms 4 (f_F3 k d 2 5) (fun z L => [(0, .ref (a 40)), (1, .int (L.1 1)), (2, .int (L.1 2))]) 197 (fun z L => [])) ∧ (bX p l e (headSpec w_f_X5_ifStatement ({ frames := 412 + d, cells := mc, slots := ms, locals := 13455 + 28 * d })).room s m #[.ref (a 40)] below meth c dC dI cy a A (fun r => vx_MQ below (xV dC dI cy a A [41, 42, 43, 51] z r) (xX dC dI cy a A [41, 42, 43, 51] z r) #[.ref (a 40)] s mc ms A) [41, 42, 43, 51] z mc ms 4 (f_F3 k d 2 6) (fun z L => [(0, .ref (a 40)), (1, .int (L.1 1))]) 223 (fun z L => [])) := by
    intro k
    induction k with
    | zero => exact fun _ => ⟨fun z c1 c2 L σ r h => (by cases h), fun z c1 c2 L σ r h => (by cases h), fun z c1 c2 L σ r h => (by cases h), fun z c1 c2 L σ r h => (by cases h), fun z c1 c2 L σ r h => (by cases h), fun z c1 c2 L σ r h => (by cases h), fun z c1 c2 L σ r h => (by cases h)⟩
    | succ k ih =>
      intro hk
      replace ih := ih (by omega)
      refine ⟨?_, ?_, ?_, ?_, ?_, ?_, ?_⟩
      · intro z cells slots L σ r h hzk hc hs H locs ls hP hD hS hl
        rw [f_F3_2, t_X5_ifStatement_0] at h
        refine lv_aload_n hx hb dX5_ifStatement_0 rfl (lv_at hl 0 rfl) ?_
        obtain ⟨r1, hc1, hle1, h9⟩ := ox_ex h
        clear h
        refine kx_v (vx_runV (As := []) (rest := []) ⟨hx, hb, hml, hown, hts⟩ (c_f_X5_opens l hl0 dC dI cy ek a k lZ σ r1 hc1 z H.size) (cwV 0 hts g_f_X5_ifStatement_X5_opens_V173 rfl rfl rfl hd_f_X5_opens (by show 7 + 1 ≤ 412 + d ∧ 8 + (1 + 11) + 126 ≤ 13455 + 28 * d; omega)) ⟨nb_blindF, va_recv hK hP (ci := 4) (q0 := 40) rfl rfl, (kx_pre hK hG hE hT hA hP hD hS)⟩ rfl rfl hl.1 rfl (lv_room (Nat.le_of_ble_eq_true rfl)) dX5_ifStatement_1 ⟨Nat.le_trans (Nat.add_le_add_left hle1.1 _) (Nat.le_of_eq hc), Nat.le_trans (Nat.add_le_add_left hle1.2 _) (Nat.le_of_eq hs)⟩) hK hA hzk hP hD hS (by decide) hno hlocks ?_
        rcases h9 with ⟨h00, y1, hny1, hy⟩ | ⟨h00, hy⟩
        · subst hy
          have h := hny1
          refine Or.inl ⟨h00, fun u H locs hz1 hzk hP hD hS => ?_⟩
          obtain rfl := (zk_nil hz1).symm
          replace hc := (Nat.add_assoc _ _ _).trans hc
          replace hs := (Nat.add_assoc _ _ _).trans hs
          refine lv_aload_n hx hb dX5_ifStatement_4 rfl (lv_at hl 0 rfl) ?_
          refine hg_40_0 hx hb hts in_f_X5_ifStatement_X5 hown hK hP (hts _ (List.mem_cons_of_mem _ (List.mem_append_left _ (List.mem_append_left _ (List.mem_of_getElem? (i := 14) rfl))))) dX5_ifStatement_5 ?_
          refine hg_37_2n hx hb hts in_f_X5_ifStatement_X2 hown hK hP (va_Nw.use rfl (hG.1 _ (List.mem_of_getElem? (i := 52) rfl))) dX5_ifStatement_8 ?_
          refine lv_bipush (v := 63) hx hb dX5_ifStatement_11 (by decide) ?_
          refine lv_icmp_ne (tgt := 37) hx hb dX5_ifStatement_13 (by decide) (fun c2 => ?_) (fun c2 => ?_)
          · rw [if_neg c2] at h
            exact ih.2.1 z _ _ L r1.2.1 _ h hzk hc hs H locs ls hP hD hS (lv_sub hl [0] rfl)
          · rw [if_pos c2] at h
            refine lv_aload_n hx hb dX5_ifStatement_16 rfl (lv_at hl 0 rfl) ?_
            refine hg_40_0 hx hb hts in_f_X5_ifStatement_X5 hown hK hP (hts _ (List.mem_cons_of_mem _ (List.mem_append_left _ (List.mem_append_left _ (List.mem_of_getElem? (i := 14) rfl))))) dX5_ifStatement_17 ?_
            obtain ⟨r3, hc3, hle3, h9⟩ := ox_ex h
            clear h
            refine kx_v (r := y1) (vx_runV (As := []) (rest := []) ⟨hx, hb, hml, hown, hts⟩ (c_f_X2_advance l hl0 dC dI cy ek a k lZ r1.2.1 r3 hc3 z H.size) (cwV 0 hts g_f_X5_ifStatement_X2_advance_V30 rfl rfl rfl hd_f_X2_advance (by show 6 + 1 ≤ 412 + d ∧ 8 + (7 + 11) + 100 ≤ 13455 + 28 * d; omega)) ⟨nb_blindF, va_recv hK hP (ci := 2) (q0 := 37) rfl rfl, (kx_pre hK hG hE hT hA hP hD hS)⟩ rfl rfl hl.1 rfl (lv_room (Nat.le_of_ble_eq_true rfl)) dX5_ifStatement_20 ⟨Nat.le_trans (Nat.add_le_add_left hle3.1 _) (Nat.le_of_eq hc), Nat.le_trans (Nat.add_le_add_left hle3.2 _) (Nat.le_of_eq hs)⟩) hK hA hzk hP hD hS (by decide) hno hlocks ?_
            rcases h9 with ⟨h00, y3, hny3, hy⟩ | ⟨h00, hy⟩
            · subst hy
              have h := hny3
              refine Or.inl ⟨h00, fun u H locs hz3 hzk hP hD hS => ?_⟩
              obtain rfl := (zk_nil hz3).symm
              replace hc := (Nat.add_assoc _ _ _).trans hc
              replace hs := (Nat.add_assoc _ _ _).trans hs
              refine lv_aload_n hx hb dX5_ifStatement_23 rfl (lv_at hl 0 rfl) ?_
              obtain ⟨b4, hb4, h⟩ := oP_ex h
              refine hgq_40_2 hx hb hts in_f_X5_ifStatement_X5 hown hK hP (hts _ (List.mem_cons_of_mem _ (List.mem_append_left _ (List.mem_append_left _ (List.mem_of_getElem? (i := 13) rfl))))) hb4 dX5_ifStatement_24 ?_
              refine lv_bipush (v := 21) hx hb dX5_ifStatement_27 (by decide) ?_
              refine lv_iconst (v := 0) hx hb dX5_ifStatement_29 (by decide) ?_
              obtain ⟨r5, hc5, hle5, h9⟩ := ox_ex h
              clear h
              refine kx_i (r := y3) (vx_runV (As := [.int 21, .int 0]) (rest := []) ⟨hx, hb, hml, hown, hts⟩ (c_f_X7_emit__P l hl0 dC dI cy ek a k (lI (lI (lB lZ 0 b4) 1 21) 2 0) r3.2.1 r5 hc5 z H.size) (cwV 2 hts g_f_X5_ifStatement_X7_emit__P_V66 rfl rfl rfl hd_f_X7_emit__P (by show 7 + 1 ≤ 412 + d ∧ 8 + (3 + 11) + 121 ≤ 13455 + 28 * d; omega)) ⟨nb_blindF, recvP b4 hK hP, (kx_pre hK hG hE hT hA hP hD hS)⟩ rfl rfl hl.1 rfl (lv_room (Nat.le_of_ble_eq_true rfl)) dX5_ifStatement_30 ⟨Nat.le_trans (Nat.add_le_add_left hle5.1 _) (Nat.le_of_eq hc), Nat.le_trans (Nat.add_le_add_left hle5.2 _) (Nat.le_of_eq hs)⟩) hK hA hzk hP hD hS (by decide) hno hlocks ?_
              rcases h9 with ⟨h00, y5, hny5, hy⟩ | ⟨h00, hy⟩
              · subst hy
                have h := hny5
                refine Or.inl ⟨h00, fun z H locs hz5 hzk hP hD hS => ?_⟩
                replace hc := (Nat.add_assoc _ _ _).trans hc
                replace hs := (Nat.add_assoc _ _ _).trans hs
                refine lv_pop hx hb dX5_ifStatement_33 rfl ?_
                refine lv_goto (tgt := 42) hx hb dX5_ifStatement_34 (by decide) ?_
                exact ih.2.2.1 z _ _ L r5.2.1 _ h hzk hc hs H locs ls hP hD hS (lv_sub hl [0] rfl)
              · subst hy
                exact Or.inr ⟨h00, rfl, hc, hs⟩
            · subst hy
              exact Or.inr ⟨h00, rfl, hc, hs⟩
        · subst hy
          exact Or.inr ⟨h00, rfl, hc, hs⟩
      · intro z cells slots L σ r h hzk hc hs H locs ls hP hD hS hl
        rw [f_F3_2, t_X5_ifStatement_1] at h
        refine lv_aload_n hx hb dX5_ifStatement_37 rfl (lv_at hl 0 rfl) ?_
        refine lv_iconst (v := 0) hx hb dX5_ifStatement_38 (by decide) ?_
        obtain ⟨r1, hc1, hle1, h9⟩ := ox_ex h
        clear h
        refine kx_v (vx_runV (As := [.int 0]) (rest := []) ⟨hx, hb, hml, hown, hts⟩ (c_f_X5_exp l hl0 dC dI cy ek a k (lI lZ 1 0) σ r1 hc1 z H.size) (cwV 1 hts g_f_X5_ifStatement_X5_exp_V90 rfl rfl rfl hd_f_X5_exp (by show 409 + 1 ≤ 412 + d ∧ 8 + (8 + 11) + 13373 ≤ 13455 + 28 * d; omega)) ⟨nb_blindF, va_recv hK hP (ci := 4) (q0 := 40) rfl rfl, (kx_pre hK hG hE hT hA hP hD hS)⟩ rfl rfl hl.1 rfl (lv_room (Nat.le_of_ble_eq_true rfl)) dX5_ifStatement_39 ⟨Nat.le_trans (Nat.add_le_add_left hle1.1 _) (Nat.le_of_eq hc), Nat.le_trans (Nat.add_le_add_left hle1.2 _) (Nat.le_of_eq hs)⟩) hK hA hzk hP hD hS (by decide) hno hlocks ?_
        rcases h9 with ⟨h00, y1, hny1, hy⟩ | ⟨h00, hy⟩
        · subst hy
          have h := hny1
          refine Or.inl ⟨h00, fun z H locs hz1 hzk hP hD hS => ?_⟩
          replace hc := (Nat.add_assoc _ _ _).trans hc
          replace hs := (Nat.add_assoc _ _ _).trans hs
          exact ih.2.2.1 z _ _ L r1.2.1 _ h hzk hc hs H locs ls hP hD hS (lv_sub hl [0] rfl)
        · subst hy
          exact Or.inr ⟨h00, rfl, hc, hs⟩
      · intro z cells slots L σ r h hzk hc hs H locs ls hP hD hS hl
        rw [f_F3_2, t_X5_ifStatement_2] at h
        refine lv_iconst (v := 0) hx hb dX5_ifStatement_42 (by decide) ?_
        refine lv_istore_n (lv' := [(1, .int 0), (0, .ref (a 40))]) hx hb dX5_ifStatement_43 rfl hl (by decide) rfl (fun ls hl => ?_)
        refine lv_aload_n hx hb dX5_ifStatement_44 rfl (lv_at hl 1 rfl) ?_
        refine lv_bipush (v := 40) hx hb dX5_ifStatement_45 (by decide) ?_
        obtain ⟨r1, hc1, hle1, h9⟩ := ox_ex h
        clear h
        refine kx_v (vx_runV (As := [.int 40]) (rest := []) ⟨hx, hb, hml, hown, hts⟩ (c_f_X5_expect l hl0 dC dI cy ek a k (lI lZ 1 40) σ r1 hc1 z H.size) (cwV 1 hts g_f_X5_ifStatement_X5_expect_V141 rfl rfl rfl hd_f_X5_expect (by show 7 + 1 ≤ 412 + d ∧ 8 + (2 + 11) + 126 ≤ 13455 + 28 * d; omega)) ⟨nb_blindF, va_recv hK hP (ci := 4) (q0 := 40) rfl rfl, (kx_pre hK hG hE hT hA hP hD hS)⟩ rfl rfl hl.1 rfl (lv_room (Nat.le_of_ble_eq_true rfl)) dX5_ifStatement_47 ⟨Nat.le_trans (Nat.add_le_add_left hle1.1 _) (Nat.le_of_eq hc), Nat.le_trans (Nat.add_le_add_left hle1.2 _) (Nat.le_of_eq hs)⟩) hK hA hzk hP hD hS (by decide) hno hlocks ?_
        rcases h9 with ⟨h00, y1, hny1, hy⟩ | ⟨h00, hy⟩
        · subst hy
          have h := hny1
          refine Or.inl ⟨h00, fun u H locs hz1 hzk hP hD hS => ?_⟩
          obtain rfl := (zk_nil hz1).symm
          replace hc := (Nat.add_assoc _ _ _).trans hc
          replace hs := (Nat.add_assoc _ _ _).trans hs
          refine lv_aload_n hx hb dX5_ifStatement_50 rfl (lv_at hl 1 rfl) ?_
          obtain ⟨b2, hb2, h⟩ := oP_ex h
          refine hgq_40_2 hx hb hts in_f_X5_ifStatement_X5 hown hK hP (hts _ (List.mem_cons_of_mem _ (List.mem_append_left _ (List.mem_append_left _ (List.mem_of_getElem? (i := 13) rfl))))) hb2 dX5_ifStatement_51 ?_
          refine lv_iconst (v := 4) hx hb dX5_ifStatement_54 (by decide) ?_
          refine lv_iconst (v := 0) hx hb dX5_ifStatement_55 (by decide) ?_
          obtain ⟨r3, hc3, hle3, h9⟩ := ox_ex h
          clear h
          refine kx_i (r := y1) (vx_runV (As := [.int 4, .int 0]) (rest := []) ⟨hx, hb, hml, hown, hts⟩ (c_f_X7_emit__P l hl0 dC dI cy ek a k (lI (lI (lB lZ 0 b2) 1 4) 2 0) r1.2.1 r3 hc3 z H.size) (cwV 2 hts g_f_X5_ifStatement_X7_emit__P_V66 rfl rfl rfl hd_f_X7_emit__P (by show 7 + 1 ≤ 412 + d ∧ 8 + (3 + 11) + 121 ≤ 13455 + 28 * d; omega)) ⟨nb_blindF, recvP b2 hK hP, (kx_pre hK hG hE hT hA hP hD hS)⟩ rfl rfl hl.1 rfl (lv_room (Nat.le_of_ble_eq_true rfl)) dX5_ifStatement_56 ⟨Nat.le_trans (Nat.add_le_add_left hle3.1 _) (Nat.le_of_eq hc), Nat.le_trans (Nat.add_le_add_left hle3.2 _) (Nat.le_of_eq hs)⟩) hK hA hzk hP hD hS (by decide) hno hlocks ?_
          rcases h9 with ⟨h00, y3, hny3, hy⟩ | ⟨h00, hy⟩
          · subst hy
            have h := hny3
            refine Or.inl ⟨h00, fun z H locs hz3 hzk hP hD hS => ?_⟩
            replace hc := (Nat.add_assoc _ _ _).trans hc
            replace hs := (Nat.add_assoc _ _ _).trans hs
            refine lv_istore_n (lv' := [(2, .int r3.1.2), (1, .int 0), (0, .ref (a 40))]) hx hb dX5_ifStatement_59 rfl hl (by decide) rfl (fun ls hl => ?_)
            refine lv_aload_n hx hb dX5_ifStatement_60 rfl (lv_at hl 2 rfl) ?_
            obtain ⟨e4, he4, h⟩ := of_ex h
            obtain ⟨r4, hc4, hle4, h9⟩ := ox_ex h
            clear h
            refine kx_v (r := y3) (vx_runV (As := []) (rest := []) ⟨hx, hb, hml, hown, hts⟩ ((IH k (by omega)).1 e4 lZ r3.2.1 r4 hc4 z H.size) (cwV 0 hts g_f_X5_ifStatement_X5_block_V58 rfl rfl rfl hd_f_X5_block (by show (412 + e4) + 1 ≤ 412 + d ∧ 8 + (3 + 11) + (13455 + 28 * e4) ≤ 13455 + 28 * d; omega)) ⟨nb_blindF, va_recv hK hP (ci := 4) (q0 := 40) rfl rfl, (kx_pre hK hG hE hT hA hP hD hS)⟩ rfl rfl hl.1 rfl (lv_room (Nat.le_of_ble_eq_true rfl)) dX5_ifStatement_61 ⟨Nat.le_trans (Nat.add_le_add_left hle4.1 _) (Nat.le_of_eq hc), Nat.le_trans (Nat.add_le_add_left hle4.2 _) (Nat.le_of_eq hs)⟩) hK hA hzk hP hD hS (by decide) hno hlocks ?_
            rcases h9 with ⟨h00, y4, hny4, hy⟩ | ⟨h00, hy⟩
            · subst hy
              have h := hny4
              refine Or.inl ⟨h00, fun z H locs hz4 hzk hP hD hS => ?_⟩
              replace hc := (Nat.add_assoc _ _ _).trans hc
              replace hs := (Nat.add_assoc _ _ _).trans hs
              refine lv_iconst (v := 0) hx hb dX5_ifStatement_64 (by decide) ?_
              refine lv_istore_n (lv' := [(3, .int 0), (2, .int r3.1.2), (1, .int 0), (0, .ref (a 40))]) hx hb dX5_ifStatement_65 rfl hl (by decide) rfl (fun ls hl => ?_)
              exact ih.2.2.2.1 z _ _ (lI (lI (lI L 1 0) 2 r3.1.2) 3 0) r4.2.1 _ h hzk hc hs H locs ls hP hD hS (lv_sub hl [3, 2, 1, 0] rfl)
            · subst hy
              exact Or.inr ⟨h00, rfl, hc, hs⟩
          · subst hy
            exact Or.inr ⟨h00, rfl, hc, hs⟩
        · subst hy
          exact Or.inr ⟨h00, rfl, hc, hs⟩
      · intro z cells slots L σ r h hzk hc hs H locs ls hP hD hS hl
        rw [f_F3_2, t_X5_ifStatement_3] at h
        refine lv_iload_n hx hb dX5_ifStatement_66 rfl (lv_at hl 3 rfl) ?_
        refine lv_ldc (v := 32768) hx hb hown (hts _ (List.mem_cons_of_mem _ (List.mem_append_left _ (List.mem_append_left _ (List.mem_of_getElem? (i := 55) rfl))))) dX5_ifStatement_67 ?_
        refine lv_icmp_gt (tgt := 147) hx hb dX5_ifStatement_69 (by decide) (fun c1 => ?_) (fun c1 => ?_)
        · rw [if_pos c1] at h
          exact ih.2.2.2.2.1 z _ _ L σ _ h hzk hc hs H locs ls hP hD hS (lv_sub hl [0, 1, 2] rfl)
        · rw [if_neg c1] at h
          refine lv_aload_n hx hb dX5_ifStatement_72 rfl (lv_at hl 0 rfl) ?_
          refine hg_40_0 hx hb hts in_f_X5_ifStatement_X5 hown hK hP (hts _ (List.mem_cons_of_mem _ (List.mem_append_left _ (List.mem_append_left _ (List.mem_of_getElem? (i := 14) rfl))))) dX5_ifStatement_73 ?_
          refine hg_37_2n hx hb hts in_f_X5_ifStatement_X2 hown hK hP (va_Nw.use rfl (hG.1 _ (List.mem_of_getElem? (i := 52) rfl))) dX5_ifStatement_76 ?_
          refine lv_bipush (v := 41) hx hb dX5_ifStatement_79 (by decide) ?_
          refine lv_icmp_ne (tgt := 147) hx hb dX5_ifStatement_81 (by decide) (fun c2 => ?_) (fun c2 => ?_)
          · rw [if_neg c2] at h
            exact ih.2.2.2.2.1 z _ _ L σ _ h hzk hc hs H locs ls hP hD hS (lv_sub hl [0, 1, 2] rfl)
          · rw [if_pos c2] at h
            refine lv_aload_n hx hb dX5_ifStatement_84 rfl (lv_at hl 0 rfl) ?_
            obtain ⟨b3, hb3, h⟩ := oP_ex h
            refine hgq_40_2 hx hb hts in_f_X5_ifStatement_X5 hown hK hP (hts _ (List.mem_cons_of_mem _ (List.mem_append_left _ (List.mem_append_left _ (List.mem_of_getElem? (i := 13) rfl))))) hb3 dX5_ifStatement_85 ?_
            refine lv_iconst (v := 3) hx hb dX5_ifStatement_88 (by decide) ?_
            refine lv_iload_n hx hb dX5_ifStatement_89 rfl (lv_at hl 1 rfl) ?_
            obtain ⟨r4, hc4, hle4, h9⟩ := ox_ex h
            clear h
            refine kx_i (vx_runV (As := [.int 3, .int (L.1 1)]) (rest := []) ⟨hx, hb, hml, hown, hts⟩ (c_f_X7_emit__P l hl0 dC dI cy ek a k (lI (lI (lB lZ 0 b3) 1 3) 2 ((L.1 1))) σ r4 hc4 z H.size) (cwV 2 hts g_f_X5_ifStatement_X7_emit__P_V66 rfl rfl rfl hd_f_X7_emit__P (by show 7 + 1 ≤ 412 + d ∧ 8 + (3 + 11) + 121 ≤ 13455 + 28 * d; omega)) ⟨nb_blindF, recvP b3 hK hP, (kx_pre hK hG hE hT hA hP hD hS)⟩ rfl rfl hl.1 rfl (lv_room (Nat.le_of_ble_eq_true rfl)) dX5_ifStatement_90 ⟨Nat.le_trans (Nat.add_le_add_left hle4.1 _) (Nat.le_of_eq hc), Nat.le_trans (Nat.add_le_add_left hle4.2 _) (Nat.le_of_eq hs)⟩) hK hA hzk hP hD hS (by decide) hno hlocks ?_
            rcases h9 with ⟨h00, y4, hny4, hy⟩ | ⟨h00, hy⟩
            · subst hy
              have h := hny4
              refine Or.inl ⟨h00, fun z H locs hz4 hzk hP hD hS => ?_⟩
              replace hc := (Nat.add_assoc _ _ _).trans hc
              replace hs := (Nat.add_assoc _ _ _).trans hs
              refine lv_istore_n (lv' := [(1, .int r4.1.2), (0, .ref (a 40)), (2, .int (L.1 2)), (3, .int (L.1 3))]) hx hb dX5_ifStatement_93 rfl hl (by decide) rfl (fun ls hl => ?_)
              refine lv_aload_n hx hb dX5_ifStatement_94 rfl (lv_at hl 1 rfl) ?_
              obtain ⟨b5, hb5, h⟩ := oP_ex h
              refine hgq_40_2 hx hb hts in_f_X5_ifStatement_X5 hown hK hP (hts _ (List.mem_cons_of_mem _ (List.mem_append_left _ (List.mem_append_left _ (List.mem_of_getElem? (i := 13) rfl))))) hb5 dX5_ifStatement_95 ?_
              refine lv_iload_n hx hb dX5_ifStatement_98 rfl (lv_at hl 2 rfl) ?_
              refine lv_aload_n hx hb dX5_ifStatement_99 rfl (lv_at hl 1 rfl) ?_
              obtain ⟨b6, hb6, h⟩ := oP_ex h
              refine hgq_40_2 hx hb hts in_f_X5_ifStatement_X5 hown hK hP (hts _ (List.mem_cons_of_mem _ (List.mem_append_left _ (List.mem_append_left _ (List.mem_of_getElem? (i := 13) rfl))))) hb6 dX5_ifStatement_100 ?_
              refine hg_P_1n b6 hx hb hts in_f_X5_ifStatement_X7 hown hK hP (va_Nw.use rfl (hG.1 _ (List.mem_of_getElem? (i := 68) rfl))) dX5_ifStatement_103 ?_
              obtain ⟨r7, hc7, h⟩ := op_ex h
              refine kc_v (va_runV (As := [.int (L.1 2), .int (r4.2.1.1 (fP b6 1))]) (rest := []) ⟨hx, hb, hml, hown, hts⟩ (c_y_X7_aim__P l dC dI cy a z k (lI (lI (lB lZ 0 b5) 1 ((L.1 2))) 2 ((r4.2.1.1 (fP b6 1)))) r4.2.1 r7 hc7 H.size) (cwV 2 hts g_y_X5_ifStatement_X7_aim__P_V240 rfl rfl rfl hd_y_X7_aim__P (by show 0 + 1 ≤ 412 + d ∧ 8 + (3 + 11) + 0 ≤ 13455 + 28 * d; omega)) ⟨nb_blind, recvP b5 hK hP, (kb_pre hK hG hP hD)⟩ rfl rfl hl.1 rfl (lv_room (Nat.le_of_ble_eq_true rfl)) dX5_ifStatement_106 ⟨(Nat.le_trans (Nat.le_add_right _ _) (Nat.le_of_eq hc)), (Nat.le_trans (Nat.le_add_right _ _) (Nat.le_of_eq hs))⟩) hA hP hD hS (fun H locs hP hD hS => ?_)
              refine lv_aload_n hx hb dX5_ifStatement_109 rfl (lv_at hl 1 rfl) ?_
              refine hg_40_0 hx hb hts in_f_X5_ifStatement_X5 hown hK hP (hts _ (List.mem_cons_of_mem _ (List.mem_append_left _ (List.mem_append_left _ (List.mem_of_getElem? (i := 14) rfl))))) dX5_ifStatement_110 ?_
              obtain ⟨r8, hc8, hle8, h9⟩ := ox_ex h
              clear h
              refine kx_v (r := y4) (vx_runV (As := []) (rest := []) ⟨hx, hb, hml, hown, hts⟩ (c_f_X2_advance l hl0 dC dI cy ek a k lZ r7.2 r8 hc8 z H.size) (cwV 0 hts g_f_X5_ifStatement_X2_advance_V30 rfl rfl rfl hd_f_X2_advance (by show 6 + 1 ≤ 412 + d ∧ 8 + (7 + 11) + 100 ≤ 13455 + 28 * d; omega)) ⟨nb_blindF, va_recv hK hP (ci := 2) (q0 := 37) rfl rfl, (kx_pre hK hG hE hT hA hP hD hS)⟩ rfl rfl hl.1 rfl (lv_room (Nat.le_of_ble_eq_true rfl)) dX5_ifStatement_113 ⟨Nat.le_trans (Nat.add_le_add_left hle8.1 _) (Nat.le_of_eq hc), Nat.le_trans (Nat.add_le_add_left hle8.2 _) (Nat.le_of_eq hs)⟩) hK hA hzk hP hD hS (by decide) hno hlocks ?_
              rcases h9 with ⟨h00, y8, hny8, hy⟩ | ⟨h00, hy⟩
              · subst hy
                have h := hny8
                refine Or.inl ⟨h00, fun u H locs hz8 hzk hP hD hS => ?_⟩
                obtain rfl := (zk_nil hz8).symm
                replace hc := (Nat.add_assoc _ _ _).trans hc
                replace hs := (Nat.add_assoc _ _ _).trans hs
                refine lv_aload_n hx hb dX5_ifStatement_116 rfl (lv_at hl 1 rfl) ?_
                refine lv_iconst (v := 0) hx hb dX5_ifStatement_117 (by decide) ?_
                obtain ⟨r9, hc9, hle9, h9⟩ := ox_ex h
                clear h
                refine kx_v (r := y8) (vx_runV (As := [.int 0]) (rest := []) ⟨hx, hb, hml, hown, hts⟩ (c_f_X5_exp l hl0 dC dI cy ek a k (lI lZ 1 0) r8.2.1 r9 hc9 z H.size) (cwV 1 hts g_f_X5_ifStatement_X5_exp_V90 rfl rfl rfl hd_f_X5_exp (by show 409 + 1 ≤ 412 + d ∧ 8 + (8 + 11) + 13373 ≤ 13455 + 28 * d; omega)) ⟨nb_blindF, va_recv hK hP (ci := 4) (q0 := 40) rfl rfl, (kx_pre hK hG hE hT hA hP hD hS)⟩ rfl rfl hl.1 rfl (lv_room (Nat.le_of_ble_eq_true rfl)) dX5_ifStatement_118 ⟨Nat.le_trans (Nat.add_le_add_left hle9.1 _) (Nat.le_of_eq hc), Nat.le_trans (Nat.add_le_add_left hle9.2 _) (Nat.le_of_eq hs)⟩) hK hA hzk hP hD hS (by decide) hno hlocks ?_
                rcases h9 with ⟨h00, y9, hny9, hy⟩ | ⟨h00, hy⟩
                · subst hy
                  have h := hny9
                  refine Or.inl ⟨h00, fun z H locs hz9 hzk hP hD hS => ?_⟩
                  replace hc := (Nat.add_assoc _ _ _).trans hc
                  replace hs := (Nat.add_assoc _ _ _).trans hs
                  refine lv_aload_n hx hb dX5_ifStatement_121 rfl (lv_at hl 1 rfl) ?_
                  refine lv_bipush (v := 40) hx hb dX5_ifStatement_122 (by decide) ?_
                  obtain ⟨r10, hc10, hle10, h9⟩ := ox_ex h
                  clear h
                  refine kx_v (r := y9) (vx_runV (As := [.int 40]) (rest := []) ⟨hx, hb, hml, hown, hts⟩ (c_f_X5_expect l hl0 dC dI cy ek a k (lI lZ 1 40) r9.2.1 r10 hc10 z H.size) (cwV 1 hts g_f_X5_ifStatement_X5_expect_V141 rfl rfl rfl hd_f_X5_expect (by show 7 + 1 ≤ 412 + d ∧ 8 + (2 + 11) + 126 ≤ 13455 + 28 * d; omega)) ⟨nb_blindF, va_recv hK hP (ci := 4) (q0 := 40) rfl rfl, (kx_pre hK hG hE hT hA hP hD hS)⟩ rfl rfl hl.1 rfl (lv_room (Nat.le_of_ble_eq_true rfl)) dX5_ifStatement_124 ⟨Nat.le_trans (Nat.add_le_add_left hle10.1 _) (Nat.le_of_eq hc), Nat.le_trans (Nat.add_le_add_left hle10.2 _) (Nat.le_of_eq hs)⟩) hK hA hzk hP hD hS (by decide) hno hlocks ?_
                  rcases h9 with ⟨h00, y10, hny10, hy⟩ | ⟨h00, hy⟩
                  · subst hy
                    have h := hny10
                    refine Or.inl ⟨h00, fun u H locs hz10 hzk hP hD hS => ?_⟩
                    obtain rfl := (zk_nil hz10).symm
                    replace hc := (Nat.add_assoc _ _ _).trans hc
                    replace hs := (Nat.add_assoc _ _ _).trans hs
                    refine lv_aload_n hx hb dX5_ifStatement_127 rfl (lv_at hl 1 rfl) ?_
                    obtain ⟨b11, hb11, h⟩ := oP_ex h
                    refine hgq_40_2 hx hb hts in_f_X5_ifStatement_X5 hown hK hP (hts _ (List.mem_cons_of_mem _ (List.mem_append_left _ (List.mem_append_left _ (List.mem_of_getElem? (i := 13) rfl))))) hb11 dX5_ifStatement_128 ?_
                    refine lv_iconst (v := 4) hx hb dX5_ifStatement_131 (by decide) ?_
                    refine lv_iconst (v := 0) hx hb dX5_ifStatement_132 (by decide) ?_
                    obtain ⟨r12, hc12, hle12, h9⟩ := ox_ex h
                    clear h
                    refine kx_i (r := y10) (vx_runV (As := [.int 4, .int 0]) (rest := []) ⟨hx, hb, hml, hown, hts⟩ (c_f_X7_emit__P l hl0 dC dI cy ek a k (lI (lI (lB lZ 0 b11) 1 4) 2 0) r10.2.1 r12 hc12 z H.size) (cwV 2 hts g_f_X5_ifStatement_X7_emit__P_V66 rfl rfl rfl hd_f_X7_emit__P (by show 7 + 1 ≤ 412 + d ∧ 8 + (3 + 11) + 121 ≤ 13455 + 28 * d; omega)) ⟨nb_blindF, recvP b11 hK hP, (kx_pre hK hG hE hT hA hP hD hS)⟩ rfl rfl hl.1 rfl (lv_room (Nat.le_of_ble_eq_true rfl)) dX5_ifStatement_133 ⟨Nat.le_trans (Nat.add_le_add_left hle12.1 _) (Nat.le_of_eq hc), Nat.le_trans (Nat.add_le_add_left hle12.2 _) (Nat.le_of_eq hs)⟩) hK hA hzk hP hD hS (by decide) hno hlocks ?_
                    rcases h9 with ⟨h00, y12, hny12, hy⟩ | ⟨h00, hy⟩
                    · subst hy
                      have h := hny12
                      refine Or.inl ⟨h00, fun z H locs hz12 hzk hP hD hS => ?_⟩
                      replace hc := (Nat.add_assoc _ _ _).trans hc
                      replace hs := (Nat.add_assoc _ _ _).trans hs
                      refine lv_istore_n (lv' := [(2, .int r12.1.2), (1, .int r4.1.2), (0, .ref (a 40)), (3, .int (L.1 3))]) hx hb dX5_ifStatement_136 rfl hl (by decide) rfl (fun ls hl => ?_)
                      refine lv_aload_n hx hb dX5_ifStatement_137 rfl (lv_at hl 2 rfl) ?_
                      obtain ⟨e13, he13, h⟩ := of_ex h
                      obtain ⟨r13, hc13, hle13, h9⟩ := ox_ex h
                      clear h
                      refine kx_v (r := y12) (vx_runV (As := []) (rest := []) ⟨hx, hb, hml, hown, hts⟩ ((IH k (by omega)).1 e13 lZ r12.2.1 r13 hc13 z H.size) (cwV 0 hts g_f_X5_ifStatement_X5_block_V58 rfl rfl rfl hd_f_X5_block (by show (412 + e13) + 1 ≤ 412 + d ∧ 8 + (3 + 11) + (13455 + 28 * e13) ≤ 13455 + 28 * d; omega)) ⟨nb_blindF, va_recv hK hP (ci := 4) (q0 := 40) rfl rfl, (kx_pre hK hG hE hT hA hP hD hS)⟩ rfl rfl hl.1 rfl (lv_room (Nat.le_of_ble_eq_true rfl)) dX5_ifStatement_138 ⟨Nat.le_trans (Nat.add_le_add_left hle13.1 _) (Nat.le_of_eq hc), Nat.le_trans (Nat.add_le_add_left hle13.2 _) (Nat.le_of_eq hs)⟩) hK hA hzk hP hD hS (by decide) hno hlocks ?_
                      rcases h9 with ⟨h00, y13, hny13, hy⟩ | ⟨h00, hy⟩
                      · subst hy
                        have h := hny13
                        refine Or.inl ⟨h00, fun z H locs hz13 hzk hP hD hS => ?_⟩
                        replace hc := (Nat.add_assoc _ _ _).trans hc
                        replace hs := (Nat.add_assoc _ _ _).trans hs
                        refine lv_iinc (v := ((L.1 3)) + 1) (lv' := [(3, .int (((L.1 3)) + 1)), (2, .int r12.1.2), (1, .int r4.1.2), (0, .ref (a 40))]) hx hb dX5_ifStatement_141 hl (k := 3) rfl rfl (by decide) rfl (fun ls hl => ?_)
                        refine lv_goto (tgt := 66) hx hb dX5_ifStatement_144 (by decide) ?_
                        exact ih.2.2.2.1 z _ _ (lI (lI (lI L 1 r4.1.2) 2 r12.1.2) 3 ((((L.1 3)) + 1))) r13.2.1 _ h hzk hc hs H locs ls hP hD hS (lv_sub hl [3, 2, 1, 0] rfl)
                      · subst hy
                        exact Or.inr ⟨h00, rfl, hc, hs⟩
                    · subst hy
                      exact Or.inr ⟨h00, rfl, hc, hs⟩
                  · subst hy
                    exact Or.inr ⟨h00, rfl, hc, hs⟩
                · subst hy
                  exact Or.inr ⟨h00, rfl, hc, hs⟩
              · subst hy
                exact Or.inr ⟨h00, rfl, hc, hs⟩
            · subst hy
              exact Or.inr ⟨h00, rfl, hc, hs⟩
      · intro z cells slots L σ r h hzk hc hs H locs ls hP hD hS hl
        rw [f_F3_2, t_X5_ifStatement_4] at h
        refine lv_aload_n hx hb dX5_ifStatement_147 rfl (lv_at hl 0 rfl) ?_
        refine hg_40_0 hx hb hts in_f_X5_ifStatement_X5 hown hK hP (hts _ (List.mem_cons_of_mem _ (List.mem_append_left _ (List.mem_append_left _ (List.mem_of_getElem? (i := 14) rfl))))) dX5_ifStatement_148 ?_
        refine hg_37_2n hx hb hts in_f_X5_ifStatement_X2 hown hK hP (va_Nw.use rfl (hG.1 _ (List.mem_of_getElem? (i := 52) rfl))) dX5_ifStatement_151 ?_
        refine lv_bipush (v := 42) hx hb dX5_ifStatement_154 (by decide) ?_
        refine lv_icmp_ne (tgt := 197) hx hb dX5_ifStatement_156 (by decide) (fun c1 => ?_) (fun c1 => ?_)
        · rw [if_neg c1] at h
          exact ih.2.2.2.2.2.1 z _ _ L σ _ h hzk hc hs H locs ls hP hD hS (lv_sub hl [0, 1, 2] rfl)
        · rw [if_pos c1] at h
          refine lv_aload_n hx hb dX5_ifStatement_159 rfl (lv_at hl 0 rfl) ?_
          obtain ⟨b2, hb2, h⟩ := oP_ex h
          refine hgq_40_2 hx hb hts in_f_X5_ifStatement_X5 hown hK hP (hts _ (List.mem_cons_of_mem _ (List.mem_append_left _ (List.mem_append_left _ (List.mem_of_getElem? (i := 13) rfl))))) hb2 dX5_ifStatement_160 ?_
          refine lv_iconst (v := 3) hx hb dX5_ifStatement_163 (by decide) ?_
          refine lv_iload_n hx hb dX5_ifStatement_164 rfl (lv_at hl 1 rfl) ?_
          obtain ⟨r3, hc3, hle3, h9⟩ := ox_ex h
          clear h
          refine kx_i (vx_runV (As := [.int 3, .int (L.1 1)]) (rest := []) ⟨hx, hb, hml, hown, hts⟩ (c_f_X7_emit__P l hl0 dC dI cy ek a k (lI (lI (lB lZ 0 b2) 1 3) 2 ((L.1 1))) σ r3 hc3 z H.size) (cwV 2 hts g_f_X5_ifStatement_X7_emit__P_V66 rfl rfl rfl hd_f_X7_emit__P (by show 7 + 1 ≤ 412 + d ∧ 8 + (3 + 11) + 121 ≤ 13455 + 28 * d; omega)) ⟨nb_blindF, recvP b2 hK hP, (kx_pre hK hG hE hT hA hP hD hS)⟩ rfl rfl hl.1 rfl (lv_room (Nat.le_of_ble_eq_true rfl)) dX5_ifStatement_165 ⟨Nat.le_trans (Nat.add_le_add_left hle3.1 _) (Nat.le_of_eq hc), Nat.le_trans (Nat.add_le_add_left hle3.2 _) (Nat.le_of_eq hs)⟩) hK hA hzk hP hD hS (by decide) hno hlocks ?_
          rcases h9 with ⟨h00, y3, hny3, hy⟩ | ⟨h00, hy⟩
          · subst hy
            have h := hny3
            refine Or.inl ⟨h00, fun z H locs hz3 hzk hP hD hS => ?_⟩
            replace hc := (Nat.add_assoc _ _ _).trans hc
            replace hs := (Nat.add_assoc _ _ _).trans hs
            refine lv_istore_n (lv' := [(1, .int r3.1.2), (0, .ref (a 40)), (2, .int (L.1 2))]) hx hb dX5_ifStatement_168 rfl hl (by decide) rfl (fun ls hl => ?_)
            refine lv_aload_n hx hb dX5_ifStatement_169 rfl (lv_at hl 1 rfl) ?_
            obtain ⟨b4, hb4, h⟩ := oP_ex h
            refine hgq_40_2 hx hb hts in_f_X5_ifStatement_X5 hown hK hP (hts _ (List.mem_cons_of_mem _ (List.mem_append_left _ (List.mem_append_left _ (List.mem_of_getElem? (i := 13) rfl))))) hb4 dX5_ifStatement_170 ?_
            refine lv_iload_n hx hb dX5_ifStatement_173 rfl (lv_at hl 2 rfl) ?_
            refine lv_aload_n hx hb dX5_ifStatement_174 rfl (lv_at hl 1 rfl) ?_
            obtain ⟨b5, hb5, h⟩ := oP_ex h
            refine hgq_40_2 hx hb hts in_f_X5_ifStatement_X5 hown hK hP (hts _ (List.mem_cons_of_mem _ (List.mem_append_left _ (List.mem_append_left _ (List.mem_of_getElem? (i := 13) rfl))))) hb5 dX5_ifStatement_175 ?_
            refine hg_P_1n b5 hx hb hts in_f_X5_ifStatement_X7 hown hK hP (va_Nw.use rfl (hG.1 _ (List.mem_of_getElem? (i := 68) rfl))) dX5_ifStatement_178 ?_
            obtain ⟨r6, hc6, h⟩ := op_ex h
            refine kc_v (va_runV (As := [.int (L.1 2), .int (r3.2.1.1 (fP b5 1))]) (rest := []) ⟨hx, hb, hml, hown, hts⟩ (c_y_X7_aim__P l dC dI cy a z k (lI (lI (lB lZ 0 b4) 1 ((L.1 2))) 2 ((r3.2.1.1 (fP b5 1)))) r3.2.1 r6 hc6 H.size) (cwV 2 hts g_y_X5_ifStatement_X7_aim__P_V240 rfl rfl rfl hd_y_X7_aim__P (by show 0 + 1 ≤ 412 + d ∧ 8 + (3 + 11) + 0 ≤ 13455 + 28 * d; omega)) ⟨nb_blind, recvP b4 hK hP, (kb_pre hK hG hP hD)⟩ rfl rfl hl.1 rfl (lv_room (Nat.le_of_ble_eq_true rfl)) dX5_ifStatement_181 ⟨(Nat.le_trans (Nat.le_add_right _ _) (Nat.le_of_eq hc)), (Nat.le_trans (Nat.le_add_right _ _) (Nat.le_of_eq hs))⟩) hA hP hD hS (fun H locs hP hD hS => ?_)
            refine lv_iconst (v := (-1)) hx hb dX5_ifStatement_184 (by decide) ?_
            refine lv_istore_n (lv' := [(2, .int (-1)), (1, .int r3.1.2), (0, .ref (a 40))]) hx hb dX5_ifStatement_185 rfl hl (by decide) rfl (fun ls hl => ?_)
            refine lv_aload_n hx hb dX5_ifStatement_186 rfl (lv_at hl 2 rfl) ?_
            refine hg_40_0 hx hb hts in_f_X5_ifStatement_X5 hown hK hP (hts _ (List.mem_cons_of_mem _ (List.mem_append_left _ (List.mem_append_left _ (List.mem_of_getElem? (i := 14) rfl))))) dX5_ifStatement_187 ?_
            obtain ⟨r7, hc7, hle7, h9⟩ := ox_ex h
            clear h
            refine kx_v (r := y3) (vx_runV (As := []) (rest := []) ⟨hx, hb, hml, hown, hts⟩ (c_f_X2_advance l hl0 dC dI cy ek a k lZ r6.2 r7 hc7 z H.size) (cwV 0 hts g_f_X5_ifStatement_X2_advance_V30 rfl rfl rfl hd_f_X2_advance (by show 6 + 1 ≤ 412 + d ∧ 8 + (7 + 11) + 100 ≤ 13455 + 28 * d; omega)) ⟨nb_blindF, va_recv hK hP (ci := 2) (q0 := 37) rfl rfl, (kx_pre hK hG hE hT hA hP hD hS)⟩ rfl rfl hl.1 rfl (lv_room (Nat.le_of_ble_eq_true rfl)) dX5_ifStatement_190 ⟨Nat.le_trans (Nat.add_le_add_left hle7.1 _) (Nat.le_of_eq hc), Nat.le_trans (Nat.add_le_add_left hle7.2 _) (Nat.le_of_eq hs)⟩) hK hA hzk hP hD hS (by decide) hno hlocks ?_
            rcases h9 with ⟨h00, y7, hny7, hy⟩ | ⟨h00, hy⟩
            · subst hy
              have h := hny7
              refine Or.inl ⟨h00, fun u H locs hz7 hzk hP hD hS => ?_⟩
              obtain rfl := (zk_nil hz7).symm
              replace hc := (Nat.add_assoc _ _ _).trans hc
              replace hs := (Nat.add_assoc _ _ _).trans hs
              refine lv_aload_n hx hb dX5_ifStatement_193 rfl (lv_at hl 2 rfl) ?_
              obtain ⟨e8, he8, h⟩ := of_ex h
              obtain ⟨r8, hc8, hle8, h9⟩ := ox_ex h
              clear h
              refine kx_v (r := y7) (vx_runV (As := []) (rest := []) ⟨hx, hb, hml, hown, hts⟩ ((IH k (by omega)).1 e8 lZ r7.2.1 r8 hc8 z H.size) (cwV 0 hts g_f_X5_ifStatement_X5_block_V58 rfl rfl rfl hd_f_X5_block (by show (412 + e8) + 1 ≤ 412 + d ∧ 8 + (3 + 11) + (13455 + 28 * e8) ≤ 13455 + 28 * d; omega)) ⟨nb_blindF, va_recv hK hP (ci := 4) (q0 := 40) rfl rfl, (kx_pre hK hG hE hT hA hP hD hS)⟩ rfl rfl hl.1 rfl (lv_room (Nat.le_of_ble_eq_true rfl)) dX5_ifStatement_194 ⟨Nat.le_trans (Nat.add_le_add_left hle8.1 _) (Nat.le_of_eq hc), Nat.le_trans (Nat.add_le_add_left hle8.2 _) (Nat.le_of_eq hs)⟩) hK hA hzk hP hD hS (by decide) hno hlocks ?_
              rcases h9 with ⟨h00, y8, hny8, hy⟩ | ⟨h00, hy⟩
              · subst hy
                have h := hny8
                refine Or.inl ⟨h00, fun z H locs hz8 hzk hP hD hS => ?_⟩
                replace hc := (Nat.add_assoc _ _ _).trans hc
                replace hs := (Nat.add_assoc _ _ _).trans hs
                exact ih.2.2.2.2.2.1 z _ _ (lI (lI L 1 r3.1.2) 2 ((-1))) r8.2.1 _ h hzk hc hs H locs ls hP hD hS (lv_sub hl [2, 1, 0] rfl)
              · subst hy
                exact Or.inr ⟨h00, rfl, hc, hs⟩
            · subst hy
              exact Or.inr ⟨h00, rfl, hc, hs⟩
          · subst hy
            exact Or.inr ⟨h00, rfl, hc, hs⟩
      · intro z cells slots L σ r h hzk hc hs H locs ls hP hD hS hl
        rw [f_F3_2, t_X5_ifStatement_5] at h
        refine lv_aload_n hx hb dX5_ifStatement_197 rfl (lv_at hl 0 rfl) ?_
        refine lv_bipush (v := 38) hx hb dX5_ifStatement_198 (by decide) ?_
        obtain ⟨r1, hc1, hle1, h9⟩ := ox_ex h
        clear h
        refine kx_v (vx_runV (As := [.int 38]) (rest := []) ⟨hx, hb, hml, hown, hts⟩ (c_f_X5_closes l hl0 dC dI cy ek a k (lI lZ 1 38) σ r1 hc1 z H.size) (cwV 1 hts g_f_X5_ifStatement_X5_closes_V186 rfl rfl rfl hd_f_X5_closes (by show 7 + 1 ≤ 412 + d ∧ 8 + (2 + 11) + 126 ≤ 13455 + 28 * d; omega)) ⟨nb_blindF, va_recv hK hP (ci := 4) (q0 := 40) rfl rfl, (kx_pre hK hG hE hT hA hP hD hS)⟩ rfl rfl hl.1 rfl (lv_room (Nat.le_of_ble_eq_true rfl)) dX5_ifStatement_200 ⟨Nat.le_trans (Nat.add_le_add_left hle1.1 _) (Nat.le_of_eq hc), Nat.le_trans (Nat.add_le_add_left hle1.2 _) (Nat.le_of_eq hs)⟩) hK hA hzk hP hD hS (by decide) hno hlocks ?_
        rcases h9 with ⟨h00, y1, hny1, hy⟩ | ⟨h00, hy⟩
        · subst hy
          have h := hny1
          refine Or.inl ⟨h00, fun u H locs hz1 hzk hP hD hS => ?_⟩
          obtain rfl := (zk_nil hz1).symm
          replace hc := (Nat.add_assoc _ _ _).trans hc
          replace hs := (Nat.add_assoc _ _ _).trans hs
          refine lv_iload_n hx hb dX5_ifStatement_203 rfl (lv_at hl 2 rfl) ?_
          refine lv_iconst (v := (-1)) hx hb dX5_ifStatement_204 (by decide) ?_
          refine lv_icmp_eq (tgt := 223) hx hb dX5_ifStatement_205 (by decide) (fun c2 => ?_) (fun c2 => ?_)
          · rw [if_pos c2] at h
            exact ih.2.2.2.2.2.2 z _ _ L r1.2.1 _ h hzk hc hs H locs ls hP hD hS (lv_sub hl [0, 1] rfl)
          · rw [if_neg c2] at h
            refine lv_aload_n hx hb dX5_ifStatement_208 rfl (lv_at hl 0 rfl) ?_
            obtain ⟨b3, hb3, h⟩ := oP_ex h
            refine hgq_40_2 hx hb hts in_f_X5_ifStatement_X5 hown hK hP (hts _ (List.mem_cons_of_mem _ (List.mem_append_left _ (List.mem_append_left _ (List.mem_of_getElem? (i := 13) rfl))))) hb3 dX5_ifStatement_209 ?_
            refine lv_iload_n hx hb dX5_ifStatement_212 rfl (lv_at hl 2 rfl) ?_
            refine lv_aload_n hx hb dX5_ifStatement_213 rfl (lv_at hl 0 rfl) ?_
            obtain ⟨b4, hb4, h⟩ := oP_ex h
            refine hgq_40_2 hx hb hts in_f_X5_ifStatement_X5 hown hK hP (hts _ (List.mem_cons_of_mem _ (List.mem_append_left _ (List.mem_append_left _ (List.mem_of_getElem? (i := 13) rfl))))) hb4 dX5_ifStatement_214 ?_
            refine hg_P_1n b4 hx hb hts in_f_X5_ifStatement_X7 hown hK hP (va_Nw.use rfl (hG.1 _ (List.mem_of_getElem? (i := 68) rfl))) dX5_ifStatement_217 ?_
            obtain ⟨r5, hc5, h⟩ := op_ex h
            refine kc_v (va_runV (As := [.int (L.1 2), .int (r1.2.1.1 (fP b4 1))]) (rest := []) ⟨hx, hb, hml, hown, hts⟩ (c_y_X7_aim__P l dC dI cy a z k (lI (lI (lB lZ 0 b3) 1 ((L.1 2))) 2 ((r1.2.1.1 (fP b4 1)))) r1.2.1 r5 hc5 H.size) (cwV 2 hts g_y_X5_ifStatement_X7_aim__P_V240 rfl rfl rfl hd_y_X7_aim__P (by show 0 + 1 ≤ 412 + d ∧ 8 + (3 + 11) + 0 ≤ 13455 + 28 * d; omega)) ⟨nb_blind, recvP b3 hK hP, (kb_pre hK hG hP hD)⟩ rfl rfl hl.1 rfl (lv_room (Nat.le_of_ble_eq_true rfl)) dX5_ifStatement_220 ⟨(Nat.le_trans (Nat.le_add_right _ _) (Nat.le_of_eq hc)), (Nat.le_trans (Nat.le_add_right _ _) (Nat.le_of_eq hs))⟩) hA hP hD hS (fun H locs hP hD hS => ?_)
            exact ih.2.2.2.2.2.2 z _ _ L r5.2 _ h hzk hc hs H locs ls hP hD hS (lv_sub hl [0, 1] rfl)
        · subst hy
          exact Or.inr ⟨h00, rfl, hc, hs⟩
      · intro z cells slots L σ r h hzk hc hs H locs ls hP hD hS hl
        rw [f_F3_2, t_X5_ifStatement_6] at h
        refine lv_aload_n hx hb dX5_ifStatement_223 rfl (lv_at hl 0 rfl) ?_
        refine lv_iload_n hx hb dX5_ifStatement_224 rfl (lv_at hl 1 rfl) ?_
        obtain ⟨r1, hc1, h⟩ := op_ex h
        refine kc_v (va_runV (As := [.int (L.1 1)]) (rest := []) ⟨hx, hb, hml, hown, hts⟩ (c_y_X5_aimAll l dC dI cy a z k (lI lZ 1 ((L.1 1))) σ r1 hc1 H.size) (cwV 1 hts g_y_X5_ifStatement_X5_aimAll_V249 rfl rfl rfl hd_y_X5_aimAll (by show 1 + 1 ≤ 412 + d ∧ 8 + (5 + 11) + 22 ≤ 13455 + 28 * d; omega)) ⟨nb_blind, va_recv hK hP (ci := 4) (q0 := 40) rfl rfl, (kb_pre hK hG hP hD)⟩ rfl rfl hl.1 rfl (lv_room (Nat.le_of_ble_eq_true rfl)) dX5_ifStatement_225 ⟨(Nat.le_trans (Nat.le_add_right _ _) (Nat.le_of_eq hc)), (Nat.le_trans (Nat.le_add_right _ _) (Nat.le_of_eq hs))⟩) hA hP hD hS (fun H locs hP hD hS => ?_)
        obtain rfl := Option.some.inj h
        subst hc
        subst hs
        exact xr_v hx hb hr hK hzk hP hD hS hlocks dX5_ifStatement_228
  exact (blk k0 (Nat.le_refl _)).1 z 0 0 L0 σ0 r0 h0 (zk_rf _ _) ((Nat.zero_add _).trans hmc) ((Nat.zero_add _).trans hms) s.heap [] ls hP hD hS hl
theorem gg_f_X5_loopBody_X5_block : GoodIn w_f_X5_loopBody w_f_X5_block := goodIn_sub (fun w h => (List.mem_cons.mp h).elim (fun e => e ▸ (List.mem_cons_of_mem _ (List.mem_append_left _ (List.mem_append_left _ (List.mem_of_getElem? (i := 0) rfl))))) (fun h => List.mem_cons_of_mem _ h)) w_f_X5_block_good
theorem g_f_X5_loopBody_X5_block_V58 : GoodIn w_f_X5_loopBody (wsV RX5 58 RX5 yX5_block w_f_X5_block) := goodIn_app (nb_g4 (List.mem_cons_of_mem _ (List.mem_append_left _ (List.mem_append_left _ (List.mem_of_getElem? (i := 52) rfl)))) (List.mem_cons_of_mem _ (List.mem_append_left _ (List.mem_append_left _ (List.mem_of_getElem? (i := 53) rfl)))) (List.mem_cons_of_mem _ (List.mem_append_left _ (List.mem_append_left _ (List.mem_of_getElem? (i := 54) rfl)))) (List.mem_cons_of_mem _ (List.mem_append_left _ (List.mem_append_left _ (List.mem_of_getElem? (i := 9) rfl)))) (by decide +kernel)) gg_f_X5_loopBody_X5_block
theorem gg_f_X5_loopBody_X5_closes : GoodIn w_f_X5_loopBody w_f_X5_closes := goodIn_sub (fun w h => (List.mem_cons.mp h).elim (fun e => (List.mem_cons_of_mem _ (List.mem_append_left _ (List.mem_append_right _ (List.mem_append_right _ (List.mem_append_right _ (List.mem_append_right _ (List.mem_append_right _ (List.mem_append_right _ (List.mem_append_right _ (List.mem_append_right _ (List.mem_append_right _ (List.mem_append_right _ (List.mem_append_right _ (List.mem_append_left _ (List.mem_cons.mpr (Or.inl e))))))))))))))))) (fun h => (List.mem_append.mp h).elim (fun h => (List.mem_cons_of_mem _ (List.mem_append_left _ (List.mem_append_right _ (List.mem_append_right _ (List.mem_append_right _ (List.mem_append_right _ (List.mem_append_right _ (List.mem_append_right _ (List.mem_append_right _ (List.mem_append_right _ (List.mem_append_right _ (List.mem_append_right _ (List.mem_append_right _ (List.mem_append_left _ (List.mem_cons_of_mem _ h)))))))))))))))) (fun h => List.mem_cons_of_mem _ (List.mem_append_right _ h)))) w_f_X5_closes_good
theorem g_f_X5_loopBody_X5_closes_V186 : GoodIn w_f_X5_loopBody (wsV RX5 186 RX5 yX5_closes w_f_X5_closes) := goodIn_app (nb_g4 (List.mem_cons_of_mem _ (List.mem_append_left _ (List.mem_append_left _ (List.mem_of_getElem? (i := 56) rfl)))) (List.mem_cons_of_mem _ (List.mem_append_left _ (List.mem_append_left _ (List.mem_of_getElem? (i := 57) rfl)))) (List.mem_cons_of_mem _ (List.mem_append_left _ (List.mem_append_left _ (List.mem_of_getElem? (i := 58) rfl)))) (List.mem_cons_of_mem _ (List.mem_append_left _ (List.mem_append_left _ (List.mem_of_getElem? (i := 9) rfl)))) (by decide +kernel)) gg_f_X5_loopBody_X5_closes
theorem gg_f_X5_loopBody_X7_emit__P : GoodIn w_f_X5_loopBody w_f_X7_emit__P := goodIn_sub (fun w h => (List.mem_cons.mp h).elim (fun e => (List.mem_cons_of_mem _ (List.mem_append_left _ (List.mem_append_right _ (List.mem_append_right _ (List.mem_append_right _ (List.mem_append_left _ (List.mem_cons.mpr (Or.inl e))))))))) (fun h => (List.mem_append.mp h).elim (fun h => (List.mem_cons_of_mem _ (List.mem_append_left _ (List.mem_append_right _ (List.mem_append_right _ (List.mem_append_right _ (List.mem_append_left _ (List.mem_cons_of_mem _ h)))))))) (fun h => List.mem_cons_of_mem _ (List.mem_append_right _ h)))) w_f_X7_emit__P_good
theorem g_f_X5_loopBody_X7_emit__P_V66 : GoodIn w_f_X5_loopBody (wsV RX5 66 RX7 yX7_emit w_f_X7_emit__P) := goodIn_app (nb_g4 (List.mem_cons_of_mem _ (List.mem_append_left _ (List.mem_append_left _ (List.mem_of_getElem? (i := 15) rfl)))) (List.mem_cons_of_mem _ (List.mem_append_left _ (List.mem_append_left _ (List.mem_of_getElem? (i := 16) rfl)))) (List.mem_cons_of_mem _ (List.mem_append_left _ (List.mem_append_left _ (List.mem_of_getElem? (i := 17) rfl)))) (List.mem_cons_of_mem _ (List.mem_append_left _ (List.mem_append_left _ (List.mem_of_getElem? (i := 18) rfl)))) (by decide +kernel)) gg_f_X5_loopBody_X7_emit__P
theorem gg_f_X5_loopBody_X5_aimAll : GoodIn w_f_X5_loopBody w_y_X5_aimAll := goodIn_sub (fun w h => (List.mem_cons.mp h).elim (fun e => (List.mem_cons_of_mem _ (List.mem_append_left _ (List.mem_append_right _ (List.mem_append_right _ (List.mem_append_right _ (List.mem_append_right _ (List.mem_append_right _ (List.mem_append_right _ (List.mem_append_right _ (List.mem_append_right _ (List.mem_append_right _ (List.mem_append_right _ (List.mem_append_right _ (List.mem_append_right _ (List.mem_append_left _ (List.mem_cons.mpr (Or.inl e)))))))))))))))))) (fun h => (List.mem_append.mp h).elim (fun h => (List.mem_cons_of_mem _ (List.mem_append_left _ (List.mem_append_right _ (List.mem_append_right _ (List.mem_append_right _ (List.mem_append_right _ (List.mem_append_right _ (List.mem_append_right _ (List.mem_append_right _ (List.mem_append_right _ (List.mem_append_right _ (List.mem_append_right _ (List.mem_append_right _ (List.mem_append_right _ (List.mem_append_left _ (List.mem_cons_of_mem _ h))))))))))))))))) (fun h => List.mem_cons_of_mem _ (List.mem_append_right _ h)))) w_y_X5_aimAll_good
theorem g_y_X5_loopBody_X5_aimAll_V249 : GoodIn w_f_X5_loopBody (wsV RX5 249 RX5 yX5_aimAll w_y_X5_aimAll) := goodIn_app (nb_g4 (List.mem_cons_of_mem _ (List.mem_append_left _ (List.mem_append_left _ (List.mem_of_getElem? (i := 59) rfl)))) (List.mem_cons_of_mem _ (List.mem_append_left _ (List.mem_append_left _ (List.mem_of_getElem? (i := 60) rfl)))) (List.mem_cons_of_mem _ (List.mem_append_left _ (List.mem_append_left _ (List.mem_of_getElem? (i := 61) rfl)))) (List.mem_cons_of_mem _ (List.mem_append_left _ (List.mem_append_left _ (List.mem_of_getElem? (i := 9) rfl)))) (by decide +kernel)) gg_f_X5_loopBody_X5_aimAll
theorem gg_f_X5_loopBody_X7_aim__P : GoodIn w_f_X5_loopBody w_y_X7_aim__P := goodIn_sub (fun w h => (List.mem_cons.mp h).elim (fun e => (List.mem_cons_of_mem _ (List.mem_append_left _ (List.mem_append_right _ (List.mem_append_right _ (List.mem_append_right _ (List.mem_append_right _ (List.mem_append_right _ (List.mem_append_right _ (List.mem_append_right _ (List.mem_append_right _ (List.mem_append_left _ (List.mem_cons.mpr (Or.inl e)))))))))))))) (fun h => (List.mem_append.mp h).elim (fun h => (List.mem_cons_of_mem _ (List.mem_append_left _ (List.mem_append_right _ (List.mem_append_right _ (List.mem_append_right _ (List.mem_append_right _ (List.mem_append_right _ (List.mem_append_right _ (List.mem_append_right _ (List.mem_append_right _ (List.mem_append_left _ (List.mem_cons_of_mem _ h))))))))))))) (fun h => List.mem_cons_of_mem _ (List.mem_append_right _ h)))) w_y_X7_aim__P_good
theorem g_y_X5_loopBody_X7_aim__P_V240 : GoodIn w_f_X5_loopBody (wsV RX5 240 RX7 yX7_aim w_y_X7_aim__P) := goodIn_app (nb_g4 (List.mem_cons_of_mem _ (List.mem_append_left _ (List.mem_append_left _ (List.mem_of_getElem? (i := 39) rfl)))) (List.mem_cons_of_mem _ (List.mem_append_left _ (List.mem_append_left _ (List.mem_of_getElem? (i := 40) rfl)))) (List.mem_cons_of_mem _ (List.mem_append_left _ (List.mem_append_left _ (List.mem_of_getElem? (i := 41) rfl)))) (List.mem_cons_of_mem _ (List.mem_append_left _ (List.mem_append_left _ (List.mem_of_getElem? (i := 18) rfl)))) (by decide +kernel)) gg_f_X5_loopBody_X7_aim__P
set_option maxHeartbeats 40000000 in
set_option maxRecDepth 100000 in
theorem c_t_X5_loopBody (l : Launch) (hl0 : l.stackTraces = false) (dC : Nat → ClassId) (dI : Nat → Nat → Nat) (cy : Nat → ClassId) (ek a : Nat → Nat) (k0 : Nat) (IH : ∀ j : Nat, j < k0 → P_F3 l dC dI cy ek a j) (d : Nat) (L0 : LV) (σ0 : CS) (r0 : RS) (h0 : f_F3 k0 d 3 0 L0 σ0 = some r0) (z : Nat → Nat) (sz : Nat) : vx_Met l yX5_loopBody w_f_X5_loopBody ({ frames := 412 + d, cells := r0.2.2.1, slots := r0.2.2.2, locals := 13455 + 28 * d }) (va_Pc [.ref (a 40), .int (L0.1 1)] (nInF (dC, dI) cy ek sz (vC cy a z σ0))) (xV dC dI cy a (va_A (vC cy a z σ0) sz) [41, 42, 43, 51] z r0) (xX dC dI cy a (va_A (vC cy a z σ0) sz) [41, 42, 43, 51] z r0) r0.2.2.1 r0.2.2.2 (va_A (vC cy a z σ0) sz) := by
  refine vx_ofW (cc := cX5_loopBody) (maxL := 4) (ret := none) (by decide) rfl ?_
  intro p e s m args below meth c s₁ B hml hno hv
  obtain ⟨rfl, ⟨⟨hsz, hP, hK, hD0, hG⟩, hE⟩, hT⟩ := hv
  have hx := B.exec
  have hb := B.bytes
  have hr := B.returns
  have hts := atoms_spec (ws := w_f_X5_loopBody) B.pre
  have hown : s.vm.findClass RX5 = some m.cls := findClass_of_methodNamed B.named
  have hlocks := B.notSynchronized
  subst hsz
  have hD := hD0.self (sz := s.heap.size)
  generalize hAe : va_A (vC cy a z σ0) s.heap.size = A at hD hE hT ⊢
  have hA : ∀ q : Nat, s.heap.size ≤ q → A q := fun q h => by rw [← hAe]; exact Or.inr h
  have hS : va_S A s.heap s.heap [] := va_S.rf
  have hl := lv_entry ([.ref (a 40), .int (L0.1 1)]) (n := 4) (Nat.le_of_ble_eq_true rfl)
  rw [lg_entry_eq]
  generalize (lg_sl ([.ref (a 40), .int (L0.1 1)]) ++ List.replicate (4 - (lg_sl ([.ref (a 40), .int (L0.1 1)])).length) Slot.unset).toArray = ls at hl ⊢
  have hl : lv_has ls 4 [(0, .ref (a 40)), (1, .int (L0.1 1))] := hl
  generalize hmc : r0.2.2.1 = mc
  generalize hms : r0.2.2.2 = ms
  have blk : ∀ k : Nat, k ≤ k0 → (bX p l e (headSpec w_f_X5_loopBody ({ frames := 412 + d, cells := mc, slots := ms, locals := 13455 + 28 * d })).room s m #[.ref (a 40), .int (L0.1 1)] below meth c dC dI cy a A (fun r => vx_MQ below (xV dC dI cy a A [41, 42, 43, 51] z r) (xX dC dI cy a A [41, 42, 43, 51] z r) #[.ref (a 40), .int (L0.1 1)] s mc ms A) [41, 42, 43, 51] z mc ms 4 (f_F3 k d 3 0) (fun z L => [(0, .ref (a 40)), (1, .int (L.1 1))]) 0 (fun z L => [])) ∧ (bX p l e (headSpec w_f_X5_loopBody ({ frames := 412 + d, cells := mc, slots := ms, locals := 13455 + 28 * d })).room s m #[.ref (a 40), .int (L0.1 1)] below meth c dC dI cy a A (fun r => vx_MQ below (xV dC dI cy a A [41, 42, 43, 51] z r) (xX dC dI cy a A [41, 42, 43, 51] z r) #[.ref (a 40), .int (L0.1 1)] s mc ms A) [41, 42, 43, 51] z mc ms 4 (f_F3 k d 3 1) (fun z L => [(0, .ref (a 40)), (3, .int (L.1 3))]) 60 (fun z L => [])) := by
    intro k
    induction k with
    | zero => exact fun _ => ⟨fun z c1 c2 L σ r h => (by cases h), fun z c1 c2 L σ r h => (by cases h)⟩
    | succ k ih =>
      intro hk
      replace ih := ih (by omega)
      refine ⟨?_, ?_⟩
      · intro z cells slots L σ r h hzk hc hs H locs ls hP hD hS hl
        rw [f_F3_3, t_X5_loopBody_0] at h
        refine lv_aload_n hx hb dX5_loopBody_0 rfl (lv_at hl 0 rfl) ?_
        refine hg_40_8 hx hb hts in_f_X5_loopBody_X5 hown hK hP (hts _ (List.mem_cons_of_mem _ (List.mem_append_left _ (List.mem_append_left _ (List.mem_of_getElem? (i := 62) rfl))))) dX5_loopBody_1 ?_
        refine lv_istore_n (lv' := [(2, .int (σ.1 4008)), (0, .ref (a 40)), (1, .int (L.1 1))]) hx hb dX5_loopBody_4 rfl hl (by decide) rfl (fun ls hl => ?_)
        refine lv_aload_n hx hb dX5_loopBody_5 rfl (lv_at hl 1 rfl) ?_
        refine hg_40_9 hx hb hts in_f_X5_loopBody_X5 hown hK hP (hts _ (List.mem_cons_of_mem _ (List.mem_append_left _ (List.mem_append_left _ (List.mem_of_getElem? (i := 63) rfl))))) dX5_loopBody_6 ?_
        refine lv_istore_n (lv' := [(3, .int (σ.1 4009)), (2, .int (σ.1 4008)), (0, .ref (a 40)), (1, .int (L.1 1))]) hx hb dX5_loopBody_9 rfl hl (by decide) rfl (fun ls hl => ?_)
        refine lv_aload_n hx hb dX5_loopBody_10 rfl (lv_at hl 2 rfl) ?_
        refine lv_iload_n hx hb dX5_loopBody_11 rfl (lv_at hl 3 rfl) ?_
        refine hp_40_8 hx hb hts in_f_X5_loopBody_X5 hown hK hP hD hS (hts _ (List.mem_cons_of_mem _ (List.mem_append_left _ (List.mem_append_left _ (List.mem_of_getElem? (i := 62) rfl))))) dX5_loopBody_12 (fun H locs hP hD hS => ?_)
        refine lv_aload_n hx hb dX5_loopBody_15 rfl (lv_at hl 2 rfl) ?_
        refine lv_iconst (v := 0) hx hb dX5_loopBody_16 (by decide) ?_
        refine hp_40_9 hx hb hts in_f_X5_loopBody_X5 hown hK hP hD hS (hts _ (List.mem_cons_of_mem _ (List.mem_append_left _ (List.mem_append_left _ (List.mem_of_getElem? (i := 63) rfl))))) dX5_loopBody_17 (fun H locs hP hD hS => ?_)
        refine lv_aload_n hx hb dX5_loopBody_20 rfl (lv_at hl 2 rfl) ?_
        obtain ⟨e1, he1, h⟩ := of_ex h
        obtain ⟨r1, hc1, hle1, h9⟩ := ox_ex h
        clear h
        refine kx_v (vx_runV (As := []) (rest := []) ⟨hx, hb, hml, hown, hts⟩ ((IH k (by omega)).1 e1 lZ (uI (uI σ 4008 ((L.1 1))) 4009 0) r1 hc1 z H.size) (cwV 0 hts g_f_X5_loopBody_X5_block_V58 rfl rfl rfl hd_f_X5_block (by show (412 + e1) + 1 ≤ 412 + d ∧ 8 + (3 + 11) + (13455 + 28 * e1) ≤ 13455 + 28 * d; omega)) ⟨nb_blindF, va_recv hK hP (ci := 4) (q0 := 40) rfl rfl, (kx_pre hK hG hE hT hA hP hD hS)⟩ rfl rfl hl.1 rfl (lv_room (Nat.le_of_ble_eq_true rfl)) dX5_loopBody_21 ⟨Nat.le_trans (Nat.add_le_add_left hle1.1 _) (Nat.le_of_eq hc), Nat.le_trans (Nat.add_le_add_left hle1.2 _) (Nat.le_of_eq hs)⟩) hK hA hzk hP hD hS (by decide) hno hlocks ?_
        rcases h9 with ⟨h00, y1, hny1, hy⟩ | ⟨h00, hy⟩
        · subst hy
          have h := hny1
          refine Or.inl ⟨h00, fun z H locs hz1 hzk hP hD hS => ?_⟩
          replace hc := (Nat.add_assoc _ _ _).trans hc
          replace hs := (Nat.add_assoc _ _ _).trans hs
          refine lv_aload_n hx hb dX5_loopBody_24 rfl (lv_at hl 2 rfl) ?_
          refine lv_bipush (v := 38) hx hb dX5_loopBody_25 (by decide) ?_
          obtain ⟨r2, hc2, hle2, h9⟩ := ox_ex h
          clear h
          refine kx_v (r := y1) (vx_runV (As := [.int 38]) (rest := []) ⟨hx, hb, hml, hown, hts⟩ (c_f_X5_closes l hl0 dC dI cy ek a k (lI lZ 1 38) r1.2.1 r2 hc2 z H.size) (cwV 1 hts g_f_X5_loopBody_X5_closes_V186 rfl rfl rfl hd_f_X5_closes (by show 7 + 1 ≤ 412 + d ∧ 8 + (2 + 11) + 126 ≤ 13455 + 28 * d; omega)) ⟨nb_blindF, va_recv hK hP (ci := 4) (q0 := 40) rfl rfl, (kx_pre hK hG hE hT hA hP hD hS)⟩ rfl rfl hl.1 rfl (lv_room (Nat.le_of_ble_eq_true rfl)) dX5_loopBody_27 ⟨Nat.le_trans (Nat.add_le_add_left hle2.1 _) (Nat.le_of_eq hc), Nat.le_trans (Nat.add_le_add_left hle2.2 _) (Nat.le_of_eq hs)⟩) hK hA hzk hP hD hS (by decide) hno hlocks ?_
          rcases h9 with ⟨h00, y2, hny2, hy⟩ | ⟨h00, hy⟩
          · subst hy
            have h := hny2
            refine Or.inl ⟨h00, fun u H locs hz2 hzk hP hD hS => ?_⟩
            obtain rfl := (zk_nil hz2).symm
            replace hc := (Nat.add_assoc _ _ _).trans hc
            replace hs := (Nat.add_assoc _ _ _).trans hs
            refine lv_aload_n hx hb dX5_loopBody_30 rfl (lv_at hl 2 rfl) ?_
            obtain ⟨b3, hb3, h⟩ := oP_ex h
            refine hgq_40_2 hx hb hts in_f_X5_loopBody_X5 hown hK hP (hts _ (List.mem_cons_of_mem _ (List.mem_append_left _ (List.mem_append_left _ (List.mem_of_getElem? (i := 13) rfl))))) hb3 dX5_loopBody_31 ?_
            refine lv_aload_n hx hb dX5_loopBody_34 rfl (lv_at hl 2 rfl) ?_
            obtain ⟨b4, hb4, h⟩ := oP_ex h
            refine hgq_40_2 hx hb hts in_f_X5_loopBody_X5 hown hK hP (hts _ (List.mem_cons_of_mem _ (List.mem_append_left _ (List.mem_append_left _ (List.mem_of_getElem? (i := 13) rfl))))) hb4 dX5_loopBody_35 ?_
            refine lv_iconst (v := 3) hx hb dX5_loopBody_38 (by decide) ?_
            refine lv_iconst (v := 0) hx hb dX5_loopBody_39 (by decide) ?_
            obtain ⟨r5, hc5, hle5, h9⟩ := ox_ex h
            clear h
            refine kx_i (r := y2) (vx_runV (As := [.int 3, .int 0]) (rest := [.ref (a (pA b3))]) ⟨hx, hb, hml, hown, hts⟩ (c_f_X7_emit__P l hl0 dC dI cy ek a k (lI (lI (lB lZ 0 b4) 1 3) 2 0) r2.2.1 r5 hc5 z H.size) (cwV 2 hts g_f_X5_loopBody_X7_emit__P_V66 rfl rfl rfl hd_f_X7_emit__P (by show 7 + 1 ≤ 412 + d ∧ 8 + (3 + 11) + 121 ≤ 13455 + 28 * d; omega)) ⟨nb_blindF, recvP b4 hK hP, (kx_pre hK hG hE hT hA hP hD hS)⟩ rfl rfl hl.1 rfl (lv_room (Nat.le_of_ble_eq_true rfl)) dX5_loopBody_40 ⟨Nat.le_trans (Nat.add_le_add_left hle5.1 _) (Nat.le_of_eq hc), Nat.le_trans (Nat.add_le_add_left hle5.2 _) (Nat.le_of_eq hs)⟩) hK hA hzk hP hD hS (by decide) hno hlocks ?_
            rcases h9 with ⟨h00, y5, hny5, hy⟩ | ⟨h00, hy⟩
            · subst hy
              have h := hny5
              refine Or.inl ⟨h00, fun z H locs hz5 hzk hP hD hS => ?_⟩
              replace hc := (Nat.add_assoc _ _ _).trans hc
              replace hs := (Nat.add_assoc _ _ _).trans hs
              refine lv_iload_n hx hb dX5_loopBody_43 rfl (lv_at hl 3 rfl) ?_
              obtain ⟨r6, hc6, h⟩ := op_ex h
              refine kc_v (va_runV (As := [.int r5.1.2, .int (L.1 1)]) (rest := []) ⟨hx, hb, hml, hown, hts⟩ (c_y_X7_aim__P l dC dI cy a z k (lI (lI (lB lZ 0 b3) 1 r5.1.2) 2 ((L.1 1))) r5.2.1 r6 hc6 H.size) (cwV 2 hts g_y_X5_loopBody_X7_aim__P_V240 rfl rfl rfl hd_y_X7_aim__P (by show 0 + 1 ≤ 412 + d ∧ 8 + (3 + 11) + 0 ≤ 13455 + 28 * d; omega)) ⟨nb_blind, recvP b3 hK hP, (kb_pre hK hG hP hD)⟩ rfl rfl hl.1 rfl (lv_room (Nat.le_of_ble_eq_true rfl)) dX5_loopBody_44 ⟨(Nat.le_trans (Nat.le_add_right _ _) (Nat.le_of_eq hc)), (Nat.le_trans (Nat.le_add_right _ _) (Nat.le_of_eq hs))⟩) hA hP hD hS (fun H locs hP hD hS => ?_)
              refine lv_aload_n hx hb dX5_loopBody_47 rfl (lv_at hl 2 rfl) ?_
              refine lv_aload_n hx hb dX5_loopBody_48 rfl (lv_at hl 2 rfl) ?_
              refine hg_40_9 hx hb hts in_f_X5_loopBody_X5 hown hK hP (hts _ (List.mem_cons_of_mem _ (List.mem_append_left _ (List.mem_append_left _ (List.mem_of_getElem? (i := 63) rfl))))) dX5_loopBody_49 ?_
              obtain ⟨r7, hc7, h⟩ := op_ex h
              refine kc_v (va_runV (As := [.int (r6.2.1 4009)]) (rest := []) ⟨hx, hb, hml, hown, hts⟩ (c_y_X5_aimAll l dC dI cy a z k (lI lZ 1 ((r6.2.1 4009))) r6.2 r7 hc7 H.size) (cwV 1 hts g_y_X5_loopBody_X5_aimAll_V249 rfl rfl rfl hd_y_X5_aimAll (by show 1 + 1 ≤ 412 + d ∧ 8 + (5 + 11) + 22 ≤ 13455 + 28 * d; omega)) ⟨nb_blind, va_recv hK hP (ci := 4) (q0 := 40) rfl rfl, (kb_pre hK hG hP hD)⟩ rfl rfl hl.1 rfl (lv_room (Nat.le_of_ble_eq_true rfl)) dX5_loopBody_52 ⟨(Nat.le_trans (Nat.le_add_right _ _) (Nat.le_of_eq hc)), (Nat.le_trans (Nat.le_add_right _ _) (Nat.le_of_eq hs))⟩) hA hP hD hS (fun H locs hP hD hS => ?_)
              refine lv_aload_n hx hb dX5_loopBody_55 rfl (lv_at hl 2 rfl) ?_
              refine lv_iload_n hx hb dX5_loopBody_56 rfl (lv_at hl 1 rfl) ?_
              refine hp_40_8 hx hb hts in_f_X5_loopBody_X5 hown hK hP hD hS (hts _ (List.mem_cons_of_mem _ (List.mem_append_left _ (List.mem_append_left _ (List.mem_of_getElem? (i := 62) rfl))))) dX5_loopBody_57 (fun H locs hP hD hS => ?_)
              exact ih.2 z _ _ (lI L 3 ((σ.1 4009))) (uI r7.2 4008 ((σ.1 4008))) _ h hzk hc hs H locs ls hP hD hS (lv_sub hl [2, 0] rfl)
            · subst hy
              exact Or.inr ⟨h00, rfl, hc, hs⟩
          · subst hy
            exact Or.inr ⟨h00, rfl, hc, hs⟩
        · subst hy
          exact Or.inr ⟨h00, rfl, hc, hs⟩
      · intro z cells slots L σ r h hzk hc hs H locs ls hP hD hS hl
        rw [f_F3_3, t_X5_loopBody_1] at h
        refine lv_aload_n hx hb dX5_loopBody_60 rfl (lv_at hl 0 rfl) ?_
        refine lv_iload_n hx hb dX5_loopBody_61 rfl (lv_at hl 1 rfl) ?_
        refine hp_40_9 hx hb hts in_f_X5_loopBody_X5 hown hK hP hD hS (hts _ (List.mem_cons_of_mem _ (List.mem_append_left _ (List.mem_append_left _ (List.mem_of_getElem? (i := 63) rfl))))) dX5_loopBody_62 (fun H locs hP hD hS => ?_)
        obtain rfl := Option.some.inj h
        subst hc
        subst hs
        exact xr_v hx hb hr hK hzk hP hD hS hlocks dX5_loopBody_65
  exact (blk k0 (Nat.le_refl _)).1 z 0 0 L0 σ0 r0 h0 (zk_rf _ _) ((Nat.zero_add _).trans hmc) ((Nat.zero_add _).trans hms) s.heap [] ls hP hD hS hl
theorem gg_f_X5_statement_X2_advance : GoodIn w_f_X5_statement w_f_X2_advance := goodIn_sub (fun w h => (List.mem_cons.mp h).elim (fun e => (List.mem_cons_of_mem _ (List.mem_append_left _ (List.mem_append_right _ (List.mem_append_right _ (List.mem_append_right _ (List.mem_append_right _ (List.mem_append_right _ (List.mem_append_right _ (List.mem_append_left _ (List.mem_cons.mpr (Or.inl e)))))))))))) (fun h => (List.mem_append.mp h).elim (fun h => (List.mem_cons_of_mem _ (List.mem_append_left _ (List.mem_append_right _ (List.mem_append_right _ (List.mem_append_right _ (List.mem_append_right _ (List.mem_append_right _ (List.mem_append_right _ (List.mem_append_left _ (List.mem_cons_of_mem _ h))))))))))) (fun h => List.mem_cons_of_mem _ (List.mem_append_right _ h)))) w_f_X2_advance_good
theorem g_f_X5_statement_X2_advance_V30 : GoodIn w_f_X5_statement (wsV RX5 30 RX2 yX2_advance w_f_X2_advance) := goodIn_app (nb_g4 (List.mem_cons_of_mem _ (List.mem_append_left _ (List.mem_append_left _ (List.mem_of_getElem? (i := 32) rfl)))) (List.mem_cons_of_mem _ (List.mem_append_left _ (List.mem_append_left _ (List.mem_of_getElem? (i := 33) rfl)))) (List.mem_cons_of_mem _ (List.mem_append_left _ (List.mem_append_left _ (List.mem_of_getElem? (i := 34) rfl)))) (List.mem_cons_of_mem _ (List.mem_append_left _ (List.mem_append_left _ (List.mem_of_getElem? (i := 35) rfl)))) (by decide +kernel)) gg_f_X5_statement_X2_advance
theorem gg_f_X5_statement_X5_closes : GoodIn w_f_X5_statement w_f_X5_closes := goodIn_sub (fun w h => (List.mem_cons.mp h).elim (fun e => (List.mem_cons_of_mem _ (List.mem_append_left _ (List.mem_append_right _ (List.mem_append_right _ (List.mem_append_right _ (List.mem_append_right _ (List.mem_append_right _ (List.mem_append_right _ (List.mem_append_right _ (List.mem_append_right _ (List.mem_append_right _ (List.mem_append_right _ (List.mem_append_right _ (List.mem_append_left _ (List.mem_cons.mpr (Or.inl e))))))))))))))))) (fun h => (List.mem_append.mp h).elim (fun h => (List.mem_cons_of_mem _ (List.mem_append_left _ (List.mem_append_right _ (List.mem_append_right _ (List.mem_append_right _ (List.mem_append_right _ (List.mem_append_right _ (List.mem_append_right _ (List.mem_append_right _ (List.mem_append_right _ (List.mem_append_right _ (List.mem_append_right _ (List.mem_append_right _ (List.mem_append_left _ (List.mem_cons_of_mem _ h)))))))))))))))) (fun h => List.mem_cons_of_mem _ (List.mem_append_right _ h)))) w_f_X5_closes_good
theorem g_f_X5_statement_X5_closes_V186 : GoodIn w_f_X5_statement (wsV RX5 186 RX5 yX5_closes w_f_X5_closes) := goodIn_app (nb_g4 (List.mem_cons_of_mem _ (List.mem_append_left _ (List.mem_append_left _ (List.mem_of_getElem? (i := 56) rfl)))) (List.mem_cons_of_mem _ (List.mem_append_left _ (List.mem_append_left _ (List.mem_of_getElem? (i := 57) rfl)))) (List.mem_cons_of_mem _ (List.mem_append_left _ (List.mem_append_left _ (List.mem_of_getElem? (i := 58) rfl)))) (List.mem_cons_of_mem _ (List.mem_append_left _ (List.mem_append_left _ (List.mem_of_getElem? (i := 9) rfl)))) (by decide +kernel)) gg_f_X5_statement_X5_closes
theorem gg_f_X5_statement_X5_expect : GoodIn w_f_X5_statement w_f_X5_expect := goodIn_sub (fun w h => (List.mem_cons.mp h).elim (fun e => (List.mem_cons_of_mem _ (List.mem_append_left _ (List.mem_append_right _ (List.mem_append_right _ (List.mem_append_right _ (List.mem_append_right _ (List.mem_append_right _ (List.mem_append_right _ (List.mem_append_right _ (List.mem_append_right _ (List.mem_append_right _ (List.mem_append_left _ (List.mem_cons.mpr (Or.inl e))))))))))))))) (fun h => (List.mem_append.mp h).elim (fun h => (List.mem_cons_of_mem _ (List.mem_append_left _ (List.mem_append_right _ (List.mem_append_right _ (List.mem_append_right _ (List.mem_append_right _ (List.mem_append_right _ (List.mem_append_right _ (List.mem_append_right _ (List.mem_append_right _ (List.mem_append_right _ (List.mem_append_left _ (List.mem_cons_of_mem _ h)))))))))))))) (fun h => List.mem_cons_of_mem _ (List.mem_append_right _ h)))) w_f_X5_expect_good
theorem g_f_X5_statement_X5_expect_V141 : GoodIn w_f_X5_statement (wsV RX5 141 RX5 yX5_expect w_f_X5_expect) := goodIn_app (nb_g4 (List.mem_cons_of_mem _ (List.mem_append_left _ (List.mem_append_left _ (List.mem_of_getElem? (i := 42) rfl)))) (List.mem_cons_of_mem _ (List.mem_append_left _ (List.mem_append_left _ (List.mem_of_getElem? (i := 43) rfl)))) (List.mem_cons_of_mem _ (List.mem_append_left _ (List.mem_append_left _ (List.mem_of_getElem? (i := 44) rfl)))) (List.mem_cons_of_mem _ (List.mem_append_left _ (List.mem_append_left _ (List.mem_of_getElem? (i := 9) rfl)))) (by decide +kernel)) gg_f_X5_statement_X5_expect
theorem gg_f_X5_statement_X5_exps : GoodIn w_f_X5_statement w_f_X5_exps := goodIn_sub (fun w h => (List.mem_cons.mp h).elim (fun e => (List.mem_cons_of_mem _ (List.mem_append_left _ (List.mem_append_right _ (List.mem_append_right _ (List.mem_append_right _ (List.mem_append_right _ (List.mem_append_right _ (List.mem_append_right _ (List.mem_append_right _ (List.mem_append_right _ (List.mem_append_right _ (List.mem_append_right _ (List.mem_append_right _ (List.mem_append_right _ (List.mem_append_right _ (List.mem_append_right _ (List.mem_append_right _ (List.mem_append_right _ (List.mem_append_left _ (List.mem_cons.mpr (Or.inl e)))))))))))))))))))))) (fun h => (List.mem_append.mp h).elim (fun h => (List.mem_cons_of_mem _ (List.mem_append_left _ (List.mem_append_right _ (List.mem_append_right _ (List.mem_append_right _ (List.mem_append_right _ (List.mem_append_right _ (List.mem_append_right _ (List.mem_append_right _ (List.mem_append_right _ (List.mem_append_right _ (List.mem_append_right _ (List.mem_append_right _ (List.mem_append_right _ (List.mem_append_right _ (List.mem_append_right _ (List.mem_append_right _ (List.mem_append_right _ (List.mem_append_left _ (List.mem_cons_of_mem _ h))))))))))))))))))))) (fun h => List.mem_cons_of_mem _ (List.mem_append_right _ h)))) w_f_X5_exps_good
theorem g_f_X5_statement_X5_exps_V233 : GoodIn w_f_X5_statement (wsV RX5 233 RX5 yX5_exps w_f_X5_exps) := goodIn_app (nb_g4 (List.mem_cons_of_mem _ (List.mem_append_left _ (List.mem_append_left _ (List.mem_of_getElem? (i := 82) rfl)))) (List.mem_cons_of_mem _ (List.mem_append_left _ (List.mem_append_left _ (List.mem_of_getElem? (i := 83) rfl)))) (List.mem_cons_of_mem _ (List.mem_append_left _ (List.mem_append_left _ (List.mem_of_getElem? (i := 84) rfl)))) (List.mem_cons_of_mem _ (List.mem_append_left _ (List.mem_append_left _ (List.mem_of_getElem? (i := 9) rfl)))) (by decide +kernel)) gg_f_X5_statement_X5_exps
theorem gg_f_X5_statement_X5_forStatement : GoodIn w_f_X5_statement w_f_X5_forStatement := goodIn_sub (fun w h => (List.mem_cons.mp h).elim (fun e => e ▸ (List.mem_cons_of_mem _ (List.mem_append_left _ (List.mem_append_left _ (List.mem_of_getElem? (i := 1) rfl))))) (fun h => List.mem_cons_of_mem _ h)) w_f_X5_forStatement_good
theorem g_f_X5_statement_X5_forStatement_V230 : GoodIn w_f_X5_statement (wsV RX5 230 RX5 yX5_forStatement w_f_X5_forStatement) := goodIn_app (nb_g4 (List.mem_cons_of_mem _ (List.mem_append_left _ (List.mem_append_left _ (List.mem_of_getElem? (i := 76) rfl)))) (List.mem_cons_of_mem _ (List.mem_append_left _ (List.mem_append_left _ (List.mem_of_getElem? (i := 77) rfl)))) (List.mem_cons_of_mem _ (List.mem_append_left _ (List.mem_append_left _ (List.mem_of_getElem? (i := 78) rfl)))) (List.mem_cons_of_mem _ (List.mem_append_left _ (List.mem_append_left _ (List.mem_of_getElem? (i := 9) rfl)))) (by decide +kernel)) gg_f_X5_statement_X5_forStatement
theorem gg_f_X5_statement_X5_holesStatement : GoodIn w_f_X5_statement w_f_X5_holesStatement := goodIn_sub (fun w h => (List.mem_cons.mp h).elim (fun e => (List.mem_cons_of_mem _ (List.mem_append_left _ (List.mem_append_right _ (List.mem_append_right _ (List.mem_append_right _ (List.mem_append_right _ (List.mem_append_right _ (List.mem_append_right _ (List.mem_append_right _ (List.mem_append_right _ (List.mem_append_right _ (List.mem_append_right _ (List.mem_append_right _ (List.mem_append_right _ (List.mem_append_right _ (List.mem_append_right _ (List.mem_append_left _ (List.mem_cons.mpr (Or.inl e)))))))))))))))))))) (fun h => (List.mem_append.mp h).elim (fun h => (List.mem_cons_of_mem _ (List.mem_append_left _ (List.mem_append_right _ (List.mem_append_right _ (List.mem_append_right _ (List.mem_append_right _ (List.mem_append_right _ (List.mem_append_right _ (List.mem_append_right _ (List.mem_append_right _ (List.mem_append_right _ (List.mem_append_right _ (List.mem_append_right _ (List.mem_append_right _ (List.mem_append_right _ (List.mem_append_right _ (List.mem_append_left _ (List.mem_cons_of_mem _ h))))))))))))))))))) (fun h => List.mem_cons_of_mem _ (List.mem_append_right _ h)))) w_f_X5_holesStatement_good
theorem g_f_X5_statement_X5_holesStatement_V221 : GoodIn w_f_X5_statement (wsV RX5 221 RX5 yX5_holesStatement w_f_X5_holesStatement) := goodIn_app (nb_g4 (List.mem_cons_of_mem _ (List.mem_append_left _ (List.mem_append_left _ (List.mem_of_getElem? (i := 67) rfl)))) (List.mem_cons_of_mem _ (List.mem_append_left _ (List.mem_append_left _ (List.mem_of_getElem? (i := 68) rfl)))) (List.mem_cons_of_mem _ (List.mem_append_left _ (List.mem_append_left _ (List.mem_of_getElem? (i := 69) rfl)))) (List.mem_cons_of_mem _ (List.mem_append_left _ (List.mem_append_left _ (List.mem_of_getElem? (i := 9) rfl)))) (by decide +kernel)) gg_f_X5_statement_X5_holesStatement
theorem gg_f_X5_statement_X5_ifStatement : GoodIn w_f_X5_statement w_f_X5_ifStatement := goodIn_sub (fun w h => (List.mem_cons.mp h).elim (fun e => e ▸ (List.mem_cons_of_mem _ (List.mem_append_left _ (List.mem_append_left _ (List.mem_of_getElem? (i := 2) rfl))))) (fun h => List.mem_cons_of_mem _ h)) w_f_X5_ifStatement_good
theorem g_f_X5_statement_X5_ifStatement_V224 : GoodIn w_f_X5_statement (wsV RX5 224 RX5 yX5_ifStatement w_f_X5_ifStatement) := goodIn_app (nb_g4 (List.mem_cons_of_mem _ (List.mem_append_left _ (List.mem_append_left _ (List.mem_of_getElem? (i := 70) rfl)))) (List.mem_cons_of_mem _ (List.mem_append_left _ (List.mem_append_left _ (List.mem_of_getElem? (i := 71) rfl)))) (List.mem_cons_of_mem _ (List.mem_append_left _ (List.mem_append_left _ (List.mem_of_getElem? (i := 72) rfl)))) (List.mem_cons_of_mem _ (List.mem_append_left _ (List.mem_append_left _ (List.mem_of_getElem? (i := 9) rfl)))) (by decide +kernel)) gg_f_X5_statement_X5_ifStatement
theorem gg_f_X5_statement_X5_nameStatement : GoodIn w_f_X5_statement w_f_X5_nameStatement := goodIn_sub (fun w h => (List.mem_cons.mp h).elim (fun e => (List.mem_cons_of_mem _ (List.mem_append_left _ (List.mem_append_right _ (List.mem_append_right _ (List.mem_append_right _ (List.mem_append_right _ (List.mem_append_right _ (List.mem_append_right _ (List.mem_append_right _ (List.mem_append_right _ (List.mem_append_right _ (List.mem_append_right _ (List.mem_append_right _ (List.mem_append_right _ (List.mem_append_right _ (List.mem_append_left _ (List.mem_cons.mpr (Or.inl e))))))))))))))))))) (fun h => (List.mem_append.mp h).elim (fun h => (List.mem_cons_of_mem _ (List.mem_append_left _ (List.mem_append_right _ (List.mem_append_right _ (List.mem_append_right _ (List.mem_append_right _ (List.mem_append_right _ (List.mem_append_right _ (List.mem_append_right _ (List.mem_append_right _ (List.mem_append_right _ (List.mem_append_right _ (List.mem_append_right _ (List.mem_append_right _ (List.mem_append_right _ (List.mem_append_left _ (List.mem_cons_of_mem _ h)))))))))))))))))) (fun h => List.mem_cons_of_mem _ (List.mem_append_right _ h)))) w_f_X5_nameStatement_good
theorem g_f_X5_statement_X5_nameStatement_V218 : GoodIn w_f_X5_statement (wsV RX5 218 RX5 yX5_nameStatement w_f_X5_nameStatement) := goodIn_app (nb_g4 (List.mem_cons_of_mem _ (List.mem_append_left _ (List.mem_append_left _ (List.mem_of_getElem? (i := 64) rfl)))) (List.mem_cons_of_mem _ (List.mem_append_left _ (List.mem_append_left _ (List.mem_of_getElem? (i := 65) rfl)))) (List.mem_cons_of_mem _ (List.mem_append_left _ (List.mem_append_left _ (List.mem_of_getElem? (i := 66) rfl)))) (List.mem_cons_of_mem _ (List.mem_append_left _ (List.mem_append_left _ (List.mem_of_getElem? (i := 9) rfl)))) (by decide +kernel)) gg_f_X5_statement_X5_nameStatement
theorem gg_f_X5_statement_X5_opens : GoodIn w_f_X5_statement w_f_X5_opens := goodIn_sub (fun w h => (List.mem_cons.mp h).elim (fun e => (List.mem_cons_of_mem _ (List.mem_append_left _ (List.mem_append_right _ (List.mem_append_right _ (List.mem_append_right _ (List.mem_append_right _ (List.mem_append_left _ (List.mem_cons.mpr (Or.inl e)))))))))) (fun h => (List.mem_append.mp h).elim (fun h => (List.mem_cons_of_mem _ (List.mem_append_left _ (List.mem_append_right _ (List.mem_append_right _ (List.mem_append_right _ (List.mem_append_right _ (List.mem_append_left _ (List.mem_cons_of_mem _ h))))))))) (fun h => List.mem_cons_of_mem _ (List.mem_append_right _ h)))) w_f_X5_opens_good
theorem g_f_X5_statement_X5_opens_V173 : GoodIn w_f_X5_statement (wsV RX5 173 RX5 yX5_opens w_f_X5_opens) := goodIn_app (nb_g4 (List.mem_cons_of_mem _ (List.mem_append_left _ (List.mem_append_left _ (List.mem_of_getElem? (i := 24) rfl)))) (List.mem_cons_of_mem _ (List.mem_append_left _ (List.mem_append_left _ (List.mem_of_getElem? (i := 25) rfl)))) (List.mem_cons_of_mem _ (List.mem_append_left _ (List.mem_append_left _ (List.mem_of_getElem? (i := 26) rfl)))) (List.mem_cons_of_mem _ (List.mem_append_left _ (List.mem_append_left _ (List.mem_of_getElem? (i := 9) rfl)))) (by decide +kernel)) gg_f_X5_statement_X5_opens
theorem gg_f_X5_statement_X5_plainStatement : GoodIn w_f_X5_statement w_f_X5_plainStatement := goodIn_sub (fun w h => (List.mem_cons.mp h).elim (fun e => (List.mem_cons_of_mem _ (List.mem_append_left _ (List.mem_append_right _ (List.mem_append_right _ (List.mem_append_right _ (List.mem_append_right _ (List.mem_append_right _ (List.mem_append_right _ (List.mem_append_right _ (List.mem_append_right _ (List.mem_append_right _ (List.mem_append_right _ (List.mem_append_right _ (List.mem_append_right _ (List.mem_append_right _ (List.mem_append_right _ (List.mem_append_right _ (List.mem_append_right _ (List.mem_append_right _ (List.mem_append_left _ (List.mem_cons.mpr (Or.inl e))))))))))))))))))))))) (fun h => (List.mem_append.mp h).elim (fun h => (List.mem_cons_of_mem _ (List.mem_append_left _ (List.mem_append_right _ (List.mem_append_right _ (List.mem_append_right _ (List.mem_append_right _ (List.mem_append_right _ (List.mem_append_right _ (List.mem_append_right _ (List.mem_append_right _ (List.mem_append_right _ (List.mem_append_right _ (List.mem_append_right _ (List.mem_append_right _ (List.mem_append_right _ (List.mem_append_right _ (List.mem_append_right _ (List.mem_append_right _ (List.mem_append_right _ (List.mem_append_left _ (List.mem_cons_of_mem _ h)))))))))))))))))))))) (fun h => List.mem_cons_of_mem _ (List.mem_append_right _ h)))) w_f_X5_plainStatement_good
theorem g_f_X5_statement_X5_plainStatement_V237 : GoodIn w_f_X5_statement (wsV RX5 237 RX5 yX5_plainStatement w_f_X5_plainStatement) := goodIn_app (nb_g4 (List.mem_cons_of_mem _ (List.mem_append_left _ (List.mem_append_left _ (List.mem_of_getElem? (i := 85) rfl)))) (List.mem_cons_of_mem _ (List.mem_append_left _ (List.mem_append_left _ (List.mem_of_getElem? (i := 86) rfl)))) (List.mem_cons_of_mem _ (List.mem_append_left _ (List.mem_append_left _ (List.mem_of_getElem? (i := 87) rfl)))) (List.mem_cons_of_mem _ (List.mem_append_left _ (List.mem_append_left _ (List.mem_of_getElem? (i := 9) rfl)))) (by decide +kernel)) gg_f_X5_statement_X5_plainStatement
theorem gg_f_X5_statement_X5_want : GoodIn w_f_X5_statement w_f_X5_want := goodIn_sub (fun w h => (List.mem_cons.mp h).elim (fun e => (List.mem_cons_of_mem _ (List.mem_append_left _ (List.mem_append_right _ (List.mem_append_right _ (List.mem_append_right _ (List.mem_append_right _ (List.mem_append_right _ (List.mem_append_right _ (List.mem_append_right _ (List.mem_append_right _ (List.mem_append_right _ (List.mem_append_right _ (List.mem_append_right _ (List.mem_append_right _ (List.mem_append_right _ (List.mem_append_right _ (List.mem_append_right _ (List.mem_append_left _ (List.mem_cons.mpr (Or.inl e))))))))))))))))))))) (fun h => (List.mem_append.mp h).elim (fun h => (List.mem_cons_of_mem _ (List.mem_append_left _ (List.mem_append_right _ (List.mem_append_right _ (List.mem_append_right _ (List.mem_append_right _ (List.mem_append_right _ (List.mem_append_right _ (List.mem_append_right _ (List.mem_append_right _ (List.mem_append_right _ (List.mem_append_right _ (List.mem_append_right _ (List.mem_append_right _ (List.mem_append_right _ (List.mem_append_right _ (List.mem_append_right _ (List.mem_append_left _ (List.mem_cons_of_mem _ h)))))))))))))))))))) (fun h => List.mem_cons_of_mem _ (List.mem_append_right _ h)))) w_f_X5_want_good
theorem g_f_X5_statement_X5_want_V61 : GoodIn w_f_X5_statement (wsV RX5 61 RX5 yX5_want w_f_X5_want) := goodIn_app (nb_g4 (List.mem_cons_of_mem _ (List.mem_append_left _ (List.mem_append_left _ (List.mem_of_getElem? (i := 79) rfl)))) (List.mem_cons_of_mem _ (List.mem_append_left _ (List.mem_append_left _ (List.mem_of_getElem? (i := 80) rfl)))) (List.mem_cons_of_mem _ (List.mem_append_left _ (List.mem_append_left _ (List.mem_of_getElem? (i := 81) rfl)))) (List.mem_cons_of_mem _ (List.mem_append_left _ (List.mem_append_left _ (List.mem_of_getElem? (i := 9) rfl)))) (by decide +kernel)) gg_f_X5_statement_X5_want
theorem gg_f_X5_statement_X5_whileStatement : GoodIn w_f_X5_statement w_f_X5_whileStatement := goodIn_sub (fun w h => (List.mem_cons.mp h).elim (fun e => e ▸ (List.mem_cons_of_mem _ (List.mem_append_left _ (List.mem_append_left _ (List.mem_of_getElem? (i := 5) rfl))))) (fun h => List.mem_cons_of_mem _ h)) w_f_X5_whileStatement_good
theorem g_f_X5_statement_X5_whileStatement_V227 : GoodIn w_f_X5_statement (wsV RX5 227 RX5 yX5_whileStatement w_f_X5_whileStatement) := goodIn_app (nb_g4 (List.mem_cons_of_mem _ (List.mem_append_left _ (List.mem_append_left _ (List.mem_of_getElem? (i := 73) rfl)))) (List.mem_cons_of_mem _ (List.mem_append_left _ (List.mem_append_left _ (List.mem_of_getElem? (i := 74) rfl)))) (List.mem_cons_of_mem _ (List.mem_append_left _ (List.mem_append_left _ (List.mem_of_getElem? (i := 75) rfl)))) (List.mem_cons_of_mem _ (List.mem_append_left _ (List.mem_append_left _ (List.mem_of_getElem? (i := 9) rfl)))) (by decide +kernel)) gg_f_X5_statement_X5_whileStatement
theorem gg_f_X5_statement_X7_emit__P : GoodIn w_f_X5_statement w_f_X7_emit__P := goodIn_sub (fun w h => (List.mem_cons.mp h).elim (fun e => (List.mem_cons_of_mem _ (List.mem_append_left _ (List.mem_append_right _ (List.mem_append_right _ (List.mem_append_right _ (List.mem_append_left _ (List.mem_cons.mpr (Or.inl e))))))))) (fun h => (List.mem_append.mp h).elim (fun h => (List.mem_cons_of_mem _ (List.mem_append_left _ (List.mem_append_right _ (List.mem_append_right _ (List.mem_append_right _ (List.mem_append_left _ (List.mem_cons_of_mem _ h)))))))) (fun h => List.mem_cons_of_mem _ (List.mem_append_right _ h)))) w_f_X7_emit__P_good
theorem g_f_X5_statement_X7_emit__P_V66 : GoodIn w_f_X5_statement (wsV RX5 66 RX7 yX7_emit w_f_X7_emit__P) := goodIn_app (nb_g4 (List.mem_cons_of_mem _ (List.mem_append_left _ (List.mem_append_left _ (List.mem_of_getElem? (i := 15) rfl)))) (List.mem_cons_of_mem _ (List.mem_append_left _ (List.mem_append_left _ (List.mem_of_getElem? (i := 16) rfl)))) (List.mem_cons_of_mem _ (List.mem_append_left _ (List.mem_append_left _ (List.mem_of_getElem? (i := 17) rfl)))) (List.mem_cons_of_mem _ (List.mem_append_left _ (List.mem_append_left _ (List.mem_of_getElem? (i := 18) rfl)))) (by decide +kernel)) gg_f_X5_statement_X7_emit__P
set_option maxHeartbeats 40000000 in
set_option maxRecDepth 100000 in
theorem c_t_X5_statement (l : Launch) (hl0 : l.stackTraces = false) (dC : Nat → ClassId) (dI : Nat → Nat → Nat) (cy : Nat → ClassId) (ek a : Nat → Nat) (k0 : Nat) (IH : ∀ j : Nat, j < k0 → P_F3 l dC dI cy ek a j) (d : Nat) (L0 : LV) (σ0 : CS) (r0 : RS) (h0 : f_F3 k0 d 4 0 L0 σ0 = some r0) (z : Nat → Nat) (sz : Nat) : vx_Met l yX5_statement w_f_X5_statement ({ frames := 412 + d, cells := r0.2.2.1, slots := r0.2.2.2, locals := 13455 + 28 * d }) (va_Pc [.ref (a 40), .int (L0.1 1)] (nInF (dC, dI) cy ek sz (vC cy a z σ0))) (xV dC dI cy a (va_A (vC cy a z σ0) sz) [41, 42, 43, 51] z r0) (xX dC dI cy a (va_A (vC cy a z σ0) sz) [41, 42, 43, 51] z r0) r0.2.2.1 r0.2.2.2 (va_A (vC cy a z σ0) sz) := by
  refine vx_ofW (cc := cX5_statement) (maxL := 2) (ret := none) (by decide) rfl ?_
  intro p e s m args below meth c s₁ B hml hno hv
  obtain ⟨rfl, ⟨⟨hsz, hP, hK, hD0, hG⟩, hE⟩, hT⟩ := hv
  have hx := B.exec
  have hb := B.bytes
  have hr := B.returns
  have hts := atoms_spec (ws := w_f_X5_statement) B.pre
  have hown : s.vm.findClass RX5 = some m.cls := findClass_of_methodNamed B.named
  have hlocks := B.notSynchronized
  subst hsz
  have hD := hD0.self (sz := s.heap.size)
  generalize hAe : va_A (vC cy a z σ0) s.heap.size = A at hD hE hT ⊢
  have hA : ∀ q : Nat, s.heap.size ≤ q → A q := fun q h => by rw [← hAe]; exact Or.inr h
  have hS : va_S A s.heap s.heap [] := va_S.rf
  have hl := lv_entry ([.ref (a 40), .int (L0.1 1)]) (n := 2) (Nat.le_of_ble_eq_true rfl)
  rw [lg_entry_eq]
  generalize (lg_sl ([.ref (a 40), .int (L0.1 1)]) ++ List.replicate (2 - (lg_sl ([.ref (a 40), .int (L0.1 1)])).length) Slot.unset).toArray = ls at hl ⊢
  have hl : lv_has ls 2 [(0, .ref (a 40)), (1, .int (L0.1 1))] := hl
  generalize hmc : r0.2.2.1 = mc
  generalize hms : r0.2.2.2 = ms
  have blk : ∀ k : Nat, k ≤ k0 → (bX p l e (headSpec w_f_X5_statement ({ frames := 412 + d, cells := mc, slots := ms, locals := 13455 + 28 * d })).room s m #[.ref (a 40), .int (L0.1 1)] below meth c dC dI cy a A (fun r => vx_MQ below (xV dC dI cy a A [41, 42, 43, 51] z r) (xX dC dI cy a A [41, 42, 43, 51] z r) #[.ref (a 40), .int (L0.1 1)] s mc ms A) [41, 42, 43, 51] z mc ms 2 (f_F3 k d 4 0) (fun z L => [(0, .ref (a 40)), (1, .int (L.1 1))]) 0 (fun z L => [])) ∧ (bX p l e (headSpec w_f_X5_statement ({ frames := 412 + d, cells := mc, slots := ms, locals := 13455 + 28 * d })).room s m #[.ref (a 40), .int (L0.1 1)] below meth c dC dI cy a A (fun r => vx_MQ below (xV dC dI cy a A [41, 42, 43, 51] z r) (xX dC dI cy a A [41, 42, 43, 51] z r) #[.ref (a 40), .int (L0.1 1)] s mc ms A) [41, 42, 43, 51] z mc ms 2 (f_F3 k d 4 1) (fun z L => [(0, .ref (a 40))]) 64 (fun z L => [])) ∧ (bX p l e (headSpec w_f_X5_statement ({ frames := 412 + d, cells := mc, slots := ms, locals := 13455 + 28 * d })).room s m #[.ref (a 40), .int (L0.1 1)] below meth c dC dI cy a A (fun r => vx_MQ below (xV dC dI cy a A [41, 42, 43, 51] z r) (xX dC dI cy a A [41, 42, 43, 51] z r) #[.ref (a 40), .int (L0.1 1)] s mc ms A) [41, 42, 43, 51] z mc ms 2 (f_F3 k d 4 2) (fun z L => [(0, .ref (a 40))]) 71 (fun z L => [])) ∧ (bX p l e (headSpec w_f_X5_statement ({ frames := 412 + d, cells := mc, slots := ms, locals := 13455 + 28 * d })).room s m #[.ref (a 40), .int (L0.1 1)] below meth c dC dI cy a A (fun r => vx_MQ below (xV dC dI cy a A [41, 42, 43, 51] z r) (xX dC dI cy a A [41, 42, 43, 51] z r) #[.ref (a 40), .int (L0.1 1)] s mc ms A) [41, 42, 43, 51] z mc ms 2 (f_F3 k d 4 3) (fun z L => [(0, .ref (a 40))]) 78 (fun z L => [])) ∧ (bX p l e (headSpec w_f_X5_statement ({ frames := 412 + d, cells := mc, slots := ms, locals := 13455 + 28 * d })).room s m #[.ref (a 40), .int (L0.1 1)] below meth c dC dI cy a A (fun r => vx_MQ below (xV dC dI cy a A [41, 42, 43, 51] z r) (xX dC dI cy a A [41, 42, 43, 51] z r) #[.ref (a 40), .int (L0.1 1)] s mc ms A) [41, 42, 43, 51] z mc ms 2 (f_F3 k d 4 4) (fun z L => [(0, .ref (a 40)), (1, .int (L.1 1))]) 85 (fun z L => [])) ∧ (bX p l e (headSpec w_f_X5_statement ({ frames := 412 + d, cells := mc, slots := ms, locals := 13455 + 28 * d })).room s m #[.ref (a 40), .int (L0.1 1)] below meth c dC dI cy a A (fun r => vx_MQ below (xV dC dI cy a A [41, 42, 43, 51] z r) (xX dC dI cy a A [41, 42, 43, 51] z r) #[.ref (a 40), .int (L0.1 1)] s mc ms A) [41, 42, 43, 51] z mc ms 2 (f_F3 k d 4 5) (fun z L => [(0, .ref (a 40))]) 93 (fun z L => [])) ∧ (bX p l e (headSpec w_f_X5_statement ({ frames := 412 + d, cells := mc, slots := ms, locals := 13455 + 28 * d })).room s m #[.ref (a 40), .int (L0.1 1)] below meth c dC dI cy a A (fun r => vx_MQ below (xV dC dI cy a A [41, 42, 43, 51] z r) (xX dC dI cy a A [41, 42, 43, 51] z r) #[.ref (a 40), .int (L0.1 1)] s mc ms A) [41, 42, 43, 51] z mc ms 2 (f_F3 k d 4 6) (fun z L => [(0, .ref (a 40))]) 100 (fun z L => [])) ∧ (bX p l e (headSpec w_f_X5_statement ({ frames := 412 + d, cells := mc, slots := ms, locals := 13455 + 28 * d })).room s m #[.ref (a 40), .int (L0.1 1)] below meth c dC dI cy a A (fun r => vx_MQ below (xV dC dI cy a A [41, 42, 43, 51] z r) (xX dC dI cy a A [41, 42, 43, 51] z r) #[.ref (a 40), .int (L0.1 1)] s mc ms A) [41, 42, 43, 51] z mc ms 2 (f_F3 k d 4 7) (fun z L => [(0, .ref (a 40))]) 141 (fun z L => [])) ∧ (bX p l e (headSpec w_f_X5_statement ({ frames := 412 + d, cells := mc, slots := ms, locals := 13455 + 28 * d })).room s m #[.ref (a 40), .int (L0.1 1)] below meth c dC dI cy a A (fun r => vx_MQ below (xV dC dI cy a A [41, 42, 43, 51] z r) (xX dC dI cy a A [41, 42, 43, 51] z r) #[.ref (a 40), .int (L0.1 1)] s mc ms A) [41, 42, 43, 51] z mc ms 2 (f_F3 k d 4 8) (fun z L => [(0, .ref (a 40))]) 145 (fun z L => [])) := by
    intro k
    induction k with
    | zero => exact fun _ => ⟨fun z c1 c2 L σ r h => (by cases h), fun z c1 c2 L σ r h => (by cases h), fun z c1 c2 L σ r h => (by cases h), fun z c1 c2 L σ r h => (by cases h), fun z c1 c2 L σ r h => (by cases h), fun z c1 c2 L σ r h => (by cases h), fun z c1 c2 L σ r h => (by cases h), fun z c1 c2 L σ r h => (by cases h), fun z c1 c2 L σ r h => (by cases h)⟩
    | succ k ih =>
      intro hk
      replace ih := ih (by omega)
      refine ⟨?_, ?_, ?_, ?_, ?_, ?_, ?_, ?_, ?_⟩
      · intro z cells slots L σ r h hzk hc hs H locs ls hP hD hS hl
        rw [f_F3_4, t_X5_statement_0] at h
        refine lv_aload_n hx hb dX5_statement_0 rfl (lv_at hl 0 rfl) ?_
        refine hg_40_0 hx hb hts in_f_X5_statement_X5 hown hK hP (hts _ (List.mem_cons_of_mem _ (List.mem_append_left _ (List.mem_append_left _ (List.mem_of_getElem? (i := 14) rfl))))) dX5_statement_1 ?_
        refine hg_37_2n hx hb hts in_f_X5_statement_X2 hown hK hP (va_Nw.use rfl (hG.1 _ (List.mem_of_getElem? (i := 52) rfl))) dX5_statement_4 ?_
        by_cases q1 : ((σ.1 3702)) = (2 : Int32)
        · rw [if_pos q1] at h
          refine lv_lookup (off := 57) (tgt := 64) hx hb dX5_statement_7 (by decide) (by rw [q1]; decide) (by decide) ?_
          exact ih.2.1 z _ _ L σ _ h hzk hc hs H locs ls hP hD hS (lv_sub hl [0] rfl)
        · rw [if_neg q1] at h
          by_cases q2 : ((σ.1 3702)) = (14 : Int32)
          · rw [if_pos q2] at h
            refine lv_lookup (off := 64) (tgt := 71) hx hb dX5_statement_7 (by decide) (by rw [q2]; decide) (by decide) ?_
            exact ih.2.2.1 z _ _ L σ _ h hzk hc hs H locs ls hP hD hS (lv_sub hl [0] rfl)
          · rw [if_neg q2] at h
            by_cases q3 : ((σ.1 3702)) = (39 : Int32)
            · rw [if_pos q3] at h
              refine lv_lookup (off := 71) (tgt := 78) hx hb dX5_statement_7 (by decide) (by rw [q3]; decide) (by decide) ?_
              exact ih.2.2.2.1 z _ _ L σ _ h hzk hc hs H locs ls hP hD hS (lv_sub hl [0] rfl)
            · rw [if_neg q3] at h
              by_cases q4 : ((σ.1 3702)) = (43 : Int32)
              · rw [if_pos q4] at h
                refine lv_lookup (off := 78) (tgt := 85) hx hb dX5_statement_7 (by decide) (by rw [q4]; decide) (by decide) ?_
                exact ih.2.2.2.2.1 z _ _ L σ _ h hzk hc hs H locs ls hP hD hS (lv_sub hl [0, 1] rfl)
              · rw [if_neg q4] at h
                by_cases q5 : ((σ.1 3702)) = (45 : Int32)
                · rw [if_pos q5] at h
                  refine lv_lookup (off := 86) (tgt := 93) hx hb dX5_statement_7 (by decide) (by rw [q5]; decide) (by decide) ?_
                  exact ih.2.2.2.2.2.1 z _ _ L σ _ h hzk hc hs H locs ls hP hD hS (lv_sub hl [0] rfl)
                · rw [if_neg q5] at h
                  by_cases q6 : ((σ.1 3702)) = (52 : Int32)
                  · rw [if_pos q6] at h
                    refine lv_lookup (off := 93) (tgt := 100) hx hb dX5_statement_7 (by decide) (by rw [q6]; decide) (by decide) ?_
                    exact ih.2.2.2.2.2.2.1 z _ _ L σ _ h hzk hc hs H locs ls hP hD hS (lv_sub hl [0] rfl)
                  · rw [if_neg q6] at h
                    have nq1 : ¬ ((σ.1 3702)).toInt = 2 := nb_ti q1 rfl
                    have nq2 : ¬ ((σ.1 3702)).toInt = 14 := nb_ti q2 rfl
                    have nq3 : ¬ ((σ.1 3702)).toInt = 39 := nb_ti q3 rfl
                    have nq4 : ¬ ((σ.1 3702)).toInt = 43 := nb_ti q4 rfl
                    have nq5 : ¬ ((σ.1 3702)).toInt = 45 := nb_ti q5 rfl
                    have nq6 : ¬ ((σ.1 3702)).toInt = 52 := nb_ti q6 rfl
                    refine lv_lookup (off := 134) (tgt := 141) hx hb dX5_statement_7 (by decide) (nb_lk (by simp only [List.forall_mem_cons]; exact ⟨nq1, nq2, nq3, nq4, nq5, nq6, fun _ h => absurd h List.not_mem_nil⟩)) (by decide) ?_
                    exact ih.2.2.2.2.2.2.2.1 z _ _ L σ _ h hzk hc hs H locs ls hP hD hS (lv_sub hl [0] rfl)
      · intro z cells slots L σ r h hzk hc hs H locs ls hP hD hS hl
        rw [f_F3_4, t_X5_statement_1] at h
        refine lv_aload_n hx hb dX5_statement_64 rfl (lv_at hl 0 rfl) ?_
        obtain ⟨r1, hc1, hle1, h9⟩ := ox_ex h
        clear h
        refine kx_v (vx_runV (As := []) (rest := []) ⟨hx, hb, hml, hown, hts⟩ (c_f_X5_nameStatement l hl0 dC dI cy ek a k lZ σ r1 hc1 z H.size) (cwV 0 hts g_f_X5_statement_X5_nameStatement_V218 rfl rfl rfl hd_f_X5_nameStatement (by show 411 + 1 ≤ 412 + d ∧ 8 + (7 + 11) + 13429 ≤ 13455 + 28 * d; omega)) ⟨nb_blindF, va_recv hK hP (ci := 4) (q0 := 40) rfl rfl, (kx_pre hK hG hE hT hA hP hD hS)⟩ rfl rfl hl.1 rfl (lv_room (Nat.le_of_ble_eq_true rfl)) dX5_statement_65 ⟨Nat.le_trans (Nat.add_le_add_left hle1.1 _) (Nat.le_of_eq hc), Nat.le_trans (Nat.add_le_add_left hle1.2 _) (Nat.le_of_eq hs)⟩) hK hA hzk hP hD hS (by decide) hno hlocks ?_
        rcases h9 with ⟨h00, y1, hny1, hy⟩ | ⟨h00, hy⟩
        · subst hy
          have h := hny1
          refine Or.inl ⟨h00, fun z H locs hz1 hzk hP hD hS => ?_⟩
          replace hc := (Nat.add_assoc _ _ _).trans hc
          replace hs := (Nat.add_assoc _ _ _).trans hs
          refine lv_goto (tgt := 145) hx hb dX5_statement_68 (by decide) ?_
          exact ih.2.2.2.2.2.2.2.2 z _ _ L r1.2.1 _ h hzk hc hs H locs ls hP hD hS (lv_sub hl [0] rfl)
        · subst hy
          exact Or.inr ⟨h00, rfl, hc, hs⟩
      · intro z cells slots L σ r h hzk hc hs H locs ls hP hD hS hl
        rw [f_F3_4, t_X5_statement_2] at h
        refine lv_aload_n hx hb dX5_statement_71 rfl (lv_at hl 0 rfl) ?_
        obtain ⟨r1, hc1, hle1, h9⟩ := ox_ex h
        clear h
        refine kx_v (vx_runV (As := []) (rest := []) ⟨hx, hb, hml, hown, hts⟩ (c_f_X5_holesStatement l hl0 dC dI cy ek a k lZ σ r1 hc1 z H.size) (cwV 0 hts g_f_X5_statement_X5_holesStatement_V221 rfl rfl rfl hd_f_X5_holesStatement (by show 411 + 1 ≤ 412 + d ∧ 8 + (7 + 11) + 13419 ≤ 13455 + 28 * d; omega)) ⟨nb_blindF, va_recv hK hP (ci := 4) (q0 := 40) rfl rfl, (kx_pre hK hG hE hT hA hP hD hS)⟩ rfl rfl hl.1 rfl (lv_room (Nat.le_of_ble_eq_true rfl)) dX5_statement_72 ⟨Nat.le_trans (Nat.add_le_add_left hle1.1 _) (Nat.le_of_eq hc), Nat.le_trans (Nat.add_le_add_left hle1.2 _) (Nat.le_of_eq hs)⟩) hK hA hzk hP hD hS (by decide) hno hlocks ?_
        rcases h9 with ⟨h00, y1, hny1, hy⟩ | ⟨h00, hy⟩
        · subst hy
          have h := hny1
          refine Or.inl ⟨h00, fun z H locs hz1 hzk hP hD hS => ?_⟩
          replace hc := (Nat.add_assoc _ _ _).trans hc
          replace hs := (Nat.add_assoc _ _ _).trans hs
          refine lv_goto (tgt := 145) hx hb dX5_statement_75 (by decide) ?_
          exact ih.2.2.2.2.2.2.2.2 z _ _ L r1.2.1 _ h hzk hc hs H locs ls hP hD hS (lv_sub hl [0] rfl)
        · subst hy
          exact Or.inr ⟨h00, rfl, hc, hs⟩
      · intro z cells slots L σ r h hzk hc hs H locs ls hP hD hS hl
        rw [f_F3_4, t_X5_statement_3] at h
        refine lv_aload_n hx hb dX5_statement_78 rfl (lv_at hl 0 rfl) ?_
        obtain ⟨e1, he1, h⟩ := of_ex h
        obtain ⟨r1, hc1, hle1, h9⟩ := ox_ex h
        clear h
        refine kx_v (vx_runV (As := []) (rest := []) ⟨hx, hb, hml, hown, hts⟩ ((IH k (by omega)).2.2.1 e1 lZ σ r1 hc1 z H.size) (cwV 0 hts g_f_X5_statement_X5_ifStatement_V224 rfl rfl rfl hd_f_X5_ifStatement (by show (412 + e1) + 1 ≤ 412 + d ∧ 8 + (4 + 11) + (13455 + 28 * e1) ≤ 13455 + 28 * d; omega)) ⟨nb_blindF, va_recv hK hP (ci := 4) (q0 := 40) rfl rfl, (kx_pre hK hG hE hT hA hP hD hS)⟩ rfl rfl hl.1 rfl (lv_room (Nat.le_of_ble_eq_true rfl)) dX5_statement_79 ⟨Nat.le_trans (Nat.add_le_add_left hle1.1 _) (Nat.le_of_eq hc), Nat.le_trans (Nat.add_le_add_left hle1.2 _) (Nat.le_of_eq hs)⟩) hK hA hzk hP hD hS (by decide) hno hlocks ?_
        rcases h9 with ⟨h00, y1, hny1, hy⟩ | ⟨h00, hy⟩
        · subst hy
          have h := hny1
          refine Or.inl ⟨h00, fun z H locs hz1 hzk hP hD hS => ?_⟩
          replace hc := (Nat.add_assoc _ _ _).trans hc
          replace hs := (Nat.add_assoc _ _ _).trans hs
          refine lv_goto (tgt := 145) hx hb dX5_statement_82 (by decide) ?_
          exact ih.2.2.2.2.2.2.2.2 z _ _ L r1.2.1 _ h hzk hc hs H locs ls hP hD hS (lv_sub hl [0] rfl)
        · subst hy
          exact Or.inr ⟨h00, rfl, hc, hs⟩
      · intro z cells slots L σ r h hzk hc hs H locs ls hP hD hS hl
        rw [f_F3_4, t_X5_statement_4] at h
        refine lv_aload_n hx hb dX5_statement_85 rfl (lv_at hl 0 rfl) ?_
        refine lv_iload_n hx hb dX5_statement_86 rfl (lv_at hl 1 rfl) ?_
        obtain ⟨e1, he1, h⟩ := of_ex h
        obtain ⟨r1, hc1, hle1, h9⟩ := ox_ex h
        clear h
        refine kx_v (vx_runV (As := [.int (L.1 1)]) (rest := []) ⟨hx, hb, hml, hown, hts⟩ ((IH k (by omega)).2.2.2.2.2 e1 (lI lZ 1 ((L.1 1))) σ r1 hc1 z H.size) (cwV 1 hts g_f_X5_statement_X5_whileStatement_V227 rfl rfl rfl hd_f_X5_whileStatement (by show (412 + e1) + 1 ≤ 412 + d ∧ 8 + (3 + 11) + (13455 + 28 * e1) ≤ 13455 + 28 * d; omega)) ⟨nb_blindF, va_recv hK hP (ci := 4) (q0 := 40) rfl rfl, (kx_pre hK hG hE hT hA hP hD hS)⟩ rfl rfl hl.1 rfl (lv_room (Nat.le_of_ble_eq_true rfl)) dX5_statement_87 ⟨Nat.le_trans (Nat.add_le_add_left hle1.1 _) (Nat.le_of_eq hc), Nat.le_trans (Nat.add_le_add_left hle1.2 _) (Nat.le_of_eq hs)⟩) hK hA hzk hP hD hS (by decide) hno hlocks ?_
        rcases h9 with ⟨h00, y1, hny1, hy⟩ | ⟨h00, hy⟩
        · subst hy
          have h := hny1
          refine Or.inl ⟨h00, fun z H locs hz1 hzk hP hD hS => ?_⟩
          replace hc := (Nat.add_assoc _ _ _).trans hc
          replace hs := (Nat.add_assoc _ _ _).trans hs
          refine lv_goto (tgt := 145) hx hb dX5_statement_90 (by decide) ?_
          exact ih.2.2.2.2.2.2.2.2 z _ _ L r1.2.1 _ h hzk hc hs H locs ls hP hD hS (lv_sub hl [0] rfl)
        · subst hy
          exact Or.inr ⟨h00, rfl, hc, hs⟩
      · intro z cells slots L σ r h hzk hc hs H locs ls hP hD hS hl
        rw [f_F3_4, t_X5_statement_5] at h
        refine lv_aload_n hx hb dX5_statement_93 rfl (lv_at hl 0 rfl) ?_
        obtain ⟨e1, he1, h⟩ := of_ex h
        obtain ⟨r1, hc1, hle1, h9⟩ := ox_ex h
        clear h
        refine kx_v (vx_runV (As := []) (rest := []) ⟨hx, hb, hml, hown, hts⟩ ((IH k (by omega)).2.1 e1 lZ σ r1 hc1 z H.size) (cwV 0 hts g_f_X5_statement_X5_forStatement_V230 rfl rfl rfl hd_f_X5_forStatement (by show (412 + e1) + 1 ≤ 412 + d ∧ 8 + (9 + 11) + (13455 + 28 * e1) ≤ 13455 + 28 * d; omega)) ⟨nb_blindF, va_recv hK hP (ci := 4) (q0 := 40) rfl rfl, (kx_pre hK hG hE hT hA hP hD hS)⟩ rfl rfl hl.1 rfl (lv_room (Nat.le_of_ble_eq_true rfl)) dX5_statement_94 ⟨Nat.le_trans (Nat.add_le_add_left hle1.1 _) (Nat.le_of_eq hc), Nat.le_trans (Nat.add_le_add_left hle1.2 _) (Nat.le_of_eq hs)⟩) hK hA hzk hP hD hS (by decide) hno hlocks ?_
        rcases h9 with ⟨h00, y1, hny1, hy⟩ | ⟨h00, hy⟩
        · subst hy
          have h := hny1
          refine Or.inl ⟨h00, fun z H locs hz1 hzk hP hD hS => ?_⟩
          replace hc := (Nat.add_assoc _ _ _).trans hc
          replace hs := (Nat.add_assoc _ _ _).trans hs
          refine lv_goto (tgt := 145) hx hb dX5_statement_97 (by decide) ?_
          exact ih.2.2.2.2.2.2.2.2 z _ _ L r1.2.1 _ h hzk hc hs H locs ls hP hD hS (lv_sub hl [0] rfl)
        · subst hy
          exact Or.inr ⟨h00, rfl, hc, hs⟩
      · intro z cells slots L σ r h hzk hc hs H locs ls hP hD hS hl
        rw [f_F3_4, t_X5_statement_6] at h
        refine lv_aload_n hx hb dX5_statement_100 rfl (lv_at hl 0 rfl) ?_
        refine hg_40_0 hx hb hts in_f_X5_statement_X5 hown hK hP (hts _ (List.mem_cons_of_mem _ (List.mem_append_left _ (List.mem_append_left _ (List.mem_of_getElem? (i := 14) rfl))))) dX5_statement_101 ?_
        obtain ⟨r1, hc1, hle1, h9⟩ := ox_ex h
        clear h
        refine kx_v (vx_runV (As := []) (rest := []) ⟨hx, hb, hml, hown, hts⟩ (c_f_X2_advance l hl0 dC dI cy ek a k lZ σ r1 hc1 z H.size) (cwV 0 hts g_f_X5_statement_X2_advance_V30 rfl rfl rfl hd_f_X2_advance (by show 6 + 1 ≤ 412 + d ∧ 8 + (7 + 11) + 100 ≤ 13455 + 28 * d; omega)) ⟨nb_blindF, va_recv hK hP (ci := 2) (q0 := 37) rfl rfl, (kx_pre hK hG hE hT hA hP hD hS)⟩ rfl rfl hl.1 rfl (lv_room (Nat.le_of_ble_eq_true rfl)) dX5_statement_104 ⟨Nat.le_trans (Nat.add_le_add_left hle1.1 _) (Nat.le_of_eq hc), Nat.le_trans (Nat.add_le_add_left hle1.2 _) (Nat.le_of_eq hs)⟩) hK hA hzk hP hD hS (by decide) hno hlocks ?_
        rcases h9 with ⟨h00, y1, hny1, hy⟩ | ⟨h00, hy⟩
        · subst hy
          have h := hny1
          refine Or.inl ⟨h00, fun u H locs hz1 hzk hP hD hS => ?_⟩
          obtain rfl := (zk_nil hz1).symm
          replace hc := (Nat.add_assoc _ _ _).trans hc
          replace hs := (Nat.add_assoc _ _ _).trans hs
          refine lv_aload_n hx hb dX5_statement_107 rfl (lv_at hl 0 rfl) ?_
          refine lv_bipush (v := 10) hx hb dX5_statement_108 (by decide) ?_
          obtain ⟨r2, hc2, hle2, h9⟩ := ox_ex h
          clear h
          refine kx_v (r := y1) (vx_runV (As := [.int 10]) (rest := []) ⟨hx, hb, hml, hown, hts⟩ (c_f_X5_want l hl0 dC dI cy ek a k (lI lZ 1 10) r1.2.1 r2 hc2 z H.size) (cwV 1 hts g_f_X5_statement_X5_want_V61 rfl rfl rfl hd_f_X5_want (by show 7 + 1 ≤ 412 + d ∧ 8 + (2 + 11) + 122 ≤ 13455 + 28 * d; omega)) ⟨nb_blindF, va_recv hK hP (ci := 4) (q0 := 40) rfl rfl, (kx_pre hK hG hE hT hA hP hD hS)⟩ rfl rfl hl.1 rfl (lv_room (Nat.le_of_ble_eq_true rfl)) dX5_statement_110 ⟨Nat.le_trans (Nat.add_le_add_left hle2.1 _) (Nat.le_of_eq hc), Nat.le_trans (Nat.add_le_add_left hle2.2 _) (Nat.le_of_eq hs)⟩) hK hA hzk hP hD hS (by decide) hno hlocks ?_
          rcases h9 with ⟨h00, y2, hny2, hy⟩ | ⟨h00, hy⟩
          · subst hy
            have h := hny2
            refine Or.inl ⟨h00, fun u H locs hz2 hzk hP hD hS => ?_⟩
            obtain rfl := (zk_nil hz2).symm
            replace hc := (Nat.add_assoc _ _ _).trans hc
            replace hs := (Nat.add_assoc _ _ _).trans hs
            refine lv_aload_n hx hb dX5_statement_113 rfl (lv_at hl 0 rfl) ?_
            obtain ⟨r3, hc3, hle3, h9⟩ := ox_ex h
            clear h
            refine kx_v (r := y2) (vx_runV (As := []) (rest := []) ⟨hx, hb, hml, hown, hts⟩ (c_f_X5_opens l hl0 dC dI cy ek a k lZ r2.2.1 r3 hc3 z H.size) (cwV 0 hts g_f_X5_statement_X5_opens_V173 rfl rfl rfl hd_f_X5_opens (by show 7 + 1 ≤ 412 + d ∧ 8 + (1 + 11) + 126 ≤ 13455 + 28 * d; omega)) ⟨nb_blindF, va_recv hK hP (ci := 4) (q0 := 40) rfl rfl, (kx_pre hK hG hE hT hA hP hD hS)⟩ rfl rfl hl.1 rfl (lv_room (Nat.le_of_ble_eq_true rfl)) dX5_statement_114 ⟨Nat.le_trans (Nat.add_le_add_left hle3.1 _) (Nat.le_of_eq hc), Nat.le_trans (Nat.add_le_add_left hle3.2 _) (Nat.le_of_eq hs)⟩) hK hA hzk hP hD hS (by decide) hno hlocks ?_
            rcases h9 with ⟨h00, y3, hny3, hy⟩ | ⟨h00, hy⟩
            · subst hy
              have h := hny3
              refine Or.inl ⟨h00, fun u H locs hz3 hzk hP hD hS => ?_⟩
              obtain rfl := (zk_nil hz3).symm
              replace hc := (Nat.add_assoc _ _ _).trans hc
              replace hs := (Nat.add_assoc _ _ _).trans hs
              refine lv_aload_n hx hb dX5_statement_117 rfl (lv_at hl 0 rfl) ?_
              obtain ⟨b4, hb4, h⟩ := oP_ex h
              refine hgq_40_2 hx hb hts in_f_X5_statement_X5 hown hK hP (hts _ (List.mem_cons_of_mem _ (List.mem_append_left _ (List.mem_append_left _ (List.mem_of_getElem? (i := 13) rfl))))) hb4 dX5_statement_118 ?_
              refine lv_sipush (v := 208) hx hb dX5_statement_121 (by decide) ?_
              refine lv_aload_n hx hb dX5_statement_124 rfl (lv_at hl 0 rfl) ?_
              obtain ⟨r5, hc5, hle5, h9⟩ := ox_ex h
              clear h
              refine kx_i (r := y3) (vx_runV (As := []) (rest := [.int 208, .ref (a (pA b4))]) ⟨hx, hb, hml, hown, hts⟩ (c_f_X5_exps l hl0 dC dI cy ek a k lZ r3.2.1 r5 hc5 z H.size) (cwV 0 hts g_f_X5_statement_X5_exps_V233 rfl rfl rfl hd_f_X5_exps (by show 409 + 1 ≤ 412 + d ∧ 8 + (3 + 11) + 13373 ≤ 13455 + 28 * d; omega)) ⟨nb_blindF, va_recv hK hP (ci := 4) (q0 := 40) rfl rfl, (kx_pre hK hG hE hT hA hP hD hS)⟩ rfl rfl hl.1 rfl (lv_room (Nat.le_of_ble_eq_true rfl)) dX5_statement_125 ⟨Nat.le_trans (Nat.add_le_add_left hle5.1 _) (Nat.le_of_eq hc), Nat.le_trans (Nat.add_le_add_left hle5.2 _) (Nat.le_of_eq hs)⟩) hK hA hzk hP hD hS (by decide) hno hlocks ?_
              rcases h9 with ⟨h00, y5, hny5, hy⟩ | ⟨h00, hy⟩
              · subst hy
                have h := hny5
                refine Or.inl ⟨h00, fun z H locs hz5 hzk hP hD hS => ?_⟩
                replace hc := (Nat.add_assoc _ _ _).trans hc
                replace hs := (Nat.add_assoc _ _ _).trans hs
                obtain ⟨r6, hc6, hle6, h9⟩ := ox_ex h
                clear h
                refine kx_i (r := y5) (vx_runV (As := [.int 208, .int r5.1.2]) (rest := []) ⟨hx, hb, hml, hown, hts⟩ (c_f_X7_emit__P l hl0 dC dI cy ek a k (lI (lI (lB lZ 0 b4) 1 208) 2 r5.1.2) r5.2.1 r6 hc6 z H.size) (cwV 2 hts g_f_X5_statement_X7_emit__P_V66 rfl rfl rfl hd_f_X7_emit__P (by show 7 + 1 ≤ 412 + d ∧ 8 + (3 + 11) + 121 ≤ 13455 + 28 * d; omega)) ⟨nb_blindF, recvP b4 hK hP, (kx_pre hK hG hE hT hA hP hD hS)⟩ rfl rfl hl.1 rfl (lv_room (Nat.le_of_ble_eq_true rfl)) dX5_statement_128 ⟨Nat.le_trans (Nat.add_le_add_left hle6.1 _) (Nat.le_of_eq hc), Nat.le_trans (Nat.add_le_add_left hle6.2 _) (Nat.le_of_eq hs)⟩) hK hA hzk hP hD hS (by decide) hno hlocks ?_
                rcases h9 with ⟨h00, y6, hny6, hy⟩ | ⟨h00, hy⟩
                · subst hy
                  have h := hny6
                  refine Or.inl ⟨h00, fun z H locs hz6 hzk hP hD hS => ?_⟩
                  replace hc := (Nat.add_assoc _ _ _).trans hc
                  replace hs := (Nat.add_assoc _ _ _).trans hs
                  refine lv_pop hx hb dX5_statement_131 rfl ?_
                  refine lv_aload_n hx hb dX5_statement_132 rfl (lv_at hl 0 rfl) ?_
                  refine lv_bipush (v := 11) hx hb dX5_statement_133 (by decide) ?_
                  obtain ⟨r7, hc7, hle7, h9⟩ := ox_ex h
                  clear h
                  refine kx_v (r := y6) (vx_runV (As := [.int 11]) (rest := []) ⟨hx, hb, hml, hown, hts⟩ (c_f_X5_closes l hl0 dC dI cy ek a k (lI lZ 1 11) r6.2.1 r7 hc7 z H.size) (cwV 1 hts g_f_X5_statement_X5_closes_V186 rfl rfl rfl hd_f_X5_closes (by show 7 + 1 ≤ 412 + d ∧ 8 + (2 + 11) + 126 ≤ 13455 + 28 * d; omega)) ⟨nb_blindF, va_recv hK hP (ci := 4) (q0 := 40) rfl rfl, (kx_pre hK hG hE hT hA hP hD hS)⟩ rfl rfl hl.1 rfl (lv_room (Nat.le_of_ble_eq_true rfl)) dX5_statement_135 ⟨Nat.le_trans (Nat.add_le_add_left hle7.1 _) (Nat.le_of_eq hc), Nat.le_trans (Nat.add_le_add_left hle7.2 _) (Nat.le_of_eq hs)⟩) hK hA hzk hP hD hS (by decide) hno hlocks ?_
                  rcases h9 with ⟨h00, y7, hny7, hy⟩ | ⟨h00, hy⟩
                  · subst hy
                    have h := hny7
                    refine Or.inl ⟨h00, fun u H locs hz7 hzk hP hD hS => ?_⟩
                    obtain rfl := (zk_nil hz7).symm
                    replace hc := (Nat.add_assoc _ _ _).trans hc
                    replace hs := (Nat.add_assoc _ _ _).trans hs
                    refine lv_goto (tgt := 145) hx hb dX5_statement_138 (by decide) ?_
                    exact ih.2.2.2.2.2.2.2.2 z _ _ L r7.2.1 _ h hzk hc hs H locs ls hP hD hS (lv_sub hl [0] rfl)
                  · subst hy
                    exact Or.inr ⟨h00, rfl, hc, hs⟩
                · subst hy
                  exact Or.inr ⟨h00, rfl, hc, hs⟩
              · subst hy
                exact Or.inr ⟨h00, rfl, hc, hs⟩
            · subst hy
              exact Or.inr ⟨h00, rfl, hc, hs⟩
          · subst hy
            exact Or.inr ⟨h00, rfl, hc, hs⟩
        · subst hy
          exact Or.inr ⟨h00, rfl, hc, hs⟩
      · intro z cells slots L σ r h hzk hc hs H locs ls hP hD hS hl
        rw [f_F3_4, t_X5_statement_7] at h
        refine lv_aload_n hx hb dX5_statement_141 rfl (lv_at hl 0 rfl) ?_
        obtain ⟨r1, hc1, hle1, h9⟩ := ox_ex h
        clear h
        refine kx_v (vx_runV (As := []) (rest := []) ⟨hx, hb, hml, hown, hts⟩ (c_f_X5_plainStatement l hl0 dC dI cy ek a k lZ σ r1 hc1 z H.size) (cwV 0 hts g_f_X5_statement_X5_plainStatement_V237 rfl rfl rfl hd_f_X5_plainStatement (by show 410 + 1 ≤ 412 + d ∧ 8 + (2 + 11) + 13400 ≤ 13455 + 28 * d; omega)) ⟨nb_blindF, va_recv hK hP (ci := 4) (q0 := 40) rfl rfl, (kx_pre hK hG hE hT hA hP hD hS)⟩ rfl rfl hl.1 rfl (lv_room (Nat.le_of_ble_eq_true rfl)) dX5_statement_142 ⟨Nat.le_trans (Nat.add_le_add_left hle1.1 _) (Nat.le_of_eq hc), Nat.le_trans (Nat.add_le_add_left hle1.2 _) (Nat.le_of_eq hs)⟩) hK hA hzk hP hD hS (by decide) hno hlocks ?_
        rcases h9 with ⟨h00, y1, hny1, hy⟩ | ⟨h00, hy⟩
        · subst hy
          have h := hny1
          refine Or.inl ⟨h00, fun z H locs hz1 hzk hP hD hS => ?_⟩
          replace hc := (Nat.add_assoc _ _ _).trans hc
          replace hs := (Nat.add_assoc _ _ _).trans hs
          exact ih.2.2.2.2.2.2.2.2 z _ _ L r1.2.1 _ h hzk hc hs H locs ls hP hD hS (lv_sub hl [0] rfl)
        · subst hy
          exact Or.inr ⟨h00, rfl, hc, hs⟩
      · intro z cells slots L σ r h hzk hc hs H locs ls hP hD hS hl
        rw [f_F3_4, t_X5_statement_8] at h
        refine lv_aload_n hx hb dX5_statement_145 rfl (lv_at hl 0 rfl) ?_
        refine lv_bipush (v := 17) hx hb dX5_statement_146 (by decide) ?_
        obtain ⟨r1, hc1, hle1, h9⟩ := ox_ex h
        clear h
        refine kx_v (vx_runV (As := [.int 17]) (rest := []) ⟨hx, hb, hml, hown, hts⟩ (c_f_X5_expect l hl0 dC dI cy ek a k (lI lZ 1 17) σ r1 hc1 z H.size) (cwV 1 hts g_f_X5_statement_X5_expect_V141 rfl rfl rfl hd_f_X5_expect (by show 7 + 1 ≤ 412 + d ∧ 8 + (2 + 11) + 126 ≤ 13455 + 28 * d; omega)) ⟨nb_blindF, va_recv hK hP (ci := 4) (q0 := 40) rfl rfl, (kx_pre hK hG hE hT hA hP hD hS)⟩ rfl rfl hl.1 rfl (lv_room (Nat.le_of_ble_eq_true rfl)) dX5_statement_148 ⟨Nat.le_trans (Nat.add_le_add_left hle1.1 _) (Nat.le_of_eq hc), Nat.le_trans (Nat.add_le_add_left hle1.2 _) (Nat.le_of_eq hs)⟩) hK hA hzk hP hD hS (by decide) hno hlocks ?_
        rcases h9 with ⟨h00, y1, hny1, hy⟩ | ⟨h00, hy⟩
        · subst hy
          have h := hny1
          refine Or.inl ⟨h00, fun u H locs hz1 hzk hP hD hS => ?_⟩
          obtain rfl := (zk_nil hz1).symm
          replace hc := (Nat.add_assoc _ _ _).trans hc
          replace hs := (Nat.add_assoc _ _ _).trans hs
          obtain rfl := Option.some.inj h
          subst hc
          subst hs
          exact xr_v hx hb hr hK hzk hP hD hS hlocks dX5_statement_151
        · subst hy
          exact Or.inr ⟨h00, rfl, hc, hs⟩
  exact (blk k0 (Nat.le_refl _)).1 z 0 0 L0 σ0 r0 h0 (zk_rf _ _) ((Nat.zero_add _).trans hmc) ((Nat.zero_add _).trans hms) s.heap [] ls hP hD hS hl
theorem gg_f_X5_whileStatement_X5_exp : GoodIn w_f_X5_whileStatement w_f_X5_exp := goodIn_sub (fun w h => (List.mem_cons.mp h).elim (fun e => (List.mem_cons_of_mem _ (List.mem_append_left _ (List.mem_append_right _ (List.mem_append_right _ (List.mem_append_right _ (List.mem_append_right _ (List.mem_append_right _ (List.mem_append_right _ (List.mem_append_right _ (List.mem_append_left _ (List.mem_cons.mpr (Or.inl e))))))))))))) (fun h => (List.mem_append.mp h).elim (fun h => (List.mem_cons_of_mem _ (List.mem_append_left _ (List.mem_append_right _ (List.mem_append_right _ (List.mem_append_right _ (List.mem_append_right _ (List.mem_append_right _ (List.mem_append_right _ (List.mem_append_right _ (List.mem_append_left _ (List.mem_cons_of_mem _ h)))))))))))) (fun h => List.mem_cons_of_mem _ (List.mem_append_right _ h)))) w_f_X5_exp_good
theorem g_f_X5_whileStatement_X5_exp_V90 : GoodIn w_f_X5_whileStatement (wsV RX5 90 RX5 yX5_exp w_f_X5_exp) := goodIn_app (nb_g4 (List.mem_cons_of_mem _ (List.mem_append_left _ (List.mem_append_left _ (List.mem_of_getElem? (i := 36) rfl)))) (List.mem_cons_of_mem _ (List.mem_append_left _ (List.mem_append_left _ (List.mem_of_getElem? (i := 37) rfl)))) (List.mem_cons_of_mem _ (List.mem_append_left _ (List.mem_append_left _ (List.mem_of_getElem? (i := 38) rfl)))) (List.mem_cons_of_mem _ (List.mem_append_left _ (List.mem_append_left _ (List.mem_of_getElem? (i := 9) rfl)))) (by decide +kernel)) gg_f_X5_whileStatement_X5_exp
theorem gg_f_X5_whileStatement_X5_expect : GoodIn w_f_X5_whileStatement w_f_X5_expect := goodIn_sub (fun w h => (List.mem_cons.mp h).elim (fun e => (List.mem_cons_of_mem _ (List.mem_append_left _ (List.mem_append_right _ (List.mem_append_right _ (List.mem_append_right _ (List.mem_append_right _ (List.mem_append_right _ (List.mem_append_right _ (List.mem_append_right _ (List.mem_append_right _ (List.mem_append_right _ (List.mem_append_left _ (List.mem_cons.mpr (Or.inl e))))))))))))))) (fun h => (List.mem_append.mp h).elim (fun h => (List.mem_cons_of_mem _ (List.mem_append_left _ (List.mem_append_right _ (List.mem_append_right _ (List.mem_append_right _ (List.mem_append_right _ (List.mem_append_right _ (List.mem_append_right _ (List.mem_append_right _ (List.mem_append_right _ (List.mem_append_right _ (List.mem_append_left _ (List.mem_cons_of_mem _ h)))))))))))))) (fun h => List.mem_cons_of_mem _ (List.mem_append_right _ h)))) w_f_X5_expect_good
theorem g_f_X5_whileStatement_X5_expect_V141 : GoodIn w_f_X5_whileStatement (wsV RX5 141 RX5 yX5_expect w_f_X5_expect) := goodIn_app (nb_g4 (List.mem_cons_of_mem _ (List.mem_append_left _ (List.mem_append_left _ (List.mem_of_getElem? (i := 42) rfl)))) (List.mem_cons_of_mem _ (List.mem_append_left _ (List.mem_append_left _ (List.mem_of_getElem? (i := 43) rfl)))) (List.mem_cons_of_mem _ (List.mem_append_left _ (List.mem_append_left _ (List.mem_of_getElem? (i := 44) rfl)))) (List.mem_cons_of_mem _ (List.mem_append_left _ (List.mem_append_left _ (List.mem_of_getElem? (i := 9) rfl)))) (by decide +kernel)) gg_f_X5_whileStatement_X5_expect
theorem gg_f_X5_whileStatement_X5_loopBody : GoodIn w_f_X5_whileStatement w_f_X5_loopBody := goodIn_sub (fun w h => (List.mem_cons.mp h).elim (fun e => e ▸ (List.mem_cons_of_mem _ (List.mem_append_left _ (List.mem_append_left _ (List.mem_of_getElem? (i := 3) rfl))))) (fun h => List.mem_cons_of_mem _ h)) w_f_X5_loopBody_good
theorem g_f_X5_whileStatement_X5_loopBody_V252 : GoodIn w_f_X5_whileStatement (wsV RX5 252 RX5 yX5_loopBody w_f_X5_loopBody) := goodIn_app (nb_g4 (List.mem_cons_of_mem _ (List.mem_append_left _ (List.mem_append_left _ (List.mem_of_getElem? (i := 45) rfl)))) (List.mem_cons_of_mem _ (List.mem_append_left _ (List.mem_append_left _ (List.mem_of_getElem? (i := 46) rfl)))) (List.mem_cons_of_mem _ (List.mem_append_left _ (List.mem_append_left _ (List.mem_of_getElem? (i := 47) rfl)))) (List.mem_cons_of_mem _ (List.mem_append_left _ (List.mem_append_left _ (List.mem_of_getElem? (i := 9) rfl)))) (by decide +kernel)) gg_f_X5_whileStatement_X5_loopBody
theorem gg_f_X5_whileStatement_X5_opens : GoodIn w_f_X5_whileStatement w_f_X5_opens := goodIn_sub (fun w h => (List.mem_cons.mp h).elim (fun e => (List.mem_cons_of_mem _ (List.mem_append_left _ (List.mem_append_right _ (List.mem_append_right _ (List.mem_append_right _ (List.mem_append_right _ (List.mem_append_left _ (List.mem_cons.mpr (Or.inl e)))))))))) (fun h => (List.mem_append.mp h).elim (fun h => (List.mem_cons_of_mem _ (List.mem_append_left _ (List.mem_append_right _ (List.mem_append_right _ (List.mem_append_right _ (List.mem_append_right _ (List.mem_append_left _ (List.mem_cons_of_mem _ h))))))))) (fun h => List.mem_cons_of_mem _ (List.mem_append_right _ h)))) w_f_X5_opens_good
theorem g_f_X5_whileStatement_X5_opens_V173 : GoodIn w_f_X5_whileStatement (wsV RX5 173 RX5 yX5_opens w_f_X5_opens) := goodIn_app (nb_g4 (List.mem_cons_of_mem _ (List.mem_append_left _ (List.mem_append_left _ (List.mem_of_getElem? (i := 24) rfl)))) (List.mem_cons_of_mem _ (List.mem_append_left _ (List.mem_append_left _ (List.mem_of_getElem? (i := 25) rfl)))) (List.mem_cons_of_mem _ (List.mem_append_left _ (List.mem_append_left _ (List.mem_of_getElem? (i := 26) rfl)))) (List.mem_cons_of_mem _ (List.mem_append_left _ (List.mem_append_left _ (List.mem_of_getElem? (i := 9) rfl)))) (by decide +kernel)) gg_f_X5_whileStatement_X5_opens
theorem gg_f_X5_whileStatement_X7_emit__P : GoodIn w_f_X5_whileStatement w_f_X7_emit__P := goodIn_sub (fun w h => (List.mem_cons.mp h).elim (fun e => (List.mem_cons_of_mem _ (List.mem_append_left _ (List.mem_append_right _ (List.mem_append_right _ (List.mem_append_right _ (List.mem_append_left _ (List.mem_cons.mpr (Or.inl e))))))))) (fun h => (List.mem_append.mp h).elim (fun h => (List.mem_cons_of_mem _ (List.mem_append_left _ (List.mem_append_right _ (List.mem_append_right _ (List.mem_append_right _ (List.mem_append_left _ (List.mem_cons_of_mem _ h)))))))) (fun h => List.mem_cons_of_mem _ (List.mem_append_right _ h)))) w_f_X7_emit__P_good
theorem g_f_X5_whileStatement_X7_emit__P_V66 : GoodIn w_f_X5_whileStatement (wsV RX5 66 RX7 yX7_emit w_f_X7_emit__P) := goodIn_app (nb_g4 (List.mem_cons_of_mem _ (List.mem_append_left _ (List.mem_append_left _ (List.mem_of_getElem? (i := 15) rfl)))) (List.mem_cons_of_mem _ (List.mem_append_left _ (List.mem_append_left _ (List.mem_of_getElem? (i := 16) rfl)))) (List.mem_cons_of_mem _ (List.mem_append_left _ (List.mem_append_left _ (List.mem_of_getElem? (i := 17) rfl)))) (List.mem_cons_of_mem _ (List.mem_append_left _ (List.mem_append_left _ (List.mem_of_getElem? (i := 18) rfl)))) (by decide +kernel)) gg_f_X5_whileStatement_X7_emit__P
theorem gg_f_X5_whileStatement_X7_aim__P : GoodIn w_f_X5_whileStatement w_y_X7_aim__P := goodIn_sub (fun w h => (List.mem_cons.mp h).elim (fun e => (List.mem_cons_of_mem _ (List.mem_append_left _ (List.mem_append_right _ (List.mem_append_right _ (List.mem_append_right _ (List.mem_append_right _ (List.mem_append_right _ (List.mem_append_right _ (List.mem_append_right _ (List.mem_append_right _ (List.mem_append_left _ (List.mem_cons.mpr (Or.inl e)))))))))))))) (fun h => (List.mem_append.mp h).elim (fun h => (List.mem_cons_of_mem _ (List.mem_append_left _ (List.mem_append_right _ (List.mem_append_right _ (List.mem_append_right _ (List.mem_append_right _ (List.mem_append_right _ (List.mem_append_right _ (List.mem_append_right _ (List.mem_append_right _ (List.mem_append_left _ (List.mem_cons_of_mem _ h))))))))))))) (fun h => List.mem_cons_of_mem _ (List.mem_append_right _ h)))) w_y_X7_aim__P_good
theorem g_y_X5_whileStatement_X7_aim__P_V240 : GoodIn w_f_X5_whileStatement (wsV RX5 240 RX7 yX7_aim w_y_X7_aim__P) := goodIn_app (nb_g4 (List.mem_cons_of_mem _ (List.mem_append_left _ (List.mem_append_left _ (List.mem_of_getElem? (i := 39) rfl)))) (List.mem_cons_of_mem _ (List.mem_append_left _ (List.mem_append_left _ (List.mem_of_getElem? (i := 40) rfl)))) (List.mem_cons_of_mem _ (List.mem_append_left _ (List.mem_append_left _ (List.mem_of_getElem? (i := 41) rfl)))) (List.mem_cons_of_mem _ (List.mem_append_left _ (List.mem_append_left _ (List.mem_of_getElem? (i := 18) rfl)))) (by decide +kernel)) gg_f_X5_whileStatement_X7_aim__P
set_option maxHeartbeats 40000000 in
set_option maxRecDepth 100000 in
theorem c_t_X5_whileStatement (l : Launch) (hl0 : l.stackTraces = false) (dC : Nat → ClassId) (dI : Nat → Nat → Nat) (cy : Nat → ClassId) (ek a : Nat → Nat) (k0 : Nat) (IH : ∀ j : Nat, j < k0 → P_F3 l dC dI cy ek a j) (d : Nat) (L0 : LV) (σ0 : CS) (r0 : RS) (h0 : f_F3 k0 d 5 0 L0 σ0 = some r0) (z : Nat → Nat) (sz : Nat) : vx_Met l yX5_whileStatement w_f_X5_whileStatement ({ frames := 412 + d, cells := r0.2.2.1, slots := r0.2.2.2, locals := 13455 + 28 * d }) (va_Pc [.ref (a 40), .int (L0.1 1)] (nInF (dC, dI) cy ek sz (vC cy a z σ0))) (xV dC dI cy a (va_A (vC cy a z σ0) sz) [41, 42, 43, 51] z r0) (xX dC dI cy a (va_A (vC cy a z σ0) sz) [41, 42, 43, 51] z r0) r0.2.2.1 r0.2.2.2 (va_A (vC cy a z σ0) sz) := by
  refine vx_ofW (cc := cX5_whileStatement) (maxL := 3) (ret := none) (by decide) rfl ?_
  intro p e s m args below meth c s₁ B hml hno hv
  obtain ⟨rfl, ⟨⟨hsz, hP, hK, hD0, hG⟩, hE⟩, hT⟩ := hv
  have hx := B.exec
  have hb := B.bytes
  have hr := B.returns
  have hts := atoms_spec (ws := w_f_X5_whileStatement) B.pre
  have hown : s.vm.findClass RX5 = some m.cls := findClass_of_methodNamed B.named
  have hlocks := B.notSynchronized
  subst hsz
  have hD := hD0.self (sz := s.heap.size)
  generalize hAe : va_A (vC cy a z σ0) s.heap.size = A at hD hE hT ⊢
  have hA : ∀ q : Nat, s.heap.size ≤ q → A q := fun q h => by rw [← hAe]; exact Or.inr h
  have hS : va_S A s.heap s.heap [] := va_S.rf
  have hl := lv_entry ([.ref (a 40), .int (L0.1 1)]) (n := 3) (Nat.le_of_ble_eq_true rfl)
  rw [lg_entry_eq]
  generalize (lg_sl ([.ref (a 40), .int (L0.1 1)]) ++ List.replicate (3 - (lg_sl ([.ref (a 40), .int (L0.1 1)])).length) Slot.unset).toArray = ls at hl ⊢
  have hl : lv_has ls 3 [(0, .ref (a 40)), (1, .int (L0.1 1))] := hl
  generalize hmc : r0.2.2.1 = mc
  generalize hms : r0.2.2.2 = ms
  have blk : ∀ k : Nat, k ≤ k0 → (bX p l e (headSpec w_f_X5_whileStatement ({ frames := 412 + d, cells := mc, slots := ms, locals := 13455 + 28 * d })).room s m #[.ref (a 40), .int (L0.1 1)] below meth c dC dI cy a A (fun r => vx_MQ below (xV dC dI cy a A [41, 42, 43, 51] z r) (xX dC dI cy a A [41, 42, 43, 51] z r) #[.ref (a 40), .int (L0.1 1)] s mc ms A) [41, 42, 43, 51] z mc ms 3 (f_F3 k d 5 0) (fun z L => [(0, .ref (a 40)), (1, .int (L.1 1))]) 0 (fun z L => [])) := by
    intro k
    induction k with
    | zero => exact fun _ => fun z c1 c2 L σ r h => (by cases h)
    | succ k ih =>
      intro hk
      replace ih := ih (by omega)
      skip
      · intro z cells slots L σ r h hzk hc hs H locs ls hP hD hS hl
        rw [f_F3_5, t_X5_whileStatement_0] at h
        refine lv_aload_n hx hb dX5_whileStatement_0 rfl (lv_at hl 0 rfl) ?_
        obtain ⟨r1, hc1, hle1, h9⟩ := ox_ex h
        clear h
        refine kx_v (vx_runV (As := []) (rest := []) ⟨hx, hb, hml, hown, hts⟩ (c_f_X5_opens l hl0 dC dI cy ek a k lZ σ r1 hc1 z H.size) (cwV 0 hts g_f_X5_whileStatement_X5_opens_V173 rfl rfl rfl hd_f_X5_opens (by show 7 + 1 ≤ 412 + d ∧ 8 + (1 + 11) + 126 ≤ 13455 + 28 * d; omega)) ⟨nb_blindF, va_recv hK hP (ci := 4) (q0 := 40) rfl rfl, (kx_pre hK hG hE hT hA hP hD hS)⟩ rfl rfl hl.1 rfl (lv_room (Nat.le_of_ble_eq_true rfl)) dX5_whileStatement_1 ⟨Nat.le_trans (Nat.add_le_add_left hle1.1 _) (Nat.le_of_eq hc), Nat.le_trans (Nat.add_le_add_left hle1.2 _) (Nat.le_of_eq hs)⟩) hK hA hzk hP hD hS (by decide) hno hlocks ?_
        rcases h9 with ⟨h00, y1, hny1, hy⟩ | ⟨h00, hy⟩
        · subst hy
          have h := hny1
          refine Or.inl ⟨h00, fun u H locs hz1 hzk hP hD hS => ?_⟩
          obtain rfl := (zk_nil hz1).symm
          replace hc := (Nat.add_assoc _ _ _).trans hc
          replace hs := (Nat.add_assoc _ _ _).trans hs
          refine lv_aload_n hx hb dX5_whileStatement_4 rfl (lv_at hl 0 rfl) ?_
          refine lv_iconst (v := 0) hx hb dX5_whileStatement_5 (by decide) ?_
          obtain ⟨r2, hc2, hle2, h9⟩ := ox_ex h
          clear h
          refine kx_v (r := y1) (vx_runV (As := [.int 0]) (rest := []) ⟨hx, hb, hml, hown, hts⟩ (c_f_X5_exp l hl0 dC dI cy ek a k (lI lZ 1 0) r1.2.1 r2 hc2 z H.size) (cwV 1 hts g_f_X5_whileStatement_X5_exp_V90 rfl rfl rfl hd_f_X5_exp (by show 409 + 1 ≤ 412 + d ∧ 8 + (8 + 11) + 13373 ≤ 13455 + 28 * d; omega)) ⟨nb_blindF, va_recv hK hP (ci := 4) (q0 := 40) rfl rfl, (kx_pre hK hG hE hT hA hP hD hS)⟩ rfl rfl hl.1 rfl (lv_room (Nat.le_of_ble_eq_true rfl)) dX5_whileStatement_6 ⟨Nat.le_trans (Nat.add_le_add_left hle2.1 _) (Nat.le_of_eq hc), Nat.le_trans (Nat.add_le_add_left hle2.2 _) (Nat.le_of_eq hs)⟩) hK hA hzk hP hD hS (by decide) hno hlocks ?_
          rcases h9 with ⟨h00, y2, hny2, hy⟩ | ⟨h00, hy⟩
          · subst hy
            have h := hny2
            refine Or.inl ⟨h00, fun z H locs hz2 hzk hP hD hS => ?_⟩
            replace hc := (Nat.add_assoc _ _ _).trans hc
            replace hs := (Nat.add_assoc _ _ _).trans hs
            refine lv_aload_n hx hb dX5_whileStatement_9 rfl (lv_at hl 0 rfl) ?_
            refine lv_bipush (v := 44) hx hb dX5_whileStatement_10 (by decide) ?_
            obtain ⟨r3, hc3, hle3, h9⟩ := ox_ex h
            clear h
            refine kx_v (r := y2) (vx_runV (As := [.int 44]) (rest := []) ⟨hx, hb, hml, hown, hts⟩ (c_f_X5_expect l hl0 dC dI cy ek a k (lI lZ 1 44) r2.2.1 r3 hc3 z H.size) (cwV 1 hts g_f_X5_whileStatement_X5_expect_V141 rfl rfl rfl hd_f_X5_expect (by show 7 + 1 ≤ 412 + d ∧ 8 + (2 + 11) + 126 ≤ 13455 + 28 * d; omega)) ⟨nb_blindF, va_recv hK hP (ci := 4) (q0 := 40) rfl rfl, (kx_pre hK hG hE hT hA hP hD hS)⟩ rfl rfl hl.1 rfl (lv_room (Nat.le_of_ble_eq_true rfl)) dX5_whileStatement_12 ⟨Nat.le_trans (Nat.add_le_add_left hle3.1 _) (Nat.le_of_eq hc), Nat.le_trans (Nat.add_le_add_left hle3.2 _) (Nat.le_of_eq hs)⟩) hK hA hzk hP hD hS (by decide) hno hlocks ?_
            rcases h9 with ⟨h00, y3, hny3, hy⟩ | ⟨h00, hy⟩
            · subst hy
              have h := hny3
              refine Or.inl ⟨h00, fun u H locs hz3 hzk hP hD hS => ?_⟩
              obtain rfl := (zk_nil hz3).symm
              replace hc := (Nat.add_assoc _ _ _).trans hc
              replace hs := (Nat.add_assoc _ _ _).trans hs
              refine lv_aload_n hx hb dX5_whileStatement_15 rfl (lv_at hl 0 rfl) ?_
              obtain ⟨b4, hb4, h⟩ := oP_ex h
              refine hgq_40_2 hx hb hts in_f_X5_whileStatement_X5 hown hK hP (hts _ (List.mem_cons_of_mem _ (List.mem_append_left _ (List.mem_append_left _ (List.mem_of_getElem? (i := 13) rfl))))) hb4 dX5_whileStatement_16 ?_
              refine lv_iconst (v := 4) hx hb dX5_whileStatement_19 (by decide) ?_
              refine lv_iconst (v := 0) hx hb dX5_whileStatement_20 (by decide) ?_
              obtain ⟨r5, hc5, hle5, h9⟩ := ox_ex h
              clear h
              refine kx_i (r := y3) (vx_runV (As := [.int 4, .int 0]) (rest := []) ⟨hx, hb, hml, hown, hts⟩ (c_f_X7_emit__P l hl0 dC dI cy ek a k (lI (lI (lB lZ 0 b4) 1 4) 2 0) r3.2.1 r5 hc5 z H.size) (cwV 2 hts g_f_X5_whileStatement_X7_emit__P_V66 rfl rfl rfl hd_f_X7_emit__P (by show 7 + 1 ≤ 412 + d ∧ 8 + (3 + 11) + 121 ≤ 13455 + 28 * d; omega)) ⟨nb_blindF, recvP b4 hK hP, (kx_pre hK hG hE hT hA hP hD hS)⟩ rfl rfl hl.1 rfl (lv_room (Nat.le_of_ble_eq_true rfl)) dX5_whileStatement_21 ⟨Nat.le_trans (Nat.add_le_add_left hle5.1 _) (Nat.le_of_eq hc), Nat.le_trans (Nat.add_le_add_left hle5.2 _) (Nat.le_of_eq hs)⟩) hK hA hzk hP hD hS (by decide) hno hlocks ?_
              rcases h9 with ⟨h00, y5, hny5, hy⟩ | ⟨h00, hy⟩
              · subst hy
                have h := hny5
                refine Or.inl ⟨h00, fun z H locs hz5 hzk hP hD hS => ?_⟩
                replace hc := (Nat.add_assoc _ _ _).trans hc
                replace hs := (Nat.add_assoc _ _ _).trans hs
                refine lv_istore_n (lv' := [(2, .int r5.1.2), (0, .ref (a 40)), (1, .int (L.1 1))]) hx hb dX5_whileStatement_24 rfl hl (by decide) rfl (fun ls hl => ?_)
                refine lv_aload_n hx hb dX5_whileStatement_25 rfl (lv_at hl 1 rfl) ?_
                refine lv_iload_n hx hb dX5_whileStatement_26 rfl (lv_at hl 2 rfl) ?_
                obtain ⟨e6, he6, h⟩ := of_ex h
                obtain ⟨r6, hc6, hle6, h9⟩ := ox_ex h
                clear h
                refine kx_v (r := y5) (vx_runV (As := [.int (L.1 1)]) (rest := []) ⟨hx, hb, hml, hown, hts⟩ ((IH k (by omega)).2.2.2.1 e6 (lI lZ 1 ((L.1 1))) r5.2.1 r6 hc6 z H.size) (cwV 1 hts g_f_X5_whileStatement_X5_loopBody_V252 rfl rfl rfl hd_f_X5_loopBody (by show (412 + e6) + 1 ≤ 412 + d ∧ 8 + (4 + 11) + (13455 + 28 * e6) ≤ 13455 + 28 * d; omega)) ⟨nb_blindF, va_recv hK hP (ci := 4) (q0 := 40) rfl rfl, (kx_pre hK hG hE hT hA hP hD hS)⟩ rfl rfl hl.1 rfl (lv_room (Nat.le_of_ble_eq_true rfl)) dX5_whileStatement_27 ⟨Nat.le_trans (Nat.add_le_add_left hle6.1 _) (Nat.le_of_eq hc), Nat.le_trans (Nat.add_le_add_left hle6.2 _) (Nat.le_of_eq hs)⟩) hK hA hzk hP hD hS (by decide) hno hlocks ?_
                rcases h9 with ⟨h00, y6, hny6, hy⟩ | ⟨h00, hy⟩
                · subst hy
                  have h := hny6
                  refine Or.inl ⟨h00, fun z H locs hz6 hzk hP hD hS => ?_⟩
                  replace hc := (Nat.add_assoc _ _ _).trans hc
                  replace hs := (Nat.add_assoc _ _ _).trans hs
                  refine lv_aload_n hx hb dX5_whileStatement_30 rfl (lv_at hl 1 rfl) ?_
                  obtain ⟨b7, hb7, h⟩ := oP_ex h
                  refine hgq_40_2 hx hb hts in_f_X5_whileStatement_X5 hown hK hP (hts _ (List.mem_cons_of_mem _ (List.mem_append_left _ (List.mem_append_left _ (List.mem_of_getElem? (i := 13) rfl))))) hb7 dX5_whileStatement_31 ?_
                  refine lv_iload_n hx hb dX5_whileStatement_34 rfl (lv_at hl 0 rfl) ?_
                  refine lv_aload_n hx hb dX5_whileStatement_35 rfl (lv_at hl 1 rfl) ?_
                  obtain ⟨b8, hb8, h⟩ := oP_ex h
                  refine hgq_40_2 hx hb hts in_f_X5_whileStatement_X5 hown hK hP (hts _ (List.mem_cons_of_mem _ (List.mem_append_left _ (List.mem_append_left _ (List.mem_of_getElem? (i := 13) rfl))))) hb8 dX5_whileStatement_36 ?_
                  refine hg_P_1n b8 hx hb hts in_f_X5_whileStatement_X7 hown hK hP (va_Nw.use rfl (hG.1 _ (List.mem_of_getElem? (i := 68) rfl))) dX5_whileStatement_39 ?_
                  obtain ⟨r9, hc9, h⟩ := op_ex h
                  refine kc_v (va_runV (As := [.int r5.1.2, .int (r6.2.1.1 (fP b8 1))]) (rest := []) ⟨hx, hb, hml, hown, hts⟩ (c_y_X7_aim__P l dC dI cy a z k (lI (lI (lB lZ 0 b7) 1 r5.1.2) 2 ((r6.2.1.1 (fP b8 1)))) r6.2.1 r9 hc9 H.size) (cwV 2 hts g_y_X5_whileStatement_X7_aim__P_V240 rfl rfl rfl hd_y_X7_aim__P (by show 0 + 1 ≤ 412 + d ∧ 8 + (3 + 11) + 0 ≤ 13455 + 28 * d; omega)) ⟨nb_blind, recvP b7 hK hP, (kb_pre hK hG hP hD)⟩ rfl rfl hl.1 rfl (lv_room (Nat.le_of_ble_eq_true rfl)) dX5_whileStatement_42 ⟨(Nat.le_trans (Nat.le_add_right _ _) (Nat.le_of_eq hc)), (Nat.le_trans (Nat.le_add_right _ _) (Nat.le_of_eq hs))⟩) hA hP hD hS (fun H locs hP hD hS => ?_)
                  obtain rfl := Option.some.inj h
                  subst hc
                  subst hs
                  exact xr_v hx hb hr hK hzk hP hD hS hlocks dX5_whileStatement_45
                · subst hy
                  exact Or.inr ⟨h00, rfl, hc, hs⟩
              · subst hy
                exact Or.inr ⟨h00, rfl, hc, hs⟩
            · subst hy
              exact Or.inr ⟨h00, rfl, hc, hs⟩
          · subst hy
            exact Or.inr ⟨h00, rfl, hc, hs⟩
        · subst hy
          exact Or.inr ⟨h00, rfl, hc, hs⟩
  exact (blk k0 (Nat.le_refl _)) z 0 0 L0 σ0 r0 h0 (zk_rf _ _) ((Nat.zero_add _).trans hmc) ((Nat.zero_add _).trans hms) s.heap [] ls hP hD hS hl
theorem c_F3 (l : Launch) (hl0 : l.stackTraces = false) (dC : Nat → ClassId) (dI : Nat → Nat → Nat) (cy : Nat → ClassId) (ek a : Nat → Nat) : ∀ k0 : Nat, P_F3 l dC dI cy ek a k0 := by
  intro k0
  induction k0 using Nat.strongRecOn with
  | ind k0 IH => exact ⟨c_t_X5_block l hl0 dC dI cy ek a k0 IH, c_t_X5_forStatement l hl0 dC dI cy ek a k0 IH, c_t_X5_ifStatement l hl0 dC dI cy ek a k0 IH, c_t_X5_loopBody l hl0 dC dI cy ek a k0 IH, c_t_X5_statement l hl0 dC dI cy ek a k0 IH, c_t_X5_whileStatement l hl0 dC dI cy ek a k0 IH⟩
def f_X5_block (k b : Nat) (L : LV) (σ : CS) : Option RS := f_F3 k 120 0 b L σ
theorem c_f_X5_block (l : Launch) (hl0 : l.stackTraces = false) (dC : Nat → ClassId) (dI : Nat → Nat → Nat) (cy : Nat → ClassId) (ek a : Nat → Nat) (k0 : Nat) (L0 : LV) (σ0 : CS) (r0 : RS) (h0 : f_X5_block k0 0 L0 σ0 = some r0) (z : Nat → Nat) (sz : Nat) : vx_Met l yX5_block w_f_X5_block ({ frames := 532, cells := r0.2.2.1, slots := r0.2.2.2, locals := 16815 }) (va_Pc [.ref (a 40)] (nInF (dC, dI) cy ek sz (vC cy a z σ0))) (xV dC dI cy a (va_A (vC cy a z σ0) sz) [41, 42, 43, 51] z r0) (xX dC dI cy a (va_A (vC cy a z σ0) sz) [41, 42, 43, 51] z r0) r0.2.2.1 r0.2.2.2 (va_A (vC cy a z σ0) sz) := (c_F3 l hl0 dC dI cy ek a k0).1 120 L0 σ0 r0 h0 z sz
def f_X5_forStatement (k b : Nat) (L : LV) (σ : CS) : Option RS := f_F3 k 120 1 b L σ
theorem c_f_X5_forStatement (l : Launch) (hl0 : l.stackTraces = false) (dC : Nat → ClassId) (dI : Nat → Nat → Nat) (cy : Nat → ClassId) (ek a : Nat → Nat) (k0 : Nat) (L0 : LV) (σ0 : CS) (r0 : RS) (h0 : f_X5_forStatement k0 0 L0 σ0 = some r0) (z : Nat → Nat) (sz : Nat) : vx_Met l yX5_forStatement w_f_X5_forStatement ({ frames := 532, cells := r0.2.2.1, slots := r0.2.2.2, locals := 16815 }) (va_Pc [.ref (a 40)] (nInF (dC, dI) cy ek sz (vC cy a z σ0))) (xV dC dI cy a (va_A (vC cy a z σ0) sz) [41, 42, 43, 51] z r0) (xX dC dI cy a (va_A (vC cy a z σ0) sz) [41, 42, 43, 51] z r0) r0.2.2.1 r0.2.2.2 (va_A (vC cy a z σ0) sz) := (c_F3 l hl0 dC dI cy ek a k0).2.1 120 L0 σ0 r0 h0 z sz
def f_X5_ifStatement (k b : Nat) (L : LV) (σ : CS) : Option RS := f_F3 k 120 2 b L σ
theorem c_f_X5_ifStatement (l : Launch) (hl0 : l.stackTraces = false) (dC : Nat → ClassId) (dI : Nat → Nat → Nat) (cy : Nat → ClassId) (ek a : Nat → Nat) (k0 : Nat) (L0 : LV) (σ0 : CS) (r0 : RS) (h0 : f_X5_ifStatement k0 0 L0 σ0 = some r0) (z : Nat → Nat) (sz : Nat) : vx_Met l yX5_ifStatement w_f_X5_ifStatement ({ frames := 532, cells := r0.2.2.1, slots := r0.2.2.2, locals := 16815 }) (va_Pc [.ref (a 40)] (nInF (dC, dI) cy ek sz (vC cy a z σ0))) (xV dC dI cy a (va_A (vC cy a z σ0) sz) [41, 42, 43, 51] z r0) (xX dC dI cy a (va_A (vC cy a z σ0) sz) [41, 42, 43, 51] z r0) r0.2.2.1 r0.2.2.2 (va_A (vC cy a z σ0) sz) := (c_F3 l hl0 dC dI cy ek a k0).2.2.1 120 L0 σ0 r0 h0 z sz
def f_X5_loopBody (k b : Nat) (L : LV) (σ : CS) : Option RS := f_F3 k 120 3 b L σ
theorem c_f_X5_loopBody (l : Launch) (hl0 : l.stackTraces = false) (dC : Nat → ClassId) (dI : Nat → Nat → Nat) (cy : Nat → ClassId) (ek a : Nat → Nat) (k0 : Nat) (L0 : LV) (σ0 : CS) (r0 : RS) (h0 : f_X5_loopBody k0 0 L0 σ0 = some r0) (z : Nat → Nat) (sz : Nat) : vx_Met l yX5_loopBody w_f_X5_loopBody ({ frames := 532, cells := r0.2.2.1, slots := r0.2.2.2, locals := 16815 }) (va_Pc [.ref (a 40), .int (L0.1 1)] (nInF (dC, dI) cy ek sz (vC cy a z σ0))) (xV dC dI cy a (va_A (vC cy a z σ0) sz) [41, 42, 43, 51] z r0) (xX dC dI cy a (va_A (vC cy a z σ0) sz) [41, 42, 43, 51] z r0) r0.2.2.1 r0.2.2.2 (va_A (vC cy a z σ0) sz) := (c_F3 l hl0 dC dI cy ek a k0).2.2.2.1 120 L0 σ0 r0 h0 z sz
def f_X5_statement (k b : Nat) (L : LV) (σ : CS) : Option RS := f_F3 k 120 4 b L σ
theorem c_f_X5_statement (l : Launch) (hl0 : l.stackTraces = false) (dC : Nat → ClassId) (dI : Nat → Nat → Nat) (cy : Nat → ClassId) (ek a : Nat → Nat) (k0 : Nat) (L0 : LV) (σ0 : CS) (r0 : RS) (h0 : f_X5_statement k0 0 L0 σ0 = some r0) (z : Nat → Nat) (sz : Nat) : vx_Met l yX5_statement w_f_X5_statement ({ frames := 532, cells := r0.2.2.1, slots := r0.2.2.2, locals := 16815 }) (va_Pc [.ref (a 40), .int (L0.1 1)] (nInF (dC, dI) cy ek sz (vC cy a z σ0))) (xV dC dI cy a (va_A (vC cy a z σ0) sz) [41, 42, 43, 51] z r0) (xX dC dI cy a (va_A (vC cy a z σ0) sz) [41, 42, 43, 51] z r0) r0.2.2.1 r0.2.2.2 (va_A (vC cy a z σ0) sz) := (c_F3 l hl0 dC dI cy ek a k0).2.2.2.2.1 120 L0 σ0 r0 h0 z sz
def f_X5_whileStatement (k b : Nat) (L : LV) (σ : CS) : Option RS := f_F3 k 120 5 b L σ
theorem c_f_X5_whileStatement (l : Launch) (hl0 : l.stackTraces = false) (dC : Nat → ClassId) (dI : Nat → Nat → Nat) (cy : Nat → ClassId) (ek a : Nat → Nat) (k0 : Nat) (L0 : LV) (σ0 : CS) (r0 : RS) (h0 : f_X5_whileStatement k0 0 L0 σ0 = some r0) (z : Nat → Nat) (sz : Nat) : vx_Met l yX5_whileStatement w_f_X5_whileStatement ({ frames := 532, cells := r0.2.2.1, slots := r0.2.2.2, locals := 16815 }) (va_Pc [.ref (a 40), .int (L0.1 1)] (nInF (dC, dI) cy ek sz (vC cy a z σ0))) (xV dC dI cy a (va_A (vC cy a z σ0) sz) [41, 42, 43, 51] z r0) (xX dC dI cy a (va_A (vC cy a z σ0) sz) [41, 42, 43, 51] z r0) r0.2.2.1 r0.2.2.2 (va_A (vC cy a z σ0) sz) := (c_F3 l hl0 dC dI cy ek a k0).2.2.2.2.2 120 L0 σ0 r0 h0 z sz
/-! X5_procedure -/
def f_X5_procedure : Nat → Nat → LV → CS → Option RS
  | 0, _, _, _ => none
  | k + 1, 0, L, σ => ox (f_X5_tellUnit k 0 (lI lZ 1 2) σ) (fun r1 => oP (sPp r1.2.1) (fun b2 => if (((uI r1.2.1 (fP b2 4) ((((r1.2.1.1 (fP b2 4))) + 1))).1 3702)) = 11 then (f_X5_procedure k 1 (lI L 1 r1.1.2) (uI r1.2.1 (fP b2 4) ((((r1.2.1.1 (fP b2 4))) + 1)))) else (ox (f_X5_modeAndParameter k 0 (lI lZ 1 r1.1.2) (uI r1.2.1 (fP b2 4) ((((r1.2.1.1 (fP b2 4))) + 1)))) (fun r4 => f_X5_procedure k 2 (lI (lI L 1 r1.1.2) 2 0) r4.2.1))))
  | k + 1, 1, L, σ => ox (f_X5_closes k 0 (lI lZ 1 11) σ) (fun r1 => ox (f_X5_expect k 0 (lI lZ 1 17) r1.2.1) (fun r2 => f_X5_procedure k 3 (lI L 2 0) r2.2.1))
  | k + 1, 2, L, σ => if 8 < ((L.1 2)) then (f_X5_procedure k 1 L σ) else (if ((σ.1 3702)) = 16 then (ox (f_X2_advance k 0 lZ σ) (fun r3 => ox (f_X5_modeAndParameter k 0 (lI lZ 1 ((L.1 1))) r3.2.1) (fun r4 => f_X5_procedure k 2 (lI L 2 ((((L.1 2)) + 1))) r4.2.1))) else (f_X5_procedure k 1 L σ))
  | k + 1, 3, L, σ => if 32768 < ((L.1 2)) then (f_X5_procedure k 4 L σ) else (if ((σ.1 3702)) = 32 then (ox (f_X5_variables k 0 (lI lZ 1 ((L.1 1))) σ) (fun r3 => f_X5_procedure k 3 (lI L 2 ((((L.1 2)) + 1))) r3.2.1)) else (f_X5_procedure k 4 L σ))
  | k + 1, 4, L, σ => ox (f_X5_block k 0 lZ σ) (fun r1 => ox (f_X5_expect k 0 (lI lZ 1 38) r1.2.1) (fun r2 => ox (f_X5_push k 0 (lI lZ 1 ((-2147483648))) r2.2.1) (fun r3 => oP (sPp r3.2.1) (fun b4 => ox (f_X7_emit__P k 0 (lI (lI (lB lZ 0 b4) 1 20) 2 0) r3.2.1) (fun r5 => ox (f_X5_expect k 0 (lI lZ 1 17) r5.2.1) (fun r6 => op (y_X5_closeUnit k 0 (lI lZ 1 ((L.1 1))) r6.2.1) (fun r7 => some ((0, 0), r7.2, (0, 0)))))))))
  | _ + 1, _ + 5, _, _ => none
def o_f_X5_procedure : List Cond := [.methodLink RX5 179 yX5_tellUnit, .instanceMethod yX5_tellUnit, .selects RX5 yX5_tellUnit yX5_tellUnit, .initialized RX5, .fieldLink RX5 93 "SetHouse$Parser" "p" "LSetHouse$Program;", .fieldLink RX5 18 "SetHouse$Parser" "lex" "LSetHouse$Lexer;", .methodLink RX5 195 yX5_modeAndParameter, .instanceMethod yX5_modeAndParameter, .selects RX5 yX5_modeAndParameter yX5_modeAndParameter, .methodLink RX5 186 yX5_closes, .instanceMethod yX5_closes, .selects RX5 yX5_closes yX5_closes, .methodLink RX5 141 yX5_expect, .instanceMethod yX5_expect, .selects RX5 yX5_expect yX5_expect, .methodLink RX5 30 yX2_advance, .instanceMethod yX2_advance, .selects RX2 yX2_advance yX2_advance, .initialized RX2, .constant RX5 35 (32768), .methodLink RX5 40 yX5_variables, .instanceMethod yX5_variables, .selects RX5 yX5_variables yX5_variables, .methodLink RX5 58 yX5_block, .instanceMethod yX5_block, .selects RX5 yX5_block yX5_block, .constant RX5 198 (-2147483648), .methodLink RX5 199 yX5_push, .instanceMethod yX5_push, .selects RX5 yX5_push yX5_push, .methodLink RX5 66 yX7_emit, .instanceMethod yX7_emit, .selects RX7 yX7_emit yX7_emit, .initialized RX7, .methodLink RX5 189 yX5_closeUnit, .instanceMethod yX5_closeUnit, .selects RX5 yX5_closeUnit yX5_closeUnit]
theorem o_f_X5_procedure_good : o_f_X5_procedure.all goodWord = true := by decide +kernel
def p_f_X5_procedure : List Cond := o_f_X5_procedure ++ ((.code yX5_tellUnit cX5_tellUnit 2 (some .int) :: p_f_X5_tellUnit) ++ ((.code yX5_modeAndParameter cX5_modeAndParameter 4 none :: p_f_X5_modeAndParameter) ++ ((.code yX5_closes cX5_closes 2 none :: p_f_X5_closes) ++ ((.code yX5_expect cX5_expect 2 none :: p_f_X5_expect) ++ ((.code yX2_advance cX2_advance 7 none :: p_f_X2_advance) ++ ((.code yX5_variables cX5_variables 3 none :: p_f_X5_variables) ++ ((.code yX5_block cX5_block 3 none :: p_f_F3) ++ ((.code yX5_push cX5_push 2 none :: p_f_X5_push) ++ ((.code yX7_emit cX7_emit 3 (some .int) :: p_f_X7_emit__P) ++ ((.code yX5_closeUnit cX5_closeUnit 2 none :: p_y_X5_closeUnit) ++ []))))))))))
theorem p_f_X5_procedure_good : p_f_X5_procedure.all goodWord = true := nb_all2 o_f_X5_procedure_good (nb_all2 (nb_allc (by decide +kernel) p_f_X5_tellUnit_good) (nb_all2 (nb_allc (by decide +kernel) p_f_X5_modeAndParameter_good) (nb_all2 (nb_allc (by decide +kernel) p_f_X5_closes_good) (nb_all2 (nb_allc (by decide +kernel) p_f_X5_expect_good) (nb_all2 (nb_allc (by decide +kernel) p_f_X2_advance_good) (nb_all2 (nb_allc (by decide +kernel) p_f_X5_variables_good) (nb_all2 (nb_allc (by decide +kernel) p_f_F3_good) (nb_all2 (nb_allc (by decide +kernel) p_f_X5_push_good) (nb_all2 (nb_allc (by decide +kernel) p_f_X7_emit__P_good) (nb_all2 (nb_allc (by decide +kernel) p_y_X5_closeUnit_good) rfl))))))))))
def w_f_X5_procedure : List Cond := .code yX5_procedure cX5_procedure 3 none :: (p_f_X5_procedure ++ fC)
theorem w_f_X5_procedure_good : w_f_X5_procedure.all goodWord = true := nb_allc (by decide +kernel) (nb_all2 p_f_X5_procedure_good fC_good)
theorem in_f_X5_procedure_X2 : ∀ w ∈ wsX20, w ∈ w_f_X5_procedure := fun _ h => List.mem_cons_of_mem _ (List.mem_append_right _ (List.mem_append_right _ (List.mem_append_right _ (List.mem_append_left _ h))))
theorem in_f_X5_procedure_X5 : ∀ w ∈ wsX50, w ∈ w_f_X5_procedure := fun _ h => List.mem_cons_of_mem _ (List.mem_append_right _ (List.mem_append_right _ (List.mem_append_right _ (List.mem_append_right _ (List.mem_append_right _ (List.mem_append_left _ h))))))
theorem in_f_X5_procedure_X7 : ∀ w ∈ wsX70, w ∈ w_f_X5_procedure := fun _ h => List.mem_cons_of_mem _ (List.mem_append_right _ (List.mem_append_right _ (List.mem_append_right _ (List.mem_append_right _ (List.mem_append_right _ (List.mem_append_right _ (List.mem_append_right _ (List.mem_append_left _ h))))))))
theorem hd_f_X5_procedure : yX5_procedure.cls = RX5 ∧ yX5_procedure.cls ≠ "java/lang/invoke/MethodHandle" ∧ yX5_procedure.cls ≠ "java/lang/invoke/VarHandle" ∧ (parseMethodDescriptor yX5_procedure.desc).map (fun d => d.parameters.length) = some 0 := by decide +kernel
theorem gg_f_X5_procedure_X2_advance : GoodIn w_f_X5_procedure w_f_X2_advance := goodIn_sub (fun w h => (List.mem_cons.mp h).elim (fun e => (List.mem_cons_of_mem _ (List.mem_append_left _ (List.mem_append_right _ (List.mem_append_right _ (List.mem_append_right _ (List.mem_append_right _ (List.mem_append_right _ (List.mem_append_left _ (List.mem_cons.mpr (Or.inl e))))))))))) (fun h => (List.mem_append.mp h).elim (fun h => (List.mem_cons_of_mem _ (List.mem_append_left _ (List.mem_append_right _ (List.mem_append_right _ (List.mem_append_right _ (List.mem_append_right _ (List.mem_append_right _ (List.mem_append_left _ (List.mem_cons_of_mem _ h)))))))))) (fun h => List.mem_cons_of_mem _ (List.mem_append_right _ h)))) w_f_X2_advance_good
theorem g_f_X5_procedure_X2_advance_V30 : GoodIn w_f_X5_procedure (wsV RX5 30 RX2 yX2_advance w_f_X2_advance) := goodIn_app (nb_g4 (List.mem_cons_of_mem _ (List.mem_append_left _ (List.mem_append_left _ (List.mem_of_getElem? (i := 15) rfl)))) (List.mem_cons_of_mem _ (List.mem_append_left _ (List.mem_append_left _ (List.mem_of_getElem? (i := 16) rfl)))) (List.mem_cons_of_mem _ (List.mem_append_left _ (List.mem_append_left _ (List.mem_of_getElem? (i := 17) rfl)))) (List.mem_cons_of_mem _ (List.mem_append_left _ (List.mem_append_left _ (List.mem_of_getElem? (i := 18) rfl)))) (by decide +kernel)) gg_f_X5_procedure_X2_advance
theorem gg_f_X5_procedure_X5_block : GoodIn w_f_X5_procedure w_f_X5_block := goodIn_sub (fun w h => (List.mem_cons.mp h).elim (fun e => (List.mem_cons_of_mem _ (List.mem_append_left _ (List.mem_append_right _ (List.mem_append_right _ (List.mem_append_right _ (List.mem_append_right _ (List.mem_append_right _ (List.mem_append_right _ (List.mem_append_right _ (List.mem_append_left _ (List.mem_cons.mpr (Or.inl e))))))))))))) (fun h => (List.mem_append.mp h).elim (fun h => (List.mem_cons_of_mem _ (List.mem_append_left _ (List.mem_append_right _ (List.mem_append_right _ (List.mem_append_right _ (List.mem_append_right _ (List.mem_append_right _ (List.mem_append_right _ (List.mem_append_right _ (List.mem_append_left _ (List.mem_cons_of_mem _ h)))))))))))) (fun h => List.mem_cons_of_mem _ (List.mem_append_right _ h)))) w_f_X5_block_good
theorem g_f_X5_procedure_X5_block_V58 : GoodIn w_f_X5_procedure (wsV RX5 58 RX5 yX5_block w_f_X5_block) := goodIn_app (nb_g4 (List.mem_cons_of_mem _ (List.mem_append_left _ (List.mem_append_left _ (List.mem_of_getElem? (i := 23) rfl)))) (List.mem_cons_of_mem _ (List.mem_append_left _ (List.mem_append_left _ (List.mem_of_getElem? (i := 24) rfl)))) (List.mem_cons_of_mem _ (List.mem_append_left _ (List.mem_append_left _ (List.mem_of_getElem? (i := 25) rfl)))) (List.mem_cons_of_mem _ (List.mem_append_left _ (List.mem_append_left _ (List.mem_of_getElem? (i := 3) rfl)))) (by decide +kernel)) gg_f_X5_procedure_X5_block
theorem gg_f_X5_procedure_X5_closes : GoodIn w_f_X5_procedure w_f_X5_closes := goodIn_sub (fun w h => (List.mem_cons.mp h).elim (fun e => (List.mem_cons_of_mem _ (List.mem_append_left _ (List.mem_append_right _ (List.mem_append_right _ (List.mem_append_right _ (List.mem_append_left _ (List.mem_cons.mpr (Or.inl e))))))))) (fun h => (List.mem_append.mp h).elim (fun h => (List.mem_cons_of_mem _ (List.mem_append_left _ (List.mem_append_right _ (List.mem_append_right _ (List.mem_append_right _ (List.mem_append_left _ (List.mem_cons_of_mem _ h)))))))) (fun h => List.mem_cons_of_mem _ (List.mem_append_right _ h)))) w_f_X5_closes_good
theorem g_f_X5_procedure_X5_closes_V186 : GoodIn w_f_X5_procedure (wsV RX5 186 RX5 yX5_closes w_f_X5_closes) := goodIn_app (nb_g4 (List.mem_cons_of_mem _ (List.mem_append_left _ (List.mem_append_left _ (List.mem_of_getElem? (i := 9) rfl)))) (List.mem_cons_of_mem _ (List.mem_append_left _ (List.mem_append_left _ (List.mem_of_getElem? (i := 10) rfl)))) (List.mem_cons_of_mem _ (List.mem_append_left _ (List.mem_append_left _ (List.mem_of_getElem? (i := 11) rfl)))) (List.mem_cons_of_mem _ (List.mem_append_left _ (List.mem_append_left _ (List.mem_of_getElem? (i := 3) rfl)))) (by decide +kernel)) gg_f_X5_procedure_X5_closes
theorem gg_f_X5_procedure_X5_expect : GoodIn w_f_X5_procedure w_f_X5_expect := goodIn_sub (fun w h => (List.mem_cons.mp h).elim (fun e => (List.mem_cons_of_mem _ (List.mem_append_left _ (List.mem_append_right _ (List.mem_append_right _ (List.mem_append_right _ (List.mem_append_right _ (List.mem_append_left _ (List.mem_cons.mpr (Or.inl e)))))))))) (fun h => (List.mem_append.mp h).elim (fun h => (List.mem_cons_of_mem _ (List.mem_append_left _ (List.mem_append_right _ (List.mem_append_right _ (List.mem_append_right _ (List.mem_append_right _ (List.mem_append_left _ (List.mem_cons_of_mem _ h))))))))) (fun h => List.mem_cons_of_mem _ (List.mem_append_right _ h)))) w_f_X5_expect_good
theorem g_f_X5_procedure_X5_expect_V141 : GoodIn w_f_X5_procedure (wsV RX5 141 RX5 yX5_expect w_f_X5_expect) := goodIn_app (nb_g4 (List.mem_cons_of_mem _ (List.mem_append_left _ (List.mem_append_left _ (List.mem_of_getElem? (i := 12) rfl)))) (List.mem_cons_of_mem _ (List.mem_append_left _ (List.mem_append_left _ (List.mem_of_getElem? (i := 13) rfl)))) (List.mem_cons_of_mem _ (List.mem_append_left _ (List.mem_append_left _ (List.mem_of_getElem? (i := 14) rfl)))) (List.mem_cons_of_mem _ (List.mem_append_left _ (List.mem_append_left _ (List.mem_of_getElem? (i := 3) rfl)))) (by decide +kernel)) gg_f_X5_procedure_X5_expect
theorem gg_f_X5_procedure_X5_modeAndParameter : GoodIn w_f_X5_procedure w_f_X5_modeAndParameter := goodIn_sub (fun w h => (List.mem_cons.mp h).elim (fun e => (List.mem_cons_of_mem _ (List.mem_append_left _ (List.mem_append_right _ (List.mem_append_right _ (List.mem_append_left _ (List.mem_cons.mpr (Or.inl e)))))))) (fun h => (List.mem_append.mp h).elim (fun h => (List.mem_cons_of_mem _ (List.mem_append_left _ (List.mem_append_right _ (List.mem_append_right _ (List.mem_append_left _ (List.mem_cons_of_mem _ h))))))) (fun h => List.mem_cons_of_mem _ (List.mem_append_right _ h)))) w_f_X5_modeAndParameter_good
theorem g_f_X5_procedure_X5_modeAndParameter_V195 : GoodIn w_f_X5_procedure (wsV RX5 195 RX5 yX5_modeAndParameter w_f_X5_modeAndParameter) := goodIn_app (nb_g4 (List.mem_cons_of_mem _ (List.mem_append_left _ (List.mem_append_left _ (List.mem_of_getElem? (i := 6) rfl)))) (List.mem_cons_of_mem _ (List.mem_append_left _ (List.mem_append_left _ (List.mem_of_getElem? (i := 7) rfl)))) (List.mem_cons_of_mem _ (List.mem_append_left _ (List.mem_append_left _ (List.mem_of_getElem? (i := 8) rfl)))) (List.mem_cons_of_mem _ (List.mem_append_left _ (List.mem_append_left _ (List.mem_of_getElem? (i := 3) rfl)))) (by decide +kernel)) gg_f_X5_procedure_X5_modeAndParameter
theorem gg_f_X5_procedure_X5_push : GoodIn w_f_X5_procedure w_f_X5_push := goodIn_sub (fun w h => (List.mem_cons.mp h).elim (fun e => (List.mem_cons_of_mem _ (List.mem_append_left _ (List.mem_append_right _ (List.mem_append_right _ (List.mem_append_right _ (List.mem_append_right _ (List.mem_append_right _ (List.mem_append_right _ (List.mem_append_right _ (List.mem_append_right _ (List.mem_append_left _ (List.mem_cons.mpr (Or.inl e)))))))))))))) (fun h => (List.mem_append.mp h).elim (fun h => (List.mem_cons_of_mem _ (List.mem_append_left _ (List.mem_append_right _ (List.mem_append_right _ (List.mem_append_right _ (List.mem_append_right _ (List.mem_append_right _ (List.mem_append_right _ (List.mem_append_right _ (List.mem_append_right _ (List.mem_append_left _ (List.mem_cons_of_mem _ h))))))))))))) (fun h => List.mem_cons_of_mem _ (List.mem_append_right _ h)))) w_f_X5_push_good
theorem g_f_X5_procedure_X5_push_V199 : GoodIn w_f_X5_procedure (wsV RX5 199 RX5 yX5_push w_f_X5_push) := goodIn_app (nb_g4 (List.mem_cons_of_mem _ (List.mem_append_left _ (List.mem_append_left _ (List.mem_of_getElem? (i := 27) rfl)))) (List.mem_cons_of_mem _ (List.mem_append_left _ (List.mem_append_left _ (List.mem_of_getElem? (i := 28) rfl)))) (List.mem_cons_of_mem _ (List.mem_append_left _ (List.mem_append_left _ (List.mem_of_getElem? (i := 29) rfl)))) (List.mem_cons_of_mem _ (List.mem_append_left _ (List.mem_append_left _ (List.mem_of_getElem? (i := 3) rfl)))) (by decide +kernel)) gg_f_X5_procedure_X5_push
theorem gg_f_X5_procedure_X5_tellUnit : GoodIn w_f_X5_procedure w_f_X5_tellUnit := goodIn_sub (fun w h => (List.mem_cons.mp h).elim (fun e => (List.mem_cons_of_mem _ (List.mem_append_left _ (List.mem_append_right _ (List.mem_append_left _ (List.mem_cons.mpr (Or.inl e))))))) (fun h => (List.mem_append.mp h).elim (fun h => (List.mem_cons_of_mem _ (List.mem_append_left _ (List.mem_append_right _ (List.mem_append_left _ (List.mem_cons_of_mem _ h)))))) (fun h => List.mem_cons_of_mem _ (List.mem_append_right _ h)))) w_f_X5_tellUnit_good
theorem g_f_X5_procedure_X5_tellUnit_V179 : GoodIn w_f_X5_procedure (wsV RX5 179 RX5 yX5_tellUnit w_f_X5_tellUnit) := goodIn_app (nb_g4 (List.mem_cons_of_mem _ (List.mem_append_left _ (List.mem_append_left _ (List.mem_of_getElem? (i := 0) rfl)))) (List.mem_cons_of_mem _ (List.mem_append_left _ (List.mem_append_left _ (List.mem_of_getElem? (i := 1) rfl)))) (List.mem_cons_of_mem _ (List.mem_append_left _ (List.mem_append_left _ (List.mem_of_getElem? (i := 2) rfl)))) (List.mem_cons_of_mem _ (List.mem_append_left _ (List.mem_append_left _ (List.mem_of_getElem? (i := 3) rfl)))) (by decide +kernel)) gg_f_X5_procedure_X5_tellUnit
theorem gg_f_X5_procedure_X5_variables : GoodIn w_f_X5_procedure w_f_X5_variables := goodIn_sub (fun w h => (List.mem_cons.mp h).elim (fun e => (List.mem_cons_of_mem _ (List.mem_append_left _ (List.mem_append_right _ (List.mem_append_right _ (List.mem_append_right _ (List.mem_append_right _ (List.mem_append_right _ (List.mem_append_right _ (List.mem_append_left _ (List.mem_cons.mpr (Or.inl e)))))))))))) (fun h => (List.mem_append.mp h).elim (fun h => (List.mem_cons_of_mem _ (List.mem_append_left _ (List.mem_append_right _ (List.mem_append_right _ (List.mem_append_right _ (List.mem_append_right _ (List.mem_append_right _ (List.mem_append_right _ (List.mem_append_left _ (List.mem_cons_of_mem _ h))))))))))) (fun h => List.mem_cons_of_mem _ (List.mem_append_right _ h)))) w_f_X5_variables_good
theorem g_f_X5_procedure_X5_variables_V40 : GoodIn w_f_X5_procedure (wsV RX5 40 RX5 yX5_variables w_f_X5_variables) := goodIn_app (nb_g4 (List.mem_cons_of_mem _ (List.mem_append_left _ (List.mem_append_left _ (List.mem_of_getElem? (i := 20) rfl)))) (List.mem_cons_of_mem _ (List.mem_append_left _ (List.mem_append_left _ (List.mem_of_getElem? (i := 21) rfl)))) (List.mem_cons_of_mem _ (List.mem_append_left _ (List.mem_append_left _ (List.mem_of_getElem? (i := 22) rfl)))) (List.mem_cons_of_mem _ (List.mem_append_left _ (List.mem_append_left _ (List.mem_of_getElem? (i := 3) rfl)))) (by decide +kernel)) gg_f_X5_procedure_X5_variables
theorem gg_f_X5_procedure_X7_emit__P : GoodIn w_f_X5_procedure w_f_X7_emit__P := goodIn_sub (fun w h => (List.mem_cons.mp h).elim (fun e => (List.mem_cons_of_mem _ (List.mem_append_left _ (List.mem_append_right _ (List.mem_append_right _ (List.mem_append_right _ (List.mem_append_right _ (List.mem_append_right _ (List.mem_append_right _ (List.mem_append_right _ (List.mem_append_right _ (List.mem_append_right _ (List.mem_append_left _ (List.mem_cons.mpr (Or.inl e))))))))))))))) (fun h => (List.mem_append.mp h).elim (fun h => (List.mem_cons_of_mem _ (List.mem_append_left _ (List.mem_append_right _ (List.mem_append_right _ (List.mem_append_right _ (List.mem_append_right _ (List.mem_append_right _ (List.mem_append_right _ (List.mem_append_right _ (List.mem_append_right _ (List.mem_append_right _ (List.mem_append_left _ (List.mem_cons_of_mem _ h)))))))))))))) (fun h => List.mem_cons_of_mem _ (List.mem_append_right _ h)))) w_f_X7_emit__P_good
theorem g_f_X5_procedure_X7_emit__P_V66 : GoodIn w_f_X5_procedure (wsV RX5 66 RX7 yX7_emit w_f_X7_emit__P) := goodIn_app (nb_g4 (List.mem_cons_of_mem _ (List.mem_append_left _ (List.mem_append_left _ (List.mem_of_getElem? (i := 30) rfl)))) (List.mem_cons_of_mem _ (List.mem_append_left _ (List.mem_append_left _ (List.mem_of_getElem? (i := 31) rfl)))) (List.mem_cons_of_mem _ (List.mem_append_left _ (List.mem_append_left _ (List.mem_of_getElem? (i := 32) rfl)))) (List.mem_cons_of_mem _ (List.mem_append_left _ (List.mem_append_left _ (List.mem_of_getElem? (i := 33) rfl)))) (by decide +kernel)) gg_f_X5_procedure_X7_emit__P
theorem gg_f_X5_procedure_X5_closeUnit : GoodIn w_f_X5_procedure w_y_X5_closeUnit := goodIn_sub (fun w h => (List.mem_cons.mp h).elim (fun e => (List.mem_cons_of_mem _ (List.mem_append_left _ (List.mem_append_right _ (List.mem_append_right _ (List.mem_append_right _ (List.mem_append_right _ (List.mem_append_right _ (List.mem_append_right _ (List.mem_append_right _ (List.mem_append_right _ (List.mem_append_right _ (List.mem_append_right _ (List.mem_append_left _ (List.mem_cons.mpr (Or.inl e)))))))))))))))) (fun h => (List.mem_append.mp h).elim (fun h => (List.mem_cons_of_mem _ (List.mem_append_left _ (List.mem_append_right _ (List.mem_append_right _ (List.mem_append_right _ (List.mem_append_right _ (List.mem_append_right _ (List.mem_append_right _ (List.mem_append_right _ (List.mem_append_right _ (List.mem_append_right _ (List.mem_append_right _ (List.mem_append_left _ (List.mem_cons_of_mem _ h))))))))))))))) (fun h => List.mem_cons_of_mem _ (List.mem_append_right _ h)))) w_y_X5_closeUnit_good
theorem g_y_X5_procedure_X5_closeUnit_V189 : GoodIn w_f_X5_procedure (wsV RX5 189 RX5 yX5_closeUnit w_y_X5_closeUnit) := goodIn_app (nb_g4 (List.mem_cons_of_mem _ (List.mem_append_left _ (List.mem_append_left _ (List.mem_of_getElem? (i := 34) rfl)))) (List.mem_cons_of_mem _ (List.mem_append_left _ (List.mem_append_left _ (List.mem_of_getElem? (i := 35) rfl)))) (List.mem_cons_of_mem _ (List.mem_append_left _ (List.mem_append_left _ (List.mem_of_getElem? (i := 36) rfl)))) (List.mem_cons_of_mem _ (List.mem_append_left _ (List.mem_append_left _ (List.mem_of_getElem? (i := 3) rfl)))) (by decide +kernel)) gg_f_X5_procedure_X5_closeUnit
set_option maxHeartbeats 40000000 in
set_option maxRecDepth 100000 in
theorem c_f_X5_procedure (l : Launch) (hl0 : l.stackTraces = false) (dC : Nat → ClassId) (dI : Nat → Nat → Nat) (cy : Nat → ClassId) (ek a : Nat → Nat) (k0 : Nat) (L0 : LV) (σ0 : CS) (r0 : RS) (h0 : f_X5_procedure k0 0 L0 σ0 = some r0) (z : Nat → Nat) (sz : Nat) : vx_Met l yX5_procedure w_f_X5_procedure ({ frames := 533, cells := r0.2.2.1, slots := r0.2.2.2, locals := 16837 }) (va_Pc [.ref (a 40)] (nInF (dC, dI) cy ek sz (vC cy a z σ0))) (xV dC dI cy a (va_A (vC cy a z σ0) sz) [41, 42, 43, 51] z r0) (xX dC dI cy a (va_A (vC cy a z σ0) sz) [41, 42, 43, 51] z r0) r0.2.2.1 r0.2.2.2 (va_A (vC cy a z σ0) sz) := by
  refine vx_ofW (cc := cX5_procedure) (maxL := 3) (ret := none) (by decide) rfl ?_
  intro p e s m args below meth c s₁ B hml hno hv
  obtain ⟨rfl, ⟨⟨hsz, hP, hK, hD0, hG⟩, hE⟩, hT⟩ := hv
  have hx := B.exec
  have hb := B.bytes
  have hr := B.returns
  have hts := atoms_spec (ws := w_f_X5_procedure) B.pre
  have hown : s.vm.findClass RX5 = some m.cls := findClass_of_methodNamed B.named
  have hlocks := B.notSynchronized
  subst hsz
  have hD := hD0.self (sz := s.heap.size)
  generalize hAe : va_A (vC cy a z σ0) s.heap.size = A at hD hE hT ⊢
  have hA : ∀ q : Nat, s.heap.size ≤ q → A q := fun q h => by rw [← hAe]; exact Or.inr h
  have hS : va_S A s.heap s.heap [] := va_S.rf
  have hl := lv_entry ([.ref (a 40)]) (n := 3) (Nat.le_of_ble_eq_true rfl)
  rw [lg_entry_eq]
  generalize (lg_sl ([.ref (a 40)]) ++ List.replicate (3 - (lg_sl ([.ref (a 40)])).length) Slot.unset).toArray = ls at hl ⊢
  have hl : lv_has ls 3 [(0, .ref (a 40))] := hl
  generalize hmc : r0.2.2.1 = mc
  generalize hms : r0.2.2.2 = ms
  have blk : ∀ k : Nat, (bX p l e (headSpec w_f_X5_procedure ({ frames := 533, cells := mc, slots := ms, locals := 16837 })).room s m #[.ref (a 40)] below meth c dC dI cy a A (fun r => vx_MQ below (xV dC dI cy a A [41, 42, 43, 51] z r) (xX dC dI cy a A [41, 42, 43, 51] z r) #[.ref (a 40)] s mc ms A) [41, 42, 43, 51] z mc ms 3 (f_X5_procedure k 0) (fun z L => [(0, .ref (a 40))]) 0 (fun z L => [])) ∧ (bX p l e (headSpec w_f_X5_procedure ({ frames := 533, cells := mc, slots := ms, locals := 16837 })).room s m #[.ref (a 40)] below meth c dC dI cy a A (fun r => vx_MQ below (xV dC dI cy a A [41, 42, 43, 51] z r) (xX dC dI cy a A [41, 42, 43, 51] z r) #[.ref (a 40)] s mc ms A) [41, 42, 43, 51] z mc ms 3 (f_X5_procedure k 1) (fun z L => [(0, .ref (a 40)), (1, .int (L.1 1))]) 74 (fun z L => [])) ∧ (bX p l e (headSpec w_f_X5_procedure ({ frames := 533, cells := mc, slots := ms, locals := 16837 })).room s m #[.ref (a 40)] below meth c dC dI cy a A (fun r => vx_MQ below (xV dC dI cy a A [41, 42, 43, 51] z r) (xX dC dI cy a A [41, 42, 43, 51] z r) #[.ref (a 40)] s mc ms A) [41, 42, 43, 51] z mc ms 3 (f_X5_procedure k 2) (fun z L => [(0, .ref (a 40)), (1, .int (L.1 1)), (2, .int (L.1 2))]) 38 (fun z L => [])) ∧ (bX p l e (headSpec w_f_X5_procedure ({ frames := 533, cells := mc, slots := ms, locals := 16837 })).room s m #[.ref (a 40)] below meth c dC dI cy a A (fun r => vx_MQ below (xV dC dI cy a A [41, 42, 43, 51] z r) (xX dC dI cy a A [41, 42, 43, 51] z r) #[.ref (a 40)] s mc ms A) [41, 42, 43, 51] z mc ms 3 (f_X5_procedure k 3) (fun z L => [(0, .ref (a 40)), (1, .int (L.1 1)), (2, .int (L.1 2))]) 88 (fun z L => [])) ∧ (bX p l e (headSpec w_f_X5_procedure ({ frames := 533, cells := mc, slots := ms, locals := 16837 })).room s m #[.ref (a 40)] below meth c dC dI cy a A (fun r => vx_MQ below (xV dC dI cy a A [41, 42, 43, 51] z r) (xX dC dI cy a A [41, 42, 43, 51] z r) #[.ref (a 40)] s mc ms A) [41, 42, 43, 51] z mc ms 3 (f_X5_procedure k 4) (fun z L => [(0, .ref (a 40)), (1, .int (L.1 1))]) 117 (fun z L => [])) := by
    intro k
    induction k with
    | zero => exact ⟨fun z c1 c2 L σ r h => (by cases h), fun z c1 c2 L σ r h => (by cases h), fun z c1 c2 L σ r h => (by cases h), fun z c1 c2 L σ r h => (by cases h), fun z c1 c2 L σ r h => (by cases h)⟩
    | succ k ih =>
      refine ⟨?_, ?_, ?_, ?_, ?_⟩
      · intro z cells slots L σ r h hzk hc hs H locs ls hP hD hS hl
        rw [f_X5_procedure] at h
        refine lv_aload_n hx hb dX5_procedure_0 rfl (lv_at hl 0 rfl) ?_
        refine lv_iconst (v := 2) hx hb dX5_procedure_1 (by decide) ?_
        obtain ⟨r1, hc1, hle1, h9⟩ := ox_ex h
        clear h
        refine kx_i (vx_runV (As := [.int 2]) (rest := []) ⟨hx, hb, hml, hown, hts⟩ (c_f_X5_tellUnit l hl0 dC dI cy ek a k (lI lZ 1 2) σ r1 hc1 z H.size) (cwV 1 hts g_f_X5_procedure_X5_tellUnit_V179 rfl rfl rfl hd_f_X5_tellUnit ⟨Nat.le_of_ble_eq_true rfl, Nat.le_of_ble_eq_true rfl⟩) ⟨nb_blindF, va_recv hK hP (ci := 4) (q0 := 40) rfl rfl, (kx_pre hK hG hE hT hA hP hD hS)⟩ rfl rfl hl.1 rfl (lv_room (Nat.le_of_ble_eq_true rfl)) dX5_procedure_2 ⟨Nat.le_trans (Nat.add_le_add_left hle1.1 _) (Nat.le_of_eq hc), Nat.le_trans (Nat.add_le_add_left hle1.2 _) (Nat.le_of_eq hs)⟩) hK hA hzk hP hD hS (by decide) hno hlocks ?_
        rcases h9 with ⟨h00, y1, hny1, hy⟩ | ⟨h00, hy⟩
        · subst hy
          have h := hny1
          refine Or.inl ⟨h00, fun u H locs hz1 hzk hP hD hS => ?_⟩
          obtain rfl := (zk_nil hz1).symm
          replace hc := (Nat.add_assoc _ _ _).trans hc
          replace hs := (Nat.add_assoc _ _ _).trans hs
          refine lv_istore_n (lv' := [(1, .int r1.1.2), (0, .ref (a 40))]) hx hb dX5_procedure_5 rfl hl (by decide) rfl (fun ls hl => ?_)
          refine lv_aload_n hx hb dX5_procedure_6 rfl (lv_at hl 1 rfl) ?_
          obtain ⟨b2, hb2, h⟩ := oP_ex h
          refine hgq_40_2 hx hb hts in_f_X5_procedure_X5 hown hK hP (hts _ (List.mem_cons_of_mem _ (List.mem_append_left _ (List.mem_append_left _ (List.mem_of_getElem? (i := 4) rfl))))) hb2 dX5_procedure_7 ?_
          refine lv_dup hx hb dX5_procedure_10 rfl ?_
          refine hg_P_4n b2 hx hb hts in_f_X5_procedure_X7 hown hK hP (va_Nw.use rfl (hG.1 _ (List.mem_of_getElem? (i := 74) rfl))) dX5_procedure_11 ?_
          refine lv_iconst (v := 1) hx hb dX5_procedure_14 (by decide) ?_
          refine lv_iadd hx hb dX5_procedure_15 ?_
          refine hp_P_4n b2 hx hb hts in_f_X5_procedure_X7 hown hK hP hD hS (va_Nw.use rfl (hG.1 _ (List.mem_of_getElem? (i := 74) rfl))) dX5_procedure_16 (fun H locs hP hD hS => ?_)
          refine lv_aload_n hx hb dX5_procedure_19 rfl (lv_at hl 1 rfl) ?_
          refine hg_40_0 hx hb hts in_f_X5_procedure_X5 hown hK hP (hts _ (List.mem_cons_of_mem _ (List.mem_append_left _ (List.mem_append_left _ (List.mem_of_getElem? (i := 5) rfl))))) dX5_procedure_20 ?_
          refine hg_37_2n hx hb hts in_f_X5_procedure_X2 hown hK hP (va_Nw.use rfl (hG.1 _ (List.mem_of_getElem? (i := 52) rfl))) dX5_procedure_23 ?_
          refine lv_bipush (v := 11) hx hb dX5_procedure_26 (by decide) ?_
          refine lv_icmp_eq (tgt := 74) hx hb dX5_procedure_28 (by decide) (fun c3 => ?_) (fun c3 => ?_)
          · rw [if_pos c3] at h
            exact ih.2.1 z _ _ (lI L 1 r1.1.2) (uI r1.2.1 (fP b2 4) ((((r1.2.1.1 (fP b2 4))) + 1))) _ h hzk hc hs H locs ls hP hD hS (lv_sub hl [1, 0] rfl)
          · rw [if_neg c3] at h
            refine lv_aload_n hx hb dX5_procedure_31 rfl (lv_at hl 1 rfl) ?_
            refine lv_iload_n hx hb dX5_procedure_32 rfl (lv_at hl 0 rfl) ?_
            obtain ⟨r4, hc4, hle4, h9⟩ := ox_ex h
            clear h
            refine kx_v (r := y1) (vx_runV (As := [.int r1.1.2]) (rest := []) ⟨hx, hb, hml, hown, hts⟩ (c_f_X5_modeAndParameter l hl0 dC dI cy ek a k (lI lZ 1 r1.1.2) (uI r1.2.1 (fP b2 4) ((((r1.2.1.1 (fP b2 4))) + 1))) r4 hc4 z H.size) (cwV 1 hts g_f_X5_procedure_X5_modeAndParameter_V195 rfl rfl rfl hd_f_X5_modeAndParameter ⟨Nat.le_of_ble_eq_true rfl, Nat.le_of_ble_eq_true rfl⟩) ⟨nb_blindF, va_recv hK hP (ci := 4) (q0 := 40) rfl rfl, (kx_pre hK hG hE hT hA hP hD hS)⟩ rfl rfl hl.1 rfl (lv_room (Nat.le_of_ble_eq_true rfl)) dX5_procedure_33 ⟨Nat.le_trans (Nat.add_le_add_left hle4.1 _) (Nat.le_of_eq hc), Nat.le_trans (Nat.add_le_add_left hle4.2 _) (Nat.le_of_eq hs)⟩) hK hA hzk hP hD hS (by decide) hno hlocks ?_
            rcases h9 with ⟨h00, y4, hny4, hy⟩ | ⟨h00, hy⟩
            · subst hy
              have h := hny4
              refine Or.inl ⟨h00, fun u H locs hz4 hzk hP hD hS => ?_⟩
              obtain rfl := (zk_nil hz4).symm
              replace hc := (Nat.add_assoc _ _ _).trans hc
              replace hs := (Nat.add_assoc _ _ _).trans hs
              refine lv_iconst (v := 0) hx hb dX5_procedure_36 (by decide) ?_
              refine lv_istore_n (lv' := [(2, .int 0), (1, .int r1.1.2), (0, .ref (a 40))]) hx hb dX5_procedure_37 rfl hl (by decide) rfl (fun ls hl => ?_)
              exact ih.2.2.1 z _ _ (lI (lI L 1 r1.1.2) 2 0) r4.2.1 _ h hzk hc hs H locs ls hP hD hS (lv_sub hl [2, 1, 0] rfl)
            · subst hy
              exact Or.inr ⟨h00, rfl, hc, hs⟩
        · subst hy
          exact Or.inr ⟨h00, rfl, hc, hs⟩
      · intro z cells slots L σ r h hzk hc hs H locs ls hP hD hS hl
        rw [f_X5_procedure] at h
        refine lv_aload_n hx hb dX5_procedure_74 rfl (lv_at hl 0 rfl) ?_
        refine lv_bipush (v := 11) hx hb dX5_procedure_75 (by decide) ?_
        obtain ⟨r1, hc1, hle1, h9⟩ := ox_ex h
        clear h
        refine kx_v (vx_runV (As := [.int 11]) (rest := []) ⟨hx, hb, hml, hown, hts⟩ (c_f_X5_closes l hl0 dC dI cy ek a k (lI lZ 1 11) σ r1 hc1 z H.size) (cwV 1 hts g_f_X5_procedure_X5_closes_V186 rfl rfl rfl hd_f_X5_closes ⟨Nat.le_of_ble_eq_true rfl, Nat.le_of_ble_eq_true rfl⟩) ⟨nb_blindF, va_recv hK hP (ci := 4) (q0 := 40) rfl rfl, (kx_pre hK hG hE hT hA hP hD hS)⟩ rfl rfl hl.1 rfl (lv_room (Nat.le_of_ble_eq_true rfl)) dX5_procedure_77 ⟨Nat.le_trans (Nat.add_le_add_left hle1.1 _) (Nat.le_of_eq hc), Nat.le_trans (Nat.add_le_add_left hle1.2 _) (Nat.le_of_eq hs)⟩) hK hA hzk hP hD hS (by decide) hno hlocks ?_
        rcases h9 with ⟨h00, y1, hny1, hy⟩ | ⟨h00, hy⟩
        · subst hy
          have h := hny1
          refine Or.inl ⟨h00, fun u H locs hz1 hzk hP hD hS => ?_⟩
          obtain rfl := (zk_nil hz1).symm
          replace hc := (Nat.add_assoc _ _ _).trans hc
          replace hs := (Nat.add_assoc _ _ _).trans hs
          refine lv_aload_n hx hb dX5_procedure_80 rfl (lv_at hl 0 rfl) ?_
          refine lv_bipush (v := 17) hx hb dX5_procedure_81 (by decide) ?_
          obtain ⟨r2, hc2, hle2, h9⟩ := ox_ex h
          clear h
          refine kx_v (r := y1) (vx_runV (As := [.int 17]) (rest := []) ⟨hx, hb, hml, hown, hts⟩ (c_f_X5_expect l hl0 dC dI cy ek a k (lI lZ 1 17) r1.2.1 r2 hc2 z H.size) (cwV 1 hts g_f_X5_procedure_X5_expect_V141 rfl rfl rfl hd_f_X5_expect ⟨Nat.le_of_ble_eq_true rfl, Nat.le_of_ble_eq_true rfl⟩) ⟨nb_blindF, va_recv hK hP (ci := 4) (q0 := 40) rfl rfl, (kx_pre hK hG hE hT hA hP hD hS)⟩ rfl rfl hl.1 rfl (lv_room (Nat.le_of_ble_eq_true rfl)) dX5_procedure_83 ⟨Nat.le_trans (Nat.add_le_add_left hle2.1 _) (Nat.le_of_eq hc), Nat.le_trans (Nat.add_le_add_left hle2.2 _) (Nat.le_of_eq hs)⟩) hK hA hzk hP hD hS (by decide) hno hlocks ?_
          rcases h9 with ⟨h00, y2, hny2, hy⟩ | ⟨h00, hy⟩
          · subst hy
            have h := hny2
            refine Or.inl ⟨h00, fun u H locs hz2 hzk hP hD hS => ?_⟩
            obtain rfl := (zk_nil hz2).symm
            replace hc := (Nat.add_assoc _ _ _).trans hc
            replace hs := (Nat.add_assoc _ _ _).trans hs
            refine lv_iconst (v := 0) hx hb dX5_procedure_86 (by decide) ?_
            refine lv_istore_n (lv' := [(2, .int 0), (0, .ref (a 40)), (1, .int (L.1 1))]) hx hb dX5_procedure_87 rfl hl (by decide) rfl (fun ls hl => ?_)
            exact ih.2.2.2.1 z _ _ (lI L 2 0) r2.2.1 _ h hzk hc hs H locs ls hP hD hS (lv_sub hl [1, 2, 0] rfl)
          · subst hy
            exact Or.inr ⟨h00, rfl, hc, hs⟩
        · subst hy
          exact Or.inr ⟨h00, rfl, hc, hs⟩
      · intro z cells slots L σ r h hzk hc hs H locs ls hP hD hS hl
        rw [f_X5_procedure] at h
        refine lv_iload_n hx hb dX5_procedure_38 rfl (lv_at hl 2 rfl) ?_
        refine lv_bipush (v := 8) hx hb dX5_procedure_39 (by decide) ?_
        refine lv_icmp_gt (tgt := 74) hx hb dX5_procedure_41 (by decide) (fun c1 => ?_) (fun c1 => ?_)
        · rw [if_pos c1] at h
          exact ih.2.1 z _ _ L σ _ h hzk hc hs H locs ls hP hD hS (lv_sub hl [0, 1] rfl)
        · rw [if_neg c1] at h
          refine lv_aload_n hx hb dX5_procedure_44 rfl (lv_at hl 0 rfl) ?_
          refine hg_40_0 hx hb hts in_f_X5_procedure_X5 hown hK hP (hts _ (List.mem_cons_of_mem _ (List.mem_append_left _ (List.mem_append_left _ (List.mem_of_getElem? (i := 5) rfl))))) dX5_procedure_45 ?_
          refine hg_37_2n hx hb hts in_f_X5_procedure_X2 hown hK hP (va_Nw.use rfl (hG.1 _ (List.mem_of_getElem? (i := 52) rfl))) dX5_procedure_48 ?_
          refine lv_bipush (v := 16) hx hb dX5_procedure_51 (by decide) ?_
          refine lv_icmp_ne (tgt := 74) hx hb dX5_procedure_53 (by decide) (fun c2 => ?_) (fun c2 => ?_)
          · rw [if_neg c2] at h
            exact ih.2.1 z _ _ L σ _ h hzk hc hs H locs ls hP hD hS (lv_sub hl [0, 1] rfl)
          · rw [if_pos c2] at h
            refine lv_aload_n hx hb dX5_procedure_56 rfl (lv_at hl 0 rfl) ?_
            refine hg_40_0 hx hb hts in_f_X5_procedure_X5 hown hK hP (hts _ (List.mem_cons_of_mem _ (List.mem_append_left _ (List.mem_append_left _ (List.mem_of_getElem? (i := 5) rfl))))) dX5_procedure_57 ?_
            obtain ⟨r3, hc3, hle3, h9⟩ := ox_ex h
            clear h
            refine kx_v (vx_runV (As := []) (rest := []) ⟨hx, hb, hml, hown, hts⟩ (c_f_X2_advance l hl0 dC dI cy ek a k lZ σ r3 hc3 z H.size) (cwV 0 hts g_f_X5_procedure_X2_advance_V30 rfl rfl rfl hd_f_X2_advance ⟨Nat.le_of_ble_eq_true rfl, Nat.le_of_ble_eq_true rfl⟩) ⟨nb_blindF, va_recv hK hP (ci := 2) (q0 := 37) rfl rfl, (kx_pre hK hG hE hT hA hP hD hS)⟩ rfl rfl hl.1 rfl (lv_room (Nat.le_of_ble_eq_true rfl)) dX5_procedure_60 ⟨Nat.le_trans (Nat.add_le_add_left hle3.1 _) (Nat.le_of_eq hc), Nat.le_trans (Nat.add_le_add_left hle3.2 _) (Nat.le_of_eq hs)⟩) hK hA hzk hP hD hS (by decide) hno hlocks ?_
            rcases h9 with ⟨h00, y3, hny3, hy⟩ | ⟨h00, hy⟩
            · subst hy
              have h := hny3
              refine Or.inl ⟨h00, fun u H locs hz3 hzk hP hD hS => ?_⟩
              obtain rfl := (zk_nil hz3).symm
              replace hc := (Nat.add_assoc _ _ _).trans hc
              replace hs := (Nat.add_assoc _ _ _).trans hs
              refine lv_aload_n hx hb dX5_procedure_63 rfl (lv_at hl 0 rfl) ?_
              refine lv_iload_n hx hb dX5_procedure_64 rfl (lv_at hl 1 rfl) ?_
              obtain ⟨r4, hc4, hle4, h9⟩ := ox_ex h
              clear h
              refine kx_v (r := y3) (vx_runV (As := [.int (L.1 1)]) (rest := []) ⟨hx, hb, hml, hown, hts⟩ (c_f_X5_modeAndParameter l hl0 dC dI cy ek a k (lI lZ 1 ((L.1 1))) r3.2.1 r4 hc4 z H.size) (cwV 1 hts g_f_X5_procedure_X5_modeAndParameter_V195 rfl rfl rfl hd_f_X5_modeAndParameter ⟨Nat.le_of_ble_eq_true rfl, Nat.le_of_ble_eq_true rfl⟩) ⟨nb_blindF, va_recv hK hP (ci := 4) (q0 := 40) rfl rfl, (kx_pre hK hG hE hT hA hP hD hS)⟩ rfl rfl hl.1 rfl (lv_room (Nat.le_of_ble_eq_true rfl)) dX5_procedure_65 ⟨Nat.le_trans (Nat.add_le_add_left hle4.1 _) (Nat.le_of_eq hc), Nat.le_trans (Nat.add_le_add_left hle4.2 _) (Nat.le_of_eq hs)⟩) hK hA hzk hP hD hS (by decide) hno hlocks ?_
              rcases h9 with ⟨h00, y4, hny4, hy⟩ | ⟨h00, hy⟩
              · subst hy
                have h := hny4
                refine Or.inl ⟨h00, fun u H locs hz4 hzk hP hD hS => ?_⟩
                obtain rfl := (zk_nil hz4).symm
                replace hc := (Nat.add_assoc _ _ _).trans hc
                replace hs := (Nat.add_assoc _ _ _).trans hs
                refine lv_iinc (v := ((L.1 2)) + 1) (lv' := [(2, .int (((L.1 2)) + 1)), (0, .ref (a 40)), (1, .int (L.1 1))]) hx hb dX5_procedure_68 hl (k := 2) rfl rfl (by decide) rfl (fun ls hl => ?_)
                refine lv_goto (tgt := 38) hx hb dX5_procedure_71 (by decide) ?_
                exact ih.2.2.1 z _ _ (lI L 2 ((((L.1 2)) + 1))) r4.2.1 _ h hzk hc hs H locs ls hP hD hS (lv_sub hl [1, 2, 0] rfl)
              · subst hy
                exact Or.inr ⟨h00, rfl, hc, hs⟩
            · subst hy
              exact Or.inr ⟨h00, rfl, hc, hs⟩
      · intro z cells slots L σ r h hzk hc hs H locs ls hP hD hS hl
        rw [f_X5_procedure] at h
        refine lv_iload_n hx hb dX5_procedure_88 rfl (lv_at hl 2 rfl) ?_
        refine lv_ldc (v := 32768) hx hb hown (hts _ (List.mem_cons_of_mem _ (List.mem_append_left _ (List.mem_append_left _ (List.mem_of_getElem? (i := 19) rfl))))) dX5_procedure_89 ?_
        refine lv_icmp_gt (tgt := 117) hx hb dX5_procedure_91 (by decide) (fun c1 => ?_) (fun c1 => ?_)
        · rw [if_pos c1] at h
          exact ih.2.2.2.2 z _ _ L σ _ h hzk hc hs H locs ls hP hD hS (lv_sub hl [0, 1] rfl)
        · rw [if_neg c1] at h
          refine lv_aload_n hx hb dX5_procedure_94 rfl (lv_at hl 0 rfl) ?_
          refine hg_40_0 hx hb hts in_f_X5_procedure_X5 hown hK hP (hts _ (List.mem_cons_of_mem _ (List.mem_append_left _ (List.mem_append_left _ (List.mem_of_getElem? (i := 5) rfl))))) dX5_procedure_95 ?_
          refine hg_37_2n hx hb hts in_f_X5_procedure_X2 hown hK hP (va_Nw.use rfl (hG.1 _ (List.mem_of_getElem? (i := 52) rfl))) dX5_procedure_98 ?_
          refine lv_bipush (v := 32) hx hb dX5_procedure_101 (by decide) ?_
          refine lv_icmp_ne (tgt := 117) hx hb dX5_procedure_103 (by decide) (fun c2 => ?_) (fun c2 => ?_)
          · rw [if_neg c2] at h
            exact ih.2.2.2.2 z _ _ L σ _ h hzk hc hs H locs ls hP hD hS (lv_sub hl [0, 1] rfl)
          · rw [if_pos c2] at h
            refine lv_aload_n hx hb dX5_procedure_106 rfl (lv_at hl 0 rfl) ?_
            refine lv_iload_n hx hb dX5_procedure_107 rfl (lv_at hl 1 rfl) ?_
            obtain ⟨r3, hc3, hle3, h9⟩ := ox_ex h
            clear h
            refine kx_v (vx_runV (As := [.int (L.1 1)]) (rest := []) ⟨hx, hb, hml, hown, hts⟩ (c_f_X5_variables l hl0 dC dI cy ek a k (lI lZ 1 ((L.1 1))) σ r3 hc3 z H.size) (cwV 1 hts g_f_X5_procedure_X5_variables_V40 rfl rfl rfl hd_f_X5_variables ⟨Nat.le_of_ble_eq_true rfl, Nat.le_of_ble_eq_true rfl⟩) ⟨nb_blindF, va_recv hK hP (ci := 4) (q0 := 40) rfl rfl, (kx_pre hK hG hE hT hA hP hD hS)⟩ rfl rfl hl.1 rfl (lv_room (Nat.le_of_ble_eq_true rfl)) dX5_procedure_108 ⟨Nat.le_trans (Nat.add_le_add_left hle3.1 _) (Nat.le_of_eq hc), Nat.le_trans (Nat.add_le_add_left hle3.2 _) (Nat.le_of_eq hs)⟩) hK hA hzk hP hD hS (by decide) hno hlocks ?_
            rcases h9 with ⟨h00, y3, hny3, hy⟩ | ⟨h00, hy⟩
            · subst hy
              have h := hny3
              refine Or.inl ⟨h00, fun u H locs hz3 hzk hP hD hS => ?_⟩
              obtain rfl := (zk_nil hz3).symm
              replace hc := (Nat.add_assoc _ _ _).trans hc
              replace hs := (Nat.add_assoc _ _ _).trans hs
              refine lv_iinc (v := ((L.1 2)) + 1) (lv' := [(2, .int (((L.1 2)) + 1)), (0, .ref (a 40)), (1, .int (L.1 1))]) hx hb dX5_procedure_111 hl (k := 2) rfl rfl (by decide) rfl (fun ls hl => ?_)
              refine lv_goto (tgt := 88) hx hb dX5_procedure_114 (by decide) ?_
              exact ih.2.2.2.1 z _ _ (lI L 2 ((((L.1 2)) + 1))) r3.2.1 _ h hzk hc hs H locs ls hP hD hS (lv_sub hl [1, 2, 0] rfl)
            · subst hy
              exact Or.inr ⟨h00, rfl, hc, hs⟩
      · intro z cells slots L σ r h hzk hc hs H locs ls hP hD hS hl
        rw [f_X5_procedure] at h
        refine lv_aload_n hx hb dX5_procedure_117 rfl (lv_at hl 0 rfl) ?_
        obtain ⟨r1, hc1, hle1, h9⟩ := ox_ex h
        clear h
        refine kx_v (vx_runV (As := []) (rest := []) ⟨hx, hb, hml, hown, hts⟩ (c_f_X5_block l hl0 dC dI cy ek a k lZ σ r1 hc1 z H.size) (cwV 0 hts g_f_X5_procedure_X5_block_V58 rfl rfl rfl hd_f_X5_block ⟨Nat.le_of_ble_eq_true rfl, Nat.le_of_ble_eq_true rfl⟩) ⟨nb_blindF, va_recv hK hP (ci := 4) (q0 := 40) rfl rfl, (kx_pre hK hG hE hT hA hP hD hS)⟩ rfl rfl hl.1 rfl (lv_room (Nat.le_of_ble_eq_true rfl)) dX5_procedure_118 ⟨Nat.le_trans (Nat.add_le_add_left hle1.1 _) (Nat.le_of_eq hc), Nat.le_trans (Nat.add_le_add_left hle1.2 _) (Nat.le_of_eq hs)⟩) hK hA hzk hP hD hS (by decide) hno hlocks ?_
        rcases h9 with ⟨h00, y1, hny1, hy⟩ | ⟨h00, hy⟩
        · subst hy
          have h := hny1
          refine Or.inl ⟨h00, fun z H locs hz1 hzk hP hD hS => ?_⟩
          replace hc := (Nat.add_assoc _ _ _).trans hc
          replace hs := (Nat.add_assoc _ _ _).trans hs
          refine lv_aload_n hx hb dX5_procedure_121 rfl (lv_at hl 0 rfl) ?_
          refine lv_bipush (v := 38) hx hb dX5_procedure_122 (by decide) ?_
          obtain ⟨r2, hc2, hle2, h9⟩ := ox_ex h
          clear h
          refine kx_v (r := y1) (vx_runV (As := [.int 38]) (rest := []) ⟨hx, hb, hml, hown, hts⟩ (c_f_X5_expect l hl0 dC dI cy ek a k (lI lZ 1 38) r1.2.1 r2 hc2 z H.size) (cwV 1 hts g_f_X5_procedure_X5_expect_V141 rfl rfl rfl hd_f_X5_expect ⟨Nat.le_of_ble_eq_true rfl, Nat.le_of_ble_eq_true rfl⟩) ⟨nb_blindF, va_recv hK hP (ci := 4) (q0 := 40) rfl rfl, (kx_pre hK hG hE hT hA hP hD hS)⟩ rfl rfl hl.1 rfl (lv_room (Nat.le_of_ble_eq_true rfl)) dX5_procedure_124 ⟨Nat.le_trans (Nat.add_le_add_left hle2.1 _) (Nat.le_of_eq hc), Nat.le_trans (Nat.add_le_add_left hle2.2 _) (Nat.le_of_eq hs)⟩) hK hA hzk hP hD hS (by decide) hno hlocks ?_
          rcases h9 with ⟨h00, y2, hny2, hy⟩ | ⟨h00, hy⟩
          · subst hy
            have h := hny2
            refine Or.inl ⟨h00, fun u H locs hz2 hzk hP hD hS => ?_⟩
            obtain rfl := (zk_nil hz2).symm
            replace hc := (Nat.add_assoc _ _ _).trans hc
            replace hs := (Nat.add_assoc _ _ _).trans hs
            refine lv_aload_n hx hb dX5_procedure_127 rfl (lv_at hl 0 rfl) ?_
            refine lv_ldc (v := (-2147483648)) hx hb hown (hts _ (List.mem_cons_of_mem _ (List.mem_append_left _ (List.mem_append_left _ (List.mem_of_getElem? (i := 26) rfl))))) dX5_procedure_128 ?_
            obtain ⟨r3, hc3, hle3, h9⟩ := ox_ex h
            clear h
            refine kx_v (r := y2) (vx_runV (As := [.int (-2147483648)]) (rest := []) ⟨hx, hb, hml, hown, hts⟩ (c_f_X5_push l hl0 dC dI cy ek a k (lI lZ 1 ((-2147483648))) r2.2.1 r3 hc3 z H.size) (cwV 1 hts g_f_X5_procedure_X5_push_V199 rfl rfl rfl hd_f_X5_push ⟨Nat.le_of_ble_eq_true rfl, Nat.le_of_ble_eq_true rfl⟩) ⟨nb_blindF, va_recv hK hP (ci := 4) (q0 := 40) rfl rfl, (kx_pre hK hG hE hT hA hP hD hS)⟩ rfl rfl hl.1 rfl (lv_room (Nat.le_of_ble_eq_true rfl)) dX5_procedure_130 ⟨Nat.le_trans (Nat.add_le_add_left hle3.1 _) (Nat.le_of_eq hc), Nat.le_trans (Nat.add_le_add_left hle3.2 _) (Nat.le_of_eq hs)⟩) hK hA hzk hP hD hS (by decide) hno hlocks ?_
            rcases h9 with ⟨h00, y3, hny3, hy⟩ | ⟨h00, hy⟩
            · subst hy
              have h := hny3
              refine Or.inl ⟨h00, fun z H locs hz3 hzk hP hD hS => ?_⟩
              replace hc := (Nat.add_assoc _ _ _).trans hc
              replace hs := (Nat.add_assoc _ _ _).trans hs
              refine lv_aload_n hx hb dX5_procedure_133 rfl (lv_at hl 0 rfl) ?_
              obtain ⟨b4, hb4, h⟩ := oP_ex h
              refine hgq_40_2 hx hb hts in_f_X5_procedure_X5 hown hK hP (hts _ (List.mem_cons_of_mem _ (List.mem_append_left _ (List.mem_append_left _ (List.mem_of_getElem? (i := 4) rfl))))) hb4 dX5_procedure_134 ?_
              refine lv_bipush (v := 20) hx hb dX5_procedure_137 (by decide) ?_
              refine lv_iconst (v := 0) hx hb dX5_procedure_139 (by decide) ?_
              obtain ⟨r5, hc5, hle5, h9⟩ := ox_ex h
              clear h
              refine kx_i (r := y3) (vx_runV (As := [.int 20, .int 0]) (rest := []) ⟨hx, hb, hml, hown, hts⟩ (c_f_X7_emit__P l hl0 dC dI cy ek a k (lI (lI (lB lZ 0 b4) 1 20) 2 0) r3.2.1 r5 hc5 z H.size) (cwV 2 hts g_f_X5_procedure_X7_emit__P_V66 rfl rfl rfl hd_f_X7_emit__P ⟨Nat.le_of_ble_eq_true rfl, Nat.le_of_ble_eq_true rfl⟩) ⟨nb_blindF, recvP b4 hK hP, (kx_pre hK hG hE hT hA hP hD hS)⟩ rfl rfl hl.1 rfl (lv_room (Nat.le_of_ble_eq_true rfl)) dX5_procedure_140 ⟨Nat.le_trans (Nat.add_le_add_left hle5.1 _) (Nat.le_of_eq hc), Nat.le_trans (Nat.add_le_add_left hle5.2 _) (Nat.le_of_eq hs)⟩) hK hA hzk hP hD hS (by decide) hno hlocks ?_
              rcases h9 with ⟨h00, y5, hny5, hy⟩ | ⟨h00, hy⟩
              · subst hy
                have h := hny5
                refine Or.inl ⟨h00, fun z H locs hz5 hzk hP hD hS => ?_⟩
                replace hc := (Nat.add_assoc _ _ _).trans hc
                replace hs := (Nat.add_assoc _ _ _).trans hs
                refine lv_pop hx hb dX5_procedure_143 rfl ?_
                refine lv_aload_n hx hb dX5_procedure_144 rfl (lv_at hl 0 rfl) ?_
                refine lv_bipush (v := 17) hx hb dX5_procedure_145 (by decide) ?_
                obtain ⟨r6, hc6, hle6, h9⟩ := ox_ex h
                clear h
                refine kx_v (r := y5) (vx_runV (As := [.int 17]) (rest := []) ⟨hx, hb, hml, hown, hts⟩ (c_f_X5_expect l hl0 dC dI cy ek a k (lI lZ 1 17) r5.2.1 r6 hc6 z H.size) (cwV 1 hts g_f_X5_procedure_X5_expect_V141 rfl rfl rfl hd_f_X5_expect ⟨Nat.le_of_ble_eq_true rfl, Nat.le_of_ble_eq_true rfl⟩) ⟨nb_blindF, va_recv hK hP (ci := 4) (q0 := 40) rfl rfl, (kx_pre hK hG hE hT hA hP hD hS)⟩ rfl rfl hl.1 rfl (lv_room (Nat.le_of_ble_eq_true rfl)) dX5_procedure_147 ⟨Nat.le_trans (Nat.add_le_add_left hle6.1 _) (Nat.le_of_eq hc), Nat.le_trans (Nat.add_le_add_left hle6.2 _) (Nat.le_of_eq hs)⟩) hK hA hzk hP hD hS (by decide) hno hlocks ?_
                rcases h9 with ⟨h00, y6, hny6, hy⟩ | ⟨h00, hy⟩
                · subst hy
                  have h := hny6
                  refine Or.inl ⟨h00, fun u H locs hz6 hzk hP hD hS => ?_⟩
                  obtain rfl := (zk_nil hz6).symm
                  replace hc := (Nat.add_assoc _ _ _).trans hc
                  replace hs := (Nat.add_assoc _ _ _).trans hs
                  refine lv_aload_n hx hb dX5_procedure_150 rfl (lv_at hl 0 rfl) ?_
                  refine lv_iload_n hx hb dX5_procedure_151 rfl (lv_at hl 1 rfl) ?_
                  obtain ⟨r7, hc7, h⟩ := op_ex h
                  refine kc_v (va_runV (As := [.int (L.1 1)]) (rest := []) ⟨hx, hb, hml, hown, hts⟩ (c_y_X5_closeUnit l dC dI cy a z k (lI lZ 1 ((L.1 1))) r6.2.1 r7 hc7 H.size) (cwV 1 hts g_y_X5_procedure_X5_closeUnit_V189 rfl rfl rfl hd_y_X5_closeUnit ⟨Nat.le_of_ble_eq_true rfl, Nat.le_of_ble_eq_true rfl⟩) ⟨nb_blind, va_recv hK hP (ci := 4) (q0 := 40) rfl rfl, (kb_pre hK hG hP hD)⟩ rfl rfl hl.1 rfl (lv_room (Nat.le_of_ble_eq_true rfl)) dX5_procedure_152 ⟨(Nat.le_trans (Nat.le_add_right _ _) (Nat.le_of_eq hc)), (Nat.le_trans (Nat.le_add_right _ _) (Nat.le_of_eq hs))⟩) hA hP hD hS (fun H locs hP hD hS => ?_)
                  obtain rfl := Option.some.inj h
                  subst hc
                  subst hs
                  exact xr_v hx hb hr hK hzk hP hD hS hlocks dX5_procedure_155
                · subst hy
                  exact Or.inr ⟨h00, rfl, hc, hs⟩
              · subst hy
                exact Or.inr ⟨h00, rfl, hc, hs⟩
            · subst hy
              exact Or.inr ⟨h00, rfl, hc, hs⟩
          · subst hy
            exact Or.inr ⟨h00, rfl, hc, hs⟩
        · subst hy
          exact Or.inr ⟨h00, rfl, hc, hs⟩
  exact (blk k0).1 z 0 0 L0 σ0 r0 h0 (zk_rf _ _) ((Nat.zero_add _).trans hmc) ((Nat.zero_add _).trans hms) s.heap [] ls hP hD hS hl

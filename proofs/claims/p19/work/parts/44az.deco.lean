theorem gg_x_tupleBrackets_answer : GoodIn w_x_tupleBrackets w_x_answer := goodIn_sub (fun w h => (List.mem_cons.mp h).elim (fun e => (List.mem_cons_of_mem _ (List.mem_append_left _ (List.mem_append_right _ (List.mem_append_right _ (List.mem_append_right _ (List.mem_append_left _ (List.mem_cons.mpr (Or.inl e))))))))) (fun h => (List.mem_append.mp h).elim (fun h => (List.mem_cons_of_mem _ (List.mem_append_left _ (List.mem_append_right _ (List.mem_append_right _ (List.mem_append_right _ (List.mem_append_left _ (List.mem_cons_of_mem _ h)))))))) (fun h => List.mem_cons_of_mem _ (List.mem_append_right _ h)))) w_x_answer_good
theorem g_x_tupleBrackets_answer_591 : GoodIn w_x_tupleBrackets (wsV RX12 591 RX12 yX12_answer w_x_answer) := goodIn_app (nb_g4 (List.mem_cons_of_mem _ (List.mem_append_left _ (List.mem_append_left _ (List.mem_of_getElem? (i := 25) rfl)))) (List.mem_cons_of_mem _ (List.mem_append_left _ (List.mem_append_left _ (List.mem_of_getElem? (i := 26) rfl)))) (List.mem_cons_of_mem _ (List.mem_append_left _ (List.mem_append_left _ (List.mem_of_getElem? (i := 27) rfl)))) (List.mem_cons_of_mem _ (List.mem_append_left _ (List.mem_append_left _ (List.mem_of_getElem? (i := 19) rfl)))) (by decide +kernel)) gg_x_tupleBrackets_answer
theorem gg_x_tupleBrackets_eval : GoodIn w_x_tupleBrackets w_x_eval := goodIn_sub (fun w h => (List.mem_cons.mp h).elim (fun e => e ▸ (List.mem_cons_of_mem _ (List.mem_append_left _ (List.mem_append_left _ (List.mem_of_getElem? (i := 4) rfl))))) (fun h => List.mem_cons_of_mem _ h)) w_x_eval_good
theorem g_x_tupleBrackets_eval_566 : GoodIn w_x_tupleBrackets (wsV RX12 566 RX12 yX12_eval w_x_eval) := goodIn_app (nb_g4 (List.mem_cons_of_mem _ (List.mem_append_left _ (List.mem_append_left _ (List.mem_of_getElem? (i := 62) rfl)))) (List.mem_cons_of_mem _ (List.mem_append_left _ (List.mem_append_left _ (List.mem_of_getElem? (i := 63) rfl)))) (List.mem_cons_of_mem _ (List.mem_append_left _ (List.mem_append_left _ (List.mem_of_getElem? (i := 64) rfl)))) (List.mem_cons_of_mem _ (List.mem_append_left _ (List.mem_append_left _ (List.mem_of_getElem? (i := 19) rfl)))) (by decide +kernel)) gg_x_tupleBrackets_eval
theorem gg_x_tupleBrackets_fail : GoodIn w_x_tupleBrackets w_x_fail := goodIn_sub (fun w h => (List.mem_cons.mp h).elim (fun e => (List.mem_cons_of_mem _ (List.mem_append_left _ (List.mem_append_right _ (List.mem_append_right _ (List.mem_append_right _ (List.mem_append_right _ (List.mem_append_right _ (List.mem_append_right _ (List.mem_append_right _ (List.mem_append_right _ (List.mem_append_right _ (List.mem_append_right _ (List.mem_append_right _ (List.mem_append_left _ (List.mem_cons.mpr (Or.inl e))))))))))))))))) (fun h => (List.mem_append.mp h).elim (fun h => (List.mem_cons_of_mem _ (List.mem_append_left _ (List.mem_append_right _ (List.mem_append_right _ (List.mem_append_right _ (List.mem_append_right _ (List.mem_append_right _ (List.mem_append_right _ (List.mem_append_right _ (List.mem_append_right _ (List.mem_append_right _ (List.mem_append_right _ (List.mem_append_right _ (List.mem_append_left _ (List.mem_cons_of_mem _ h)))))))))))))))) (fun h => List.mem_cons_of_mem _ (List.mem_append_right _ h)))) w_x_fail_good
theorem g_x_tupleBrackets_fail_369 : GoodIn w_x_tupleBrackets (wsV RX12 369 RX12 yX12_fail w_x_fail) := goodIn_app (nb_g4 (List.mem_cons_of_mem _ (List.mem_append_left _ (List.mem_append_left _ (List.mem_of_getElem? (i := 80) rfl)))) (List.mem_cons_of_mem _ (List.mem_append_left _ (List.mem_append_left _ (List.mem_of_getElem? (i := 81) rfl)))) (List.mem_cons_of_mem _ (List.mem_append_left _ (List.mem_append_left _ (List.mem_of_getElem? (i := 82) rfl)))) (List.mem_cons_of_mem _ (List.mem_append_left _ (List.mem_append_left _ (List.mem_of_getElem? (i := 19) rfl)))) (by decide +kernel)) gg_x_tupleBrackets_fail
theorem gg_x_tupleBrackets_pop : GoodIn w_x_tupleBrackets w_x_pop := goodIn_sub (fun w h => (List.mem_cons.mp h).elim (fun e => (List.mem_cons_of_mem _ (List.mem_append_left _ (List.mem_append_right _ (List.mem_append_right _ (List.mem_append_right _ (List.mem_append_right _ (List.mem_append_right _ (List.mem_append_right _ (List.mem_append_right _ (List.mem_append_right _ (List.mem_append_left _ (List.mem_cons.mpr (Or.inl e)))))))))))))) (fun h => (List.mem_append.mp h).elim (fun h => (List.mem_cons_of_mem _ (List.mem_append_left _ (List.mem_append_right _ (List.mem_append_right _ (List.mem_append_right _ (List.mem_append_right _ (List.mem_append_right _ (List.mem_append_right _ (List.mem_append_right _ (List.mem_append_right _ (List.mem_append_left _ (List.mem_cons_of_mem _ h))))))))))))) (fun h => List.mem_cons_of_mem _ (List.mem_append_right _ h)))) w_x_pop_good
theorem g_x_tupleBrackets_pop_572 : GoodIn w_x_tupleBrackets (wsV RX12 572 RX12 yX12_pop w_x_pop) := goodIn_app (nb_g4 (List.mem_cons_of_mem _ (List.mem_append_left _ (List.mem_append_left _ (List.mem_of_getElem? (i := 65) rfl)))) (List.mem_cons_of_mem _ (List.mem_append_left _ (List.mem_append_left _ (List.mem_of_getElem? (i := 66) rfl)))) (List.mem_cons_of_mem _ (List.mem_append_left _ (List.mem_append_left _ (List.mem_of_getElem? (i := 67) rfl)))) (List.mem_cons_of_mem _ (List.mem_append_left _ (List.mem_append_left _ (List.mem_of_getElem? (i := 19) rfl)))) (by decide +kernel)) gg_x_tupleBrackets_pop
theorem gg_x_tupleBrackets_push : GoodIn w_x_tupleBrackets w_x_push := goodIn_sub (fun w h => (List.mem_cons.mp h).elim (fun e => (List.mem_cons_of_mem _ (List.mem_append_left _ (List.mem_append_right _ (List.mem_append_right _ (List.mem_append_right _ (List.mem_append_right _ (List.mem_append_left _ (List.mem_cons.mpr (Or.inl e)))))))))) (fun h => (List.mem_append.mp h).elim (fun h => (List.mem_cons_of_mem _ (List.mem_append_left _ (List.mem_append_right _ (List.mem_append_right _ (List.mem_append_right _ (List.mem_append_right _ (List.mem_append_left _ (List.mem_cons_of_mem _ h))))))))) (fun h => List.mem_cons_of_mem _ (List.mem_append_right _ h)))) w_x_push_good
theorem g_x_tupleBrackets_push_594 : GoodIn w_x_tupleBrackets (wsV RX12 594 RX12 yX12_push w_x_push) := goodIn_app (nb_g4 (List.mem_cons_of_mem _ (List.mem_append_left _ (List.mem_append_left _ (List.mem_of_getElem? (i := 28) rfl)))) (List.mem_cons_of_mem _ (List.mem_append_left _ (List.mem_append_left _ (List.mem_of_getElem? (i := 29) rfl)))) (List.mem_cons_of_mem _ (List.mem_append_left _ (List.mem_append_left _ (List.mem_of_getElem? (i := 30) rfl)))) (List.mem_cons_of_mem _ (List.mem_append_left _ (List.mem_append_left _ (List.mem_of_getElem? (i := 19) rfl)))) (by decide +kernel)) gg_x_tupleBrackets_push
theorem gg_x_tupleBrackets_size : GoodIn w_x_tupleBrackets w_x_size := goodIn_sub (fun w h => (List.mem_cons.mp h).elim (fun e => (List.mem_cons_of_mem _ (List.mem_append_left _ (List.mem_append_right _ (List.mem_append_right _ (List.mem_append_right _ (List.mem_append_right _ (List.mem_append_right _ (List.mem_append_right _ (List.mem_append_right _ (List.mem_append_right _ (List.mem_append_right _ (List.mem_append_right _ (List.mem_append_right _ (List.mem_append_right _ (List.mem_append_right _ (List.mem_append_right _ (List.mem_append_right _ (List.mem_append_right _ (List.mem_append_right _ (List.mem_append_right _ (List.mem_append_right _ (List.mem_append_right _ (List.mem_append_right _ (List.mem_append_right _ (List.mem_append_right _ (List.mem_append_right _ (List.mem_append_right _ (List.mem_append_left _ (List.mem_cons.mpr (Or.inl e))))))))))))))))))))))))))))))) (fun h => (List.mem_append.mp h).elim (fun h => (List.mem_cons_of_mem _ (List.mem_append_left _ (List.mem_append_right _ (List.mem_append_right _ (List.mem_append_right _ (List.mem_append_right _ (List.mem_append_right _ (List.mem_append_right _ (List.mem_append_right _ (List.mem_append_right _ (List.mem_append_right _ (List.mem_append_right _ (List.mem_append_right _ (List.mem_append_right _ (List.mem_append_right _ (List.mem_append_right _ (List.mem_append_right _ (List.mem_append_right _ (List.mem_append_right _ (List.mem_append_right _ (List.mem_append_right _ (List.mem_append_right _ (List.mem_append_right _ (List.mem_append_right _ (List.mem_append_right _ (List.mem_append_right _ (List.mem_append_right _ (List.mem_append_left _ (List.mem_cons_of_mem _ h)))))))))))))))))))))))))))))) (fun h => List.mem_cons_of_mem _ (List.mem_append_right _ h)))) w_x_size_good
theorem g_x_tupleBrackets_size_432 : GoodIn w_x_tupleBrackets (wsV RX12 432 RX12 yX12_size w_x_size) := goodIn_app (nb_g4 (List.mem_cons_of_mem _ (List.mem_append_left _ (List.mem_append_left _ (List.mem_of_getElem? (i := 146) rfl)))) (List.mem_cons_of_mem _ (List.mem_append_left _ (List.mem_append_left _ (List.mem_of_getElem? (i := 147) rfl)))) (List.mem_cons_of_mem _ (List.mem_append_left _ (List.mem_append_left _ (List.mem_of_getElem? (i := 148) rfl)))) (List.mem_cons_of_mem _ (List.mem_append_left _ (List.mem_append_left _ (List.mem_of_getElem? (i := 19) rfl)))) (by decide +kernel)) gg_x_tupleBrackets_size
theorem gg_x_tupleBrackets_sweep : GoodIn w_x_tupleBrackets w_x_sweep := goodIn_sub (fun w h => (List.mem_cons.mp h).elim (fun e => (List.mem_cons_of_mem _ (List.mem_append_left _ (List.mem_append_right _ (List.mem_append_left _ (List.mem_cons.mpr (Or.inl e))))))) (fun h => (List.mem_append.mp h).elim (fun h => (List.mem_cons_of_mem _ (List.mem_append_left _ (List.mem_append_right _ (List.mem_append_left _ (List.mem_cons_of_mem _ h)))))) (fun h => List.mem_cons_of_mem _ (List.mem_append_right _ h)))) w_x_sweep_good
theorem g_x_tupleBrackets_sweep_585 : GoodIn w_x_tupleBrackets (wsV RX12 585 RX12 yX12_sweep w_x_sweep) := goodIn_app (nb_g4 (List.mem_cons_of_mem _ (List.mem_append_left _ (List.mem_append_left _ (List.mem_of_getElem? (i := 16) rfl)))) (List.mem_cons_of_mem _ (List.mem_append_left _ (List.mem_append_left _ (List.mem_of_getElem? (i := 17) rfl)))) (List.mem_cons_of_mem _ (List.mem_append_left _ (List.mem_append_left _ (List.mem_of_getElem? (i := 18) rfl)))) (List.mem_cons_of_mem _ (List.mem_append_left _ (List.mem_append_left _ (List.mem_of_getElem? (i := 19) rfl)))) (by decide +kernel)) gg_x_tupleBrackets_sweep
theorem gg_x_tupleBrackets_tupleOf : GoodIn w_x_tupleBrackets w_x_tupleOf := goodIn_sub (fun w h => (List.mem_cons.mp h).elim (fun e => (List.mem_cons_of_mem _ (List.mem_append_left _ (List.mem_append_right _ (List.mem_append_right _ (List.mem_append_right _ (List.mem_append_right _ (List.mem_append_right _ (List.mem_append_right _ (List.mem_append_right _ (List.mem_append_right _ (List.mem_append_right _ (List.mem_append_right _ (List.mem_append_right _ (List.mem_append_right _ (List.mem_append_right _ (List.mem_append_right _ (List.mem_append_right _ (List.mem_append_left _ (List.mem_cons.mpr (Or.inl e))))))))))))))))))))) (fun h => (List.mem_append.mp h).elim (fun h => (List.mem_cons_of_mem _ (List.mem_append_left _ (List.mem_append_right _ (List.mem_append_right _ (List.mem_append_right _ (List.mem_append_right _ (List.mem_append_right _ (List.mem_append_right _ (List.mem_append_right _ (List.mem_append_right _ (List.mem_append_right _ (List.mem_append_right _ (List.mem_append_right _ (List.mem_append_right _ (List.mem_append_right _ (List.mem_append_right _ (List.mem_append_right _ (List.mem_append_left _ (List.mem_cons_of_mem _ h)))))))))))))))))))) (fun h => List.mem_cons_of_mem _ (List.mem_append_right _ h)))) w_x_tupleOf_good
theorem g_x_tupleBrackets_tupleOf_675 : GoodIn w_x_tupleBrackets (wsV RX12 675 RX12 yX12_tupleOf w_x_tupleOf) := goodIn_app (nb_g4 (List.mem_cons_of_mem _ (List.mem_append_left _ (List.mem_append_left _ (List.mem_of_getElem? (i := 110) rfl)))) (List.mem_cons_of_mem _ (List.mem_append_left _ (List.mem_append_left _ (List.mem_of_getElem? (i := 111) rfl)))) (List.mem_cons_of_mem _ (List.mem_append_left _ (List.mem_append_left _ (List.mem_of_getElem? (i := 112) rfl)))) (List.mem_cons_of_mem _ (List.mem_append_left _ (List.mem_append_left _ (List.mem_of_getElem? (i := 19) rfl)))) (by decide +kernel)) gg_x_tupleBrackets_tupleOf
set_option maxHeartbeats 40000000 in
set_option maxRecDepth 100000 in
theorem c_s_tupleBrackets (l : Launch) (dC : Nat → ClassId) (dI : Nat → Nat → Nat) (cy : Nat → ClassId) (a : Nat → Nat) (k0 : Nat) (IH : ∀ j : Nat, j < k0 → P_GV l dC dI cy a j) (d : Nat) (L0 : Nat → Int32) (σ0 : MS) (r0 : Int32 × MS) (h0 : x_GV k0 d 12 0 L0 σ0 = some r0) (sz : Nat) : Met l yX12_tupleBrackets w_x_tupleBrackets ({ frames := 57 + d, cells := 0, slots := 0, locals := 1375 + 27 * d }) (va_Pc [.ref (a 0), .int (L0 1)] (nIn (dC, dI) cy sz (vM cy a σ0))) (va_Qv (fun _ : Unit => True) (fun _ t => nOut (dC, dI) cy (va_A (vM cy a σ0) sz) (vM cy a r0.2) t) (va_A (vM cy a σ0) sz)) 0 0 (va_A (vM cy a σ0) sz) := by
  refine Met.ofW (cc := cX12_tupleBrackets) (maxL := 8) (ret := none) (by decide) rfl ?_
  intro p e s m args below meth c s₁ B hml hv
  obtain ⟨rfl, hsz, hP, hK, hD0, hG⟩ := hv
  have hx := B.exec
  have hb := B.bytes
  have hr := B.returns
  have hts := atoms_spec (ws := w_x_tupleBrackets) B.pre
  have hown : s.vm.findClass RX12 = some m.cls := findClass_of_methodNamed B.named
  have hlocks := B.notSynchronized
  subst hsz
  have hD := hD0.self (sz := s.heap.size)
  generalize hAe : va_A (vM cy a σ0) s.heap.size = A at hD ⊢
  have hA : ∀ q : Nat, s.heap.size ≤ q → A q := fun q h => by rw [← hAe]; exact Or.inr h
  have hS : va_S A s.heap s.heap [] := va_S.rf
  have hl := lv_entry ([.ref (a 0), .int (L0 1)]) (n := 8) (Nat.le_of_ble_eq_true rfl)
  rw [lg_entry_eq]
  generalize (lg_sl ([.ref (a 0), .int (L0 1)]) ++ List.replicate (8 - (lg_sl ([.ref (a 0), .int (L0 1)])).length) Slot.unset).toArray = ls at hl ⊢
  have hl : lv_has ls 8 [(0, .ref (a 0)), (1, .int (L0 1))] := hl
  have blk : ∀ k : Nat, k ≤ k0 → (bT p l e (headSpec w_x_tupleBrackets ({ frames := 57 + d, cells := 0, slots := 0, locals := 1375 + 27 * d })).room s m #[.ref (a 0), .int (L0 1)] below meth c dC dI cy a A (qV dC dI cy a A below #[.ref (a 0), .int (L0 1)] s) 8 (x_GV k d 12 0) (fun L => [(0, .ref (a 0)), (1, .int (L 1))]) 0 (fun L => [])) ∧ (bT p l e (headSpec w_x_tupleBrackets ({ frames := 57 + d, cells := 0, slots := 0, locals := 1375 + 27 * d })).room s m #[.ref (a 0), .int (L0 1)] below meth c dC dI cy a A (qV dC dI cy a A below #[.ref (a 0), .int (L0 1)] s) 8 (x_GV k d 12 1) (fun L => [(0, .ref (a 0)), (1, .int (L 1)), (2, .int (L 2)), (3, .int (L 3)), (4, .int (L 4)), (5, .int (L 5))]) 18 (fun L => [])) ∧ (bT p l e (headSpec w_x_tupleBrackets ({ frames := 57 + d, cells := 0, slots := 0, locals := 1375 + 27 * d })).room s m #[.ref (a 0), .int (L0 1)] below meth c dC dI cy a A (qV dC dI cy a A below #[.ref (a 0), .int (L0 1)] s) 8 (x_GV k d 12 2) (fun L => [(0, .ref (a 0)), (1, .int (L 1)), (2, .int (L 2)), (3, .int (L 3)), (4, .int (L 4)), (5, .int (L 5))]) 51 (fun L => [])) ∧ (bT p l e (headSpec w_x_tupleBrackets ({ frames := 57 + d, cells := 0, slots := 0, locals := 1375 + 27 * d })).room s m #[.ref (a 0), .int (L0 1)] below meth c dC dI cy a A (qV dC dI cy a A below #[.ref (a 0), .int (L0 1)] s) 8 (x_GV k d 12 3) (fun L => [(0, .ref (a 0)), (1, .int (L 1)), (2, .int (L 2)), (3, .int (L 3)), (4, .int (L 4)), (5, .int (L 5))]) 52 (fun L => [.int (L 100)])) ∧ (bT p l e (headSpec w_x_tupleBrackets ({ frames := 57 + d, cells := 0, slots := 0, locals := 1375 + 27 * d })).room s m #[.ref (a 0), .int (L0 1)] below meth c dC dI cy a A (qV dC dI cy a A below #[.ref (a 0), .int (L0 1)] s) 8 (x_GV k d 12 4) (fun L => [(0, .ref (a 0)), (1, .int (L 1)), (2, .int (L 2)), (3, .int (L 3)), (4, .int (L 4)), (5, .int (L 5)), (6, .int (L 6))]) 65 (fun L => [])) ∧ (bT p l e (headSpec w_x_tupleBrackets ({ frames := 57 + d, cells := 0, slots := 0, locals := 1375 + 27 * d })).room s m #[.ref (a 0), .int (L0 1)] below meth c dC dI cy a A (qV dC dI cy a A below #[.ref (a 0), .int (L0 1)] s) 8 (x_GV k d 12 5) (fun L => [(0, .ref (a 0)), (1, .int (L 1)), (2, .int (L 2)), (3, .int (L 3)), (4, .int (L 4)), (5, .int (L 5)), (6, .int (L 6)), (7, .int (L 7))]) 87 (fun L => [])) ∧ (bT p l e (headSpec w_x_tupleBrackets ({ frames := 57 + d, cells := 0, slots := 0, locals := 1375 + 27 * d })).room s m #[.ref (a 0), .int (L0 1)] below meth c dC dI cy a A (qV dC dI cy a A below #[.ref (a 0), .int (L0 1)] s) 8 (x_GV k d 12 6) (fun L => [(0, .ref (a 0)), (1, .int (L 1)), (2, .int (L 2)), (3, .int (L 3)), (4, .int (L 4)), (5, .int (L 5)), (6, .int (L 6)), (7, .int (L 7))]) 112 (fun L => [])) ∧ (bT p l e (headSpec w_x_tupleBrackets ({ frames := 57 + d, cells := 0, slots := 0, locals := 1375 + 27 * d })).room s m #[.ref (a 0), .int (L0 1)] below meth c dC dI cy a A (qV dC dI cy a A below #[.ref (a 0), .int (L0 1)] s) 8 (x_GV k d 12 7) (fun L => [(0, .ref (a 0)), (1, .int (L 1)), (2, .int (L 2)), (3, .int (L 3)), (4, .int (L 4)), (5, .int (L 5)), (6, .int (L 6))]) 121 (fun L => [])) ∧ (bT p l e (headSpec w_x_tupleBrackets ({ frames := 57 + d, cells := 0, slots := 0, locals := 1375 + 27 * d })).room s m #[.ref (a 0), .int (L0 1)] below meth c dC dI cy a A (qV dC dI cy a A below #[.ref (a 0), .int (L0 1)] s) 8 (x_GV k d 12 8) (fun L => [(0, .ref (a 0)), (1, .int (L 1)), (2, .int (L 2)), (3, .int (L 3)), (4, .int (L 4)), (5, .int (L 5)), (6, .int (L 6))]) 133 (fun L => [.ref (a 0)])) ∧ (bT p l e (headSpec w_x_tupleBrackets ({ frames := 57 + d, cells := 0, slots := 0, locals := 1375 + 27 * d })).room s m #[.ref (a 0), .int (L0 1)] below meth c dC dI cy a A (qV dC dI cy a A below #[.ref (a 0), .int (L0 1)] s) 8 (x_GV k d 12 9) (fun L => [(0, .ref (a 0)), (1, .int (L 1)), (2, .int (L 2)), (3, .int (L 3)), (4, .int (L 4)), (5, .int (L 5)), (6, .int (L 6))]) 137 (fun L => [.int (L 100), .ref (a 0)])) ∧ (bT p l e (headSpec w_x_tupleBrackets ({ frames := 57 + d, cells := 0, slots := 0, locals := 1375 + 27 * d })).room s m #[.ref (a 0), .int (L0 1)] below meth c dC dI cy a A (qV dC dI cy a A below #[.ref (a 0), .int (L0 1)] s) 8 (x_GV k d 12 10) (fun L => [(0, .ref (a 0)), (1, .int (L 1)), (2, .int (L 2)), (3, .int (L 3)), (4, .int (L 4)), (5, .int (L 5)), (6, .int (L 6))]) 140 (fun L => [])) ∧ (bT p l e (headSpec w_x_tupleBrackets ({ frames := 57 + d, cells := 0, slots := 0, locals := 1375 + 27 * d })).room s m #[.ref (a 0), .int (L0 1)] below meth c dC dI cy a A (qV dC dI cy a A below #[.ref (a 0), .int (L0 1)] s) 8 (x_GV k d 12 11) (fun L => [(0, .ref (a 0)), (1, .int (L 1)), (2, .int (L 2)), (3, .int (L 3)), (4, .int (L 4)), (5, .int (L 5))]) 152 (fun L => [])) ∧ (bT p l e (headSpec w_x_tupleBrackets ({ frames := 57 + d, cells := 0, slots := 0, locals := 1375 + 27 * d })).room s m #[.ref (a 0), .int (L0 1)] below meth c dC dI cy a A (qV dC dI cy a A below #[.ref (a 0), .int (L0 1)] s) 8 (x_GV k d 12 12) (fun L => [(0, .ref (a 0)), (1, .int (L 1)), (2, .int (L 2)), (3, .int (L 3)), (4, .int (L 4)), (5, .int (L 5))]) 171 (fun L => [])) ∧ (bT p l e (headSpec w_x_tupleBrackets ({ frames := 57 + d, cells := 0, slots := 0, locals := 1375 + 27 * d })).room s m #[.ref (a 0), .int (L0 1)] below meth c dC dI cy a A (qV dC dI cy a A below #[.ref (a 0), .int (L0 1)] s) 8 (x_GV k d 12 13) (fun L => [(0, .ref (a 0)), (1, .int (L 1)), (2, .int (L 2)), (3, .int (L 3)), (4, .int (L 4)), (5, .int (L 5))]) 198 (fun L => [])) := by
    intro k
    induction k with
    | zero => exact fun _ => ⟨fun L σ r h => (by cases h), fun L σ r h => (by cases h), fun L σ r h => (by cases h), fun L σ r h => (by cases h), fun L σ r h => (by cases h), fun L σ r h => (by cases h), fun L σ r h => (by cases h), fun L σ r h => (by cases h), fun L σ r h => (by cases h), fun L σ r h => (by cases h), fun L σ r h => (by cases h), fun L σ r h => (by cases h), fun L σ r h => (by cases h), fun L σ r h => (by cases h)⟩
    | succ k ih =>
      intro hk
      replace ih := ih (by omega)
      refine ⟨?_, ?_, ?_, ?_, ?_, ?_, ?_, ?_, ?_, ?_, ?_, ?_, ?_, ?_⟩
      · intro L σ r h H locs ls hP hD hS hl
        rw [x_GV_12, s_tupleBrackets_0] at h
        refine lv_aload_n hx hb dX12_tupleBrackets_0 rfl (lv_at hl 0 rfl) ?_
        refine ng_59 hx hb hts in_x_tupleBrackets hown hK hP (hts _ (List.mem_cons_of_mem _ (List.mem_append_left _ (List.mem_append_left _ (List.mem_of_getElem? (i := 76) rfl))))) dX12_tupleBrackets_1 ?_
        refine lv_istore_n (lv' := [(2, .int (σ.1 59)), (0, .ref (a 0)), (1, .int (L 1))]) hx hb dX12_tupleBrackets_4 rfl hl (by decide) rfl (fun ls hl => ?_)
        refine lv_iconst (v := 1) hx hb dX12_tupleBrackets_5 (by decide) ?_
        refine lv_istore_n (lv' := [(3, .int 1), (2, .int (σ.1 59)), (0, .ref (a 0)), (1, .int (L 1))]) hx hb dX12_tupleBrackets_6 rfl hl (by decide) rfl (fun ls hl => ?_)
        refine lv_iconst (v := 0) hx hb dX12_tupleBrackets_7 (by decide) ?_
        refine lv_istore (lv' := [(4, .int 0), (3, .int 1), (2, .int (σ.1 59)), (0, .ref (a 0)), (1, .int (L 1))]) hx hb dX12_tupleBrackets_8 hl (by decide) rfl (fun ls hl => ?_)
        refine lv_aload_n hx hb dX12_tupleBrackets_10 rfl (lv_at hl 3 rfl) ?_
        refine ng_16 hx hb hts in_x_tupleBrackets hown hK hP (hts _ (List.mem_cons_of_mem _ (List.mem_append_left _ (List.mem_append_left _ (List.mem_of_getElem? (i := 21) rfl))))) dX12_tupleBrackets_11 ?_
        refine lv_iload_n hx hb dX12_tupleBrackets_14 rfl (lv_at hl 4 rfl) ?_
        obtain ⟨q1, h⟩ := nb_ite1 h
        refine nl_6 hx hb hK hP q1 dX12_tupleBrackets_15 ?_
        refine lv_istore (lv' := [(5, .int (σ.2.2 6 ((L 1)).toNatClampNeg)), (4, .int 0), (3, .int 1), (2, .int (σ.1 59)), (0, .ref (a 0)), (1, .int (L 1))]) hx hb dX12_tupleBrackets_16 hl (by decide) rfl (fun ls hl => ?_)
        exact ih.2.1 (upd (upd (upd (upd L 2 ((σ.1 59))) 3 1) 4 0) 5 ((σ.2.2 6 ((L 1)).toNatClampNeg))) σ r h H locs ls hP hD hS (lv_sub hl [4, 5, 3, 2, 1, 0] rfl)
      · intro L σ r h H locs ls hP hD hS hl
        rw [x_GV_12, s_tupleBrackets_1] at h
        refine lv_iload hx hb dX12_tupleBrackets_18 (lv_at hl 5 rfl) ?_
        refine lv_iconst (v := (-1)) hx hb dX12_tupleBrackets_20 (by decide) ?_
        refine lv_icmp_eq (tgt := 152) hx hb dX12_tupleBrackets_21 (by decide) (fun c1 => ?_) (fun c1 => ?_)
        · rw [if_pos c1] at h
          exact ih.2.2.2.2.2.2.2.2.2.2.2.1 L σ r h H locs ls hP hD hS (lv_sub hl [0, 1, 2, 3, 4, 5] rfl)
        · rw [if_neg c1] at h
          refine lv_aload_n hx hb dX12_tupleBrackets_24 rfl (lv_at hl 0 rfl) ?_
          refine ng_56 hx hb hts in_x_tupleBrackets hown hK hP (hts _ (List.mem_cons_of_mem _ (List.mem_append_left _ (List.mem_append_left _ (List.mem_of_getElem? (i := 13) rfl))))) dX12_tupleBrackets_25 ?_
          refine lv_if_ne (tgt := 152) hx hb dX12_tupleBrackets_28 (by decide) (fun c2 => ?_) (fun c2 => ?_)
          · rw [if_neg c2] at h
            exact ih.2.2.2.2.2.2.2.2.2.2.2.1 L σ r h H locs ls hP hD hS (lv_sub hl [0, 1, 2, 3, 4, 5] rfl)
          · rw [if_pos c2] at h
            refine lv_aload_n hx hb dX12_tupleBrackets_31 rfl (lv_at hl 0 rfl) ?_
            refine lv_iload hx hb dX12_tupleBrackets_32 (lv_at hl 5 rfl) ?_
            obtain ⟨e3, he3, h⟩ := od_ex h
            obtain ⟨r3, hc3, h⟩ := ob_ex h
            refine nc_Vv (As := [.int (L 5)]) (rest := []) ⟨hx, hb, hml, hown, hts⟩ ((IH k (by omega)).2.2.2.2.1 e3 (upd (fun _ => 0) 1 ((L 5))) σ r3 hc3 H.size) (cwV 1 hts g_x_tupleBrackets_eval_566 rfl rfl rfl hd_x_eval (by show (57 + e3) + 1 ≤ 57 + d ∧ 8 + (3 + 11) + (1375 + 27 * e3) ≤ 1375 + 27 * d; omega)) hK hG hA hP hD hS rfl hl.1 rfl (Nat.le_of_ble_eq_true rfl) dX12_tupleBrackets_34 ⟨Nat.le_refl _, Nat.le_refl _⟩ (fun H locs hP hD hS => ?_)
            refine lv_aload_n hx hb dX12_tupleBrackets_37 rfl (lv_at hl 0 rfl) ?_
            refine ng_56 hx hb hts in_x_tupleBrackets hown hK hP (hts _ (List.mem_cons_of_mem _ (List.mem_append_left _ (List.mem_append_left _ (List.mem_of_getElem? (i := 13) rfl))))) dX12_tupleBrackets_38 ?_
            refine lv_if_ne (tgt := 51) hx hb dX12_tupleBrackets_41 (by decide) (fun c4 => ?_) (fun c4 => ?_)
            · rw [if_neg c4] at h
              exact ih.2.2.1 L r3.2 r h H locs ls hP hD hS (lv_sub hl [0, 1, 2, 3, 4, 5] rfl)
            · rw [if_pos c4] at h
              refine lv_aload_n hx hb dX12_tupleBrackets_44 rfl (lv_at hl 0 rfl) ?_
              obtain ⟨r5, hc5, h⟩ := ob_ex h
              refine nc_Vi (As := []) (rest := []) ⟨hx, hb, hml, hown, hts⟩ (c_x_pop l dC dI cy a k (fun _ => 0) r3.2 r5 hc5 H.size) (cwV 0 hts g_x_tupleBrackets_pop_572 rfl rfl rfl hd_x_pop (by show 0 + 1 ≤ 57 + d ∧ 8 + (1 + 11) + 0 ≤ 1375 + 27 * d; omega)) hK hG hA hP hD hS rfl hl.1 rfl (Nat.le_of_ble_eq_true rfl) dX12_tupleBrackets_45 ⟨Nat.le_refl _, Nat.le_refl _⟩ (fun H locs hP hD hS => ?_)
              refine lv_goto (tgt := 52) hx hb dX12_tupleBrackets_48 (by decide) ?_
              exact ih.2.2.2.1 (upd L 100 r5.1) r5.2 r h H locs ls hP hD hS (lv_sub hl [0, 1, 2, 3, 4, 5] rfl)
      · intro L σ r h H locs ls hP hD hS hl
        rw [x_GV_12, s_tupleBrackets_2] at h
        refine lv_iconst (v := 0) hx hb dX12_tupleBrackets_51 (by decide) ?_
        exact ih.2.2.2.1 (upd L 100 0) σ r h H locs ls hP hD hS (lv_sub hl [0, 1, 2, 3, 4, 5] rfl)
      · intro L σ r h H locs ls hP hD hS hl
        rw [x_GV_12, s_tupleBrackets_3] at h
        refine lv_istore (lv' := [(6, .int (L 100)), (0, .ref (a 0)), (1, .int (L 1)), (2, .int (L 2)), (3, .int (L 3)), (4, .int (L 4)), (5, .int (L 5))]) hx hb dX12_tupleBrackets_52 hl (by decide) rfl (fun ls hl => ?_)
        refine lv_iload hx hb dX12_tupleBrackets_54 (lv_at hl 0 rfl) ?_
        refine lv_if_ne (tgt := 65) hx hb dX12_tupleBrackets_56 (by decide) (fun c1 => ?_) (fun c1 => ?_)
        · rw [if_neg c1] at h
          exact ih.2.2.2.2.1 (upd L 6 ((L 100))) σ r h H locs ls hP hD hS (lv_sub hl [1, 2, 3, 4, 5, 6, 0] rfl)
        · rw [if_pos c1] at h
          refine lv_iinc (v := ((L 4)) + 1) (lv' := [(4, .int (((L 4)) + 1)), (6, .int (L 100)), (0, .ref (a 0)), (1, .int (L 1)), (2, .int (L 2)), (3, .int (L 3)), (5, .int (L 5))]) hx hb dX12_tupleBrackets_59 hl (k := 5) rfl rfl (by decide) rfl (fun ls hl => ?_)
          refine lv_goto (tgt := 121) hx hb dX12_tupleBrackets_62 (by decide) ?_
          exact ih.2.2.2.2.2.2.2.1 (upd (upd L 6 ((L 100))) 4 (((L 4)) + 1)) σ r h H locs ls hP hD hS (lv_sub hl [2, 3, 4, 5, 0, 6, 1] rfl)
      · intro L σ r h H locs ls hP hD hS hl
        rw [x_GV_12, s_tupleBrackets_4] at h
        refine lv_iload_n hx hb dX12_tupleBrackets_65 rfl (lv_at hl 3 rfl) ?_
        refine lv_sipush (v := 1000) hx hb dX12_tupleBrackets_66 (by decide) ?_
        refine lv_icmp_gt (tgt := 121) hx hb dX12_tupleBrackets_69 (by decide) (fun c1 => ?_) (fun c1 => ?_)
        · rw [if_pos c1] at h
          exact ih.2.2.2.2.2.2.2.1 L σ r h H locs ls hP hD hS (lv_sub hl [0, 1, 2, 3, 4, 5, 6] rfl)
        · rw [if_neg c1] at h
          refine lv_iload_n hx hb dX12_tupleBrackets_72 rfl (lv_at hl 3 rfl) ?_
          refine lv_iload hx hb dX12_tupleBrackets_73 (lv_at hl 4 rfl) ?_
          refine lv_aload_n hx hb dX12_tupleBrackets_75 rfl (lv_at hl 0 rfl) ?_
          refine lv_iload hx hb dX12_tupleBrackets_76 (lv_at hl 6 rfl) ?_
          obtain ⟨r2, hc2, h⟩ := ob_ex h
          refine nc_Vi (As := [.int (L 6)]) (rest := [.int (L 4), .int (L 3)]) ⟨hx, hb, hml, hown, hts⟩ (c_x_size l dC dI cy a k (upd (fun _ => 0) 1 ((L 6))) σ r2 hc2 H.size) (cwV 1 hts g_x_tupleBrackets_size_432 rfl rfl rfl hd_x_size (by show 0 + 1 ≤ 57 + d ∧ 8 + (2 + 11) + 0 ≤ 1375 + 27 * d; omega)) hK hG hA hP hD hS rfl hl.1 rfl (Nat.le_of_ble_eq_true rfl) dX12_tupleBrackets_78 ⟨Nat.le_refl _, Nat.le_refl _⟩ (fun H locs hP hD hS => ?_)
          refine lv_iadd hx hb dX12_tupleBrackets_81 ?_
          refine lv_iadd hx hb dX12_tupleBrackets_82 ?_
          refine lv_istore_n (lv' := [(3, .int (((L 3)) + ((((L 4)) + r2.1)))), (0, .ref (a 0)), (1, .int (L 1)), (2, .int (L 2)), (4, .int (L 4)), (5, .int (L 5)), (6, .int (L 6))]) hx hb dX12_tupleBrackets_83 rfl hl (by decide) rfl (fun ls hl => ?_)
          refine lv_iconst (v := 0) hx hb dX12_tupleBrackets_84 (by decide) ?_
          refine lv_istore (lv' := [(7, .int 0), (3, .int (((L 3)) + ((((L 4)) + r2.1)))), (0, .ref (a 0)), (1, .int (L 1)), (2, .int (L 2)), (4, .int (L 4)), (5, .int (L 5)), (6, .int (L 6))]) hx hb dX12_tupleBrackets_85 hl (by decide) rfl (fun ls hl => ?_)
          exact ih.2.2.2.2.2.1 (upd (upd L 3 ((((L 3)) + ((((L 4)) + r2.1))))) 7 0) r2.2 r h H locs ls hP hD hS (lv_sub hl [2, 3, 4, 1, 5, 6, 7, 0] rfl)
      · intro L σ r h H locs ls hP hD hS hl
        rw [x_GV_12, s_tupleBrackets_5] at h
        refine lv_iload hx hb dX12_tupleBrackets_87 (lv_at hl 7 rfl) ?_
        refine lv_iload hx hb dX12_tupleBrackets_89 (lv_at hl 4 rfl) ?_
        refine lv_icmp_ge (tgt := 112) hx hb dX12_tupleBrackets_91 (by decide) (fun c1 => ?_) (fun c1 => ?_)
        · rw [if_pos c1] at h
          exact ih.2.2.2.2.2.2.1 L σ r h H locs ls hP hD hS (lv_sub hl [0, 1, 2, 3, 4, 5, 6, 7] rfl)
        · rw [if_neg c1] at h
          refine lv_iload_n hx hb dX12_tupleBrackets_94 rfl (lv_at hl 3 rfl) ?_
          refine lv_sipush (v := 1000) hx hb dX12_tupleBrackets_95 (by decide) ?_
          refine lv_icmp_gt (tgt := 112) hx hb dX12_tupleBrackets_98 (by decide) (fun c2 => ?_) (fun c2 => ?_)
          · rw [if_pos c2] at h
            exact ih.2.2.2.2.2.2.1 L σ r h H locs ls hP hD hS (lv_sub hl [0, 1, 2, 3, 4, 5, 6, 7] rfl)
          · rw [if_neg c2] at h
            refine lv_aload_n hx hb dX12_tupleBrackets_101 rfl (lv_at hl 0 rfl) ?_
            refine lv_iconst (v := 0) hx hb dX12_tupleBrackets_102 (by decide) ?_
            obtain ⟨r3, hc3, h⟩ := ob_ex h
            refine nc_Vv (As := [.int 0]) (rest := []) ⟨hx, hb, hml, hown, hts⟩ (c_x_push l dC dI cy a k (upd (fun _ => 0) 1 0) σ r3 hc3 H.size) (cwV 1 hts g_x_tupleBrackets_push_594 rfl rfl rfl hd_x_push (by show 0 + 1 ≤ 57 + d ∧ 8 + (2 + 11) + 0 ≤ 1375 + 27 * d; omega)) hK hG hA hP hD hS rfl hl.1 rfl (Nat.le_of_ble_eq_true rfl) dX12_tupleBrackets_103 ⟨Nat.le_refl _, Nat.le_refl _⟩ (fun H locs hP hD hS => ?_)
            refine lv_iinc (v := ((L 7)) + 1) (lv' := [(7, .int (((L 7)) + 1)), (0, .ref (a 0)), (1, .int (L 1)), (2, .int (L 2)), (3, .int (L 3)), (4, .int (L 4)), (5, .int (L 5)), (6, .int (L 6))]) hx hb dX12_tupleBrackets_106 hl (k := 7) rfl rfl (by decide) rfl (fun ls hl => ?_)
            refine lv_goto (tgt := 87) hx hb dX12_tupleBrackets_109 (by decide) ?_
            exact ih.2.2.2.2.2.1 (upd L 7 (((L 7)) + 1)) r3.2 r h H locs ls hP hD hS (lv_sub hl [1, 2, 3, 4, 5, 6, 7, 0] rfl)
      · intro L σ r h H locs ls hP hD hS hl
        rw [x_GV_12, s_tupleBrackets_6] at h
        refine lv_aload_n hx hb dX12_tupleBrackets_112 rfl (lv_at hl 0 rfl) ?_
        refine lv_iload hx hb dX12_tupleBrackets_113 (lv_at hl 6 rfl) ?_
        obtain ⟨r1, hc1, h⟩ := ob_ex h
        refine nc_Vv (As := [.int (L 6)]) (rest := []) ⟨hx, hb, hml, hown, hts⟩ (c_x_push l dC dI cy a k (upd (fun _ => 0) 1 ((L 6))) σ r1 hc1 H.size) (cwV 1 hts g_x_tupleBrackets_push_594 rfl rfl rfl hd_x_push (by show 0 + 1 ≤ 57 + d ∧ 8 + (2 + 11) + 0 ≤ 1375 + 27 * d; omega)) hK hG hA hP hD hS rfl hl.1 rfl (Nat.le_of_ble_eq_true rfl) dX12_tupleBrackets_115 ⟨Nat.le_refl _, Nat.le_refl _⟩ (fun H locs hP hD hS => ?_)
        refine lv_iconst (v := 0) hx hb dX12_tupleBrackets_118 (by decide) ?_
        refine lv_istore (lv' := [(4, .int 0), (0, .ref (a 0)), (1, .int (L 1)), (2, .int (L 2)), (3, .int (L 3)), (5, .int (L 5)), (6, .int (L 6)), (7, .int (L 7))]) hx hb dX12_tupleBrackets_119 hl (by decide) rfl (fun ls hl => ?_)
        exact ih.2.2.2.2.2.2.2.1 (upd L 4 0) r1.2 r h H locs ls hP hD hS (lv_sub hl [1, 2, 3, 4, 0, 5, 6] rfl)
      · intro L σ r h H locs ls hP hD hS hl
        rw [x_GV_12, s_tupleBrackets_7] at h
        refine lv_aload_n hx hb dX12_tupleBrackets_121 rfl (lv_at hl 0 rfl) ?_
        refine lv_iload_n hx hb dX12_tupleBrackets_122 rfl (lv_at hl 3 rfl) ?_
        refine lv_sipush (v := 1000) hx hb dX12_tupleBrackets_123 (by decide) ?_
        refine lv_icmp_le (tgt := 133) hx hb dX12_tupleBrackets_126 (by decide) (fun c1 => ?_) (fun c1 => ?_)
        · rw [if_pos c1] at h
          exact ih.2.2.2.2.2.2.2.2.1 L σ r h H locs ls hP hD hS (lv_sub hl [0, 1, 2, 3, 4, 5, 6] rfl)
        · rw [if_neg c1] at h
          refine lv_iload_n hx hb dX12_tupleBrackets_129 rfl (lv_at hl 2 rfl) ?_
          refine lv_goto (tgt := 137) hx hb dX12_tupleBrackets_130 (by decide) ?_
          exact ih.2.2.2.2.2.2.2.2.2.1 (upd L 100 ((L 2))) σ r h H locs ls hP hD hS (lv_sub hl [0, 1, 2, 3, 4, 5, 6] rfl)
      · intro L σ r h H locs ls hP hD hS hl
        rw [x_GV_12, s_tupleBrackets_8] at h
        refine lv_aload_n hx hb dX12_tupleBrackets_133 rfl (lv_at hl 0 rfl) ?_
        refine ng_59 hx hb hts in_x_tupleBrackets hown hK hP (hts _ (List.mem_cons_of_mem _ (List.mem_append_left _ (List.mem_append_left _ (List.mem_of_getElem? (i := 76) rfl))))) dX12_tupleBrackets_134 ?_
        exact ih.2.2.2.2.2.2.2.2.2.1 (upd L 100 ((σ.1 59))) σ r h H locs ls hP hD hS (lv_sub hl [0, 1, 2, 3, 4, 5, 6] rfl)
      · intro L σ r h H locs ls hP hD hS hl
        rw [x_GV_12, s_tupleBrackets_9] at h
        refine np_59 hx hb hts in_x_tupleBrackets hown hK hP hD hS (hts _ (List.mem_cons_of_mem _ (List.mem_append_left _ (List.mem_append_left _ (List.mem_of_getElem? (i := 76) rfl))))) dX12_tupleBrackets_137 (fun H locs hP hD hS => ?_)
        exact ih.2.2.2.2.2.2.2.2.2.2.1 L (upd σ.1 59 ((L 100)), σ.2.1, σ.2.2) r h H locs ls hP hD hS (lv_sub hl [0, 1, 2, 3, 4, 5, 6] rfl)
      · intro L σ r h H locs ls hP hD hS hl
        rw [x_GV_12, s_tupleBrackets_10] at h
        refine lv_aload_n hx hb dX12_tupleBrackets_140 rfl (lv_at hl 0 rfl) ?_
        refine ng_19 hx hb hts in_x_tupleBrackets hown hK hP (hts _ (List.mem_cons_of_mem _ (List.mem_append_left _ (List.mem_append_left _ (List.mem_of_getElem? (i := 77) rfl))))) dX12_tupleBrackets_141 ?_
        refine lv_iload hx hb dX12_tupleBrackets_144 (lv_at hl 5 rfl) ?_
        obtain ⟨q1, h⟩ := nb_ite1 h
        refine nl_9 hx hb hK hP q1 dX12_tupleBrackets_146 ?_
        refine lv_istore (lv' := [(5, .int (σ.2.2 9 ((L 5)).toNatClampNeg)), (0, .ref (a 0)), (1, .int (L 1)), (2, .int (L 2)), (3, .int (L 3)), (4, .int (L 4)), (6, .int (L 6))]) hx hb dX12_tupleBrackets_147 hl (by decide) rfl (fun ls hl => ?_)
        refine lv_goto (tgt := 18) hx hb dX12_tupleBrackets_149 (by decide) ?_
        exact ih.2.1 (upd L 5 ((σ.2.2 9 ((L 5)).toNatClampNeg))) σ r h H locs ls hP hD hS (lv_sub hl [1, 2, 3, 4, 5, 0] rfl)
      · intro L σ r h H locs ls hP hD hS hl
        rw [x_GV_12, s_tupleBrackets_11] at h
        refine lv_aload_n hx hb dX12_tupleBrackets_152 rfl (lv_at hl 0 rfl) ?_
        refine ng_56 hx hb hts in_x_tupleBrackets hown hK hP (hts _ (List.mem_cons_of_mem _ (List.mem_append_left _ (List.mem_append_left _ (List.mem_of_getElem? (i := 13) rfl))))) dX12_tupleBrackets_153 ?_
        refine lv_if_ne (tgt := 171) hx hb dX12_tupleBrackets_156 (by decide) (fun c1 => ?_) (fun c1 => ?_)
        · rw [if_neg c1] at h
          exact ih.2.2.2.2.2.2.2.2.2.2.2.2.1 L σ r h H locs ls hP hD hS (lv_sub hl [0, 1, 2, 3, 4, 5] rfl)
        · rw [if_pos c1] at h
          refine lv_iload_n hx hb dX12_tupleBrackets_159 rfl (lv_at hl 3 rfl) ?_
          refine lv_sipush (v := 1000) hx hb dX12_tupleBrackets_160 (by decide) ?_
          refine lv_icmp_le (tgt := 171) hx hb dX12_tupleBrackets_163 (by decide) (fun c2 => ?_) (fun c2 => ?_)
          · rw [if_pos c2] at h
            exact ih.2.2.2.2.2.2.2.2.2.2.2.2.1 L σ r h H locs ls hP hD hS (lv_sub hl [0, 1, 2, 3, 4, 5] rfl)
          · rw [if_neg c2] at h
            refine lv_aload_n hx hb dX12_tupleBrackets_166 rfl (lv_at hl 0 rfl) ?_
            refine lv_iconst (v := 5) hx hb dX12_tupleBrackets_167 (by decide) ?_
            obtain ⟨r3, hc3, h⟩ := ob_ex h
            refine nc_Vv (As := [.int 5]) (rest := []) ⟨hx, hb, hml, hown, hts⟩ (c_x_fail l dC dI cy a k (upd (fun _ => 0) 1 5) σ r3 hc3 H.size) (cwV 1 hts g_x_tupleBrackets_fail_369 rfl rfl rfl hd_x_fail (by show 0 + 1 ≤ 57 + d ∧ 8 + (2 + 11) + 0 ≤ 1375 + 27 * d; omega)) hK hG hA hP hD hS rfl hl.1 rfl (Nat.le_of_ble_eq_true rfl) dX12_tupleBrackets_168 ⟨Nat.le_refl _, Nat.le_refl _⟩ (fun H locs hP hD hS => ?_)
            exact ih.2.2.2.2.2.2.2.2.2.2.2.2.1 L r3.2 r h H locs ls hP hD hS (lv_sub hl [0, 1, 2, 3, 4, 5] rfl)
      · intro L σ r h H locs ls hP hD hS hl
        rw [x_GV_12, s_tupleBrackets_12] at h
        refine lv_aload_n hx hb dX12_tupleBrackets_171 rfl (lv_at hl 0 rfl) ?_
        refine ng_56 hx hb hts in_x_tupleBrackets hown hK hP (hts _ (List.mem_cons_of_mem _ (List.mem_append_left _ (List.mem_append_left _ (List.mem_of_getElem? (i := 13) rfl))))) dX12_tupleBrackets_172 ?_
        refine lv_if_ne (tgt := 198) hx hb dX12_tupleBrackets_175 (by decide) (fun c1 => ?_) (fun c1 => ?_)
        · rw [if_neg c1] at h
          exact ih.2.2.2.2.2.2.2.2.2.2.2.2.2 L σ r h H locs ls hP hD hS (lv_sub hl [0, 1, 2, 3, 4, 5] rfl)
        · rw [if_pos c1] at h
          refine lv_aload_n hx hb dX12_tupleBrackets_178 rfl (lv_at hl 0 rfl) ?_
          refine lv_ldcw (v := 780000) hx hb hown (hts _ (List.mem_cons_of_mem _ (List.mem_append_left _ (List.mem_append_left _ (List.mem_of_getElem? (i := 15) rfl))))) dX12_tupleBrackets_179 ?_
          obtain ⟨r2, hc2, h⟩ := ob_ex h
          refine nc_Vv (As := [.int 780000]) (rest := []) ⟨hx, hb, hml, hown, hts⟩ (c_x_sweep l dC dI cy a k (upd (fun _ => 0) 1 780000) σ r2 hc2 H.size) (cwV 1 hts g_x_tupleBrackets_sweep_585 rfl rfl rfl hd_x_sweep (by show 3 + 1 ≤ 57 + d ∧ 8 + (5 + 11) + 70 ≤ 1375 + 27 * d; omega)) hK hG hA hP hD hS rfl hl.1 rfl (Nat.le_of_ble_eq_true rfl) dX12_tupleBrackets_182 ⟨Nat.le_refl _, Nat.le_refl _⟩ (fun H locs hP hD hS => ?_)
          refine lv_aload_n hx hb dX12_tupleBrackets_185 rfl (lv_at hl 0 rfl) ?_
          refine lv_aload_n hx hb dX12_tupleBrackets_186 rfl (lv_at hl 0 rfl) ?_
          refine lv_aload_n hx hb dX12_tupleBrackets_187 rfl (lv_at hl 0 rfl) ?_
          refine lv_iload_n hx hb dX12_tupleBrackets_188 rfl (lv_at hl 2 rfl) ?_
          obtain ⟨r3, hc3, h⟩ := ob_ex h
          refine nc_Vi (As := [.int (L 2)]) (rest := [.ref (a 0), .ref (a 0)]) ⟨hx, hb, hml, hown, hts⟩ (c_x_tupleOf l dC dI cy a k (upd (fun _ => 0) 1 ((L 2))) r2.2 r3 hc3 H.size) (cwV 1 hts g_x_tupleBrackets_tupleOf_675 rfl rfl rfl hd_x_tupleOf (by show 3 + 1 ≤ 57 + d ∧ 8 + (5 + 11) + 68 ≤ 1375 + 27 * d; omega)) hK hG hA hP hD hS rfl hl.1 rfl (Nat.le_of_ble_eq_true rfl) dX12_tupleBrackets_189 ⟨Nat.le_refl _, Nat.le_refl _⟩ (fun H locs hP hD hS => ?_)
          obtain ⟨r4, hc4, h⟩ := ob_ex h
          refine nc_Vi (As := [.int r3.1]) (rest := [.ref (a 0)]) ⟨hx, hb, hml, hown, hts⟩ (c_x_answer l dC dI cy a k (upd (fun _ => 0) 1 r3.1) r3.2 r4 hc4 H.size) (cwV 1 hts g_x_tupleBrackets_answer_591 rfl rfl rfl hd_x_answer (by show 2 + 1 ≤ 57 + d ∧ 8 + (2 + 11) + 42 ≤ 1375 + 27 * d; omega)) hK hG hA hP hD hS rfl hl.1 rfl (Nat.le_of_ble_eq_true rfl) dX12_tupleBrackets_192 ⟨Nat.le_refl _, Nat.le_refl _⟩ (fun H locs hP hD hS => ?_)
          obtain ⟨r5, hc5, h⟩ := ob_ex h
          refine nc_Vv (As := [.int r4.1]) (rest := []) ⟨hx, hb, hml, hown, hts⟩ (c_x_push l dC dI cy a k (upd (fun _ => 0) 1 r4.1) r4.2 r5 hc5 H.size) (cwV 1 hts g_x_tupleBrackets_push_594 rfl rfl rfl hd_x_push (by show 0 + 1 ≤ 57 + d ∧ 8 + (2 + 11) + 0 ≤ 1375 + 27 * d; omega)) hK hG hA hP hD hS rfl hl.1 rfl (Nat.le_of_ble_eq_true rfl) dX12_tupleBrackets_195 ⟨Nat.le_refl _, Nat.le_refl _⟩ (fun H locs hP hD hS => ?_)
          exact ih.2.2.2.2.2.2.2.2.2.2.2.2.2 L r5.2 r h H locs ls hP hD hS (lv_sub hl [0, 1, 2, 3, 4, 5] rfl)
      · intro L σ r h H locs ls hP hD hS hl
        rw [x_GV_12, s_tupleBrackets_13] at h
        cases h
        exact W.vret hx hb hr (fun t ht hW => ⟨⟨(), rfl, trivial, by rw [ht]; exact hP, va_K.moved hW.alike hK, hD⟩, hS.F ht⟩) hS.2.2 dX12_tupleBrackets_198
  exact (blk k0 (Nat.le_refl _)).1 L0 σ0 r0 h0 s.heap [] ls hP hD hS hl
theorem c_GV (l : Launch) (dC : Nat → ClassId) (dI : Nat → Nat → Nat) (cy : Nat → ClassId) (a : Nat → Nat) : ∀ k0 : Nat, P_GV l dC dI cy a k0 := by
  intro k0
  induction k0 using Nat.strongRecOn with
  | ind k0 IH => exact ⟨c_s_begins l dC dI cy a k0 IH, c_s_bounds l dC dI cy a k0 IH, c_s_callFunc l dC dI cy a k0 IH, c_s_choose l dC dI cy a k0 IH, c_s_eval l dC dI cy a k0 IH, c_s_former l dC dI cy a k0 IH, c_s_goOn l dC dI cy a k0 IH, c_s_goesOn l dC dI cy a k0 IH, c_s_holds l dC dI cy a k0 IH, c_s_openIter l dC dI cy a k0 IH, c_s_quantify l dC dI cy a k0 IH, c_s_setBrackets l dC dI cy a k0 IH, c_s_tupleBrackets l dC dI cy a k0 IH⟩
def x_begins (k b : Nat) (L : Nat → Int32) (σ : MS) : Option (Int32 × MS) := x_GV k 1300 0 b L σ
theorem c_x_begins (l : Launch) (dC : Nat → ClassId) (dI : Nat → Nat → Nat) (cy : Nat → ClassId) (a : Nat → Nat) (k0 : Nat) (L0 : Nat → Int32) (σ0 : MS) (r0 : Int32 × MS) (h0 : x_begins k0 0 L0 σ0 = some r0) (sz : Nat) : Met l yX12_begins w_x_begins ({ frames := 1357, cells := 0, slots := 0, locals := 36475 }) (va_Pc [.ref (a 0), .int (L0 1)] (nIn (dC, dI) cy sz (vM cy a σ0))) (va_Qv (fun _ : Unit => True) (fun _ t => nOut (dC, dI) cy (va_A (vM cy a σ0) sz) (vM cy a r0.2) t) (va_A (vM cy a σ0) sz)) 0 0 (va_A (vM cy a σ0) sz) := (c_GV l dC dI cy a k0).1 1300 L0 σ0 r0 h0 sz
def x_bounds (k b : Nat) (L : Nat → Int32) (σ : MS) : Option (Int32 × MS) := x_GV k 1300 1 b L σ
theorem c_x_bounds (l : Launch) (dC : Nat → ClassId) (dI : Nat → Nat → Nat) (cy : Nat → ClassId) (a : Nat → Nat) (k0 : Nat) (L0 : Nat → Int32) (σ0 : MS) (r0 : Int32 × MS) (h0 : x_bounds k0 0 L0 σ0 = some r0) (sz : Nat) : Met l yX12_bounds w_x_bounds ({ frames := 1357, cells := 0, slots := 0, locals := 36475 }) (va_Pc [.ref (a 0), .int (L0 1)] (nIn (dC, dI) cy sz (vM cy a σ0))) (va_Qv (fun _ : Unit => True) (fun _ t => nOut (dC, dI) cy (va_A (vM cy a σ0) sz) (vM cy a r0.2) t) (va_A (vM cy a σ0) sz)) 0 0 (va_A (vM cy a σ0) sz) := (c_GV l dC dI cy a k0).2.1 1300 L0 σ0 r0 h0 sz
def x_callFunc (k b : Nat) (L : Nat → Int32) (σ : MS) : Option (Int32 × MS) := x_GV k 1300 2 b L σ
theorem c_x_callFunc (l : Launch) (dC : Nat → ClassId) (dI : Nat → Nat → Nat) (cy : Nat → ClassId) (a : Nat → Nat) (k0 : Nat) (L0 : Nat → Int32) (σ0 : MS) (r0 : Int32 × MS) (h0 : x_callFunc k0 0 L0 σ0 = some r0) (sz : Nat) : Met l yX12_callFunc w_x_callFunc ({ frames := 1357, cells := 0, slots := 0, locals := 36475 }) (va_Pc [.ref (a 0), .int (L0 1)] (nIn (dC, dI) cy sz (vM cy a σ0))) (va_Qv (fun _ : Unit => True) (fun _ t => nOut (dC, dI) cy (va_A (vM cy a σ0) sz) (vM cy a r0.2) t) (va_A (vM cy a σ0) sz)) 0 0 (va_A (vM cy a σ0) sz) := (c_GV l dC dI cy a k0).2.2.1 1300 L0 σ0 r0 h0 sz
def x_choose (k b : Nat) (L : Nat → Int32) (σ : MS) : Option (Int32 × MS) := x_GV k 1300 3 b L σ
theorem c_x_choose (l : Launch) (dC : Nat → ClassId) (dI : Nat → Nat → Nat) (cy : Nat → ClassId) (a : Nat → Nat) (k0 : Nat) (L0 : Nat → Int32) (σ0 : MS) (r0 : Int32 × MS) (h0 : x_choose k0 0 L0 σ0 = some r0) (sz : Nat) : Met l yX12_choose w_x_choose ({ frames := 1357, cells := 0, slots := 0, locals := 36475 }) (va_Pc [.ref (a 0), .int (L0 1)] (nIn (dC, dI) cy sz (vM cy a σ0))) (va_Qv (fun _ : Unit => True) (fun _ t => nOut (dC, dI) cy (va_A (vM cy a σ0) sz) (vM cy a r0.2) t) (va_A (vM cy a σ0) sz)) 0 0 (va_A (vM cy a σ0) sz) := (c_GV l dC dI cy a k0).2.2.2.1 1300 L0 σ0 r0 h0 sz
def x_eval (k b : Nat) (L : Nat → Int32) (σ : MS) : Option (Int32 × MS) := x_GV k 1300 4 b L σ
theorem c_x_eval (l : Launch) (dC : Nat → ClassId) (dI : Nat → Nat → Nat) (cy : Nat → ClassId) (a : Nat → Nat) (k0 : Nat) (L0 : Nat → Int32) (σ0 : MS) (r0 : Int32 × MS) (h0 : x_eval k0 0 L0 σ0 = some r0) (sz : Nat) : Met l yX12_eval w_x_eval ({ frames := 1357, cells := 0, slots := 0, locals := 36475 }) (va_Pc [.ref (a 0), .int (L0 1)] (nIn (dC, dI) cy sz (vM cy a σ0))) (va_Qv (fun _ : Unit => True) (fun _ t => nOut (dC, dI) cy (va_A (vM cy a σ0) sz) (vM cy a r0.2) t) (va_A (vM cy a σ0) sz)) 0 0 (va_A (vM cy a σ0) sz) := (c_GV l dC dI cy a k0).2.2.2.2.1 1300 L0 σ0 r0 h0 sz
def x_former (k b : Nat) (L : Nat → Int32) (σ : MS) : Option (Int32 × MS) := x_GV k 1300 5 b L σ
theorem c_x_former (l : Launch) (dC : Nat → ClassId) (dI : Nat → Nat → Nat) (cy : Nat → ClassId) (a : Nat → Nat) (k0 : Nat) (L0 : Nat → Int32) (σ0 : MS) (r0 : Int32 × MS) (h0 : x_former k0 0 L0 σ0 = some r0) (sz : Nat) : Met l yX12_former w_x_former ({ frames := 1357, cells := 0, slots := 0, locals := 36475 }) (va_Pc [.ref (a 0), .int (L0 1)] (nIn (dC, dI) cy sz (vM cy a σ0))) (va_Qv (fun _ : Unit => True) (fun _ t => nOut (dC, dI) cy (va_A (vM cy a σ0) sz) (vM cy a r0.2) t) (va_A (vM cy a σ0) sz)) 0 0 (va_A (vM cy a σ0) sz) := (c_GV l dC dI cy a k0).2.2.2.2.2.1 1300 L0 σ0 r0 h0 sz
def x_goOn (k b : Nat) (L : Nat → Int32) (σ : MS) : Option (Int32 × MS) := x_GV k 1300 6 b L σ
theorem c_x_goOn (l : Launch) (dC : Nat → ClassId) (dI : Nat → Nat → Nat) (cy : Nat → ClassId) (a : Nat → Nat) (k0 : Nat) (L0 : Nat → Int32) (σ0 : MS) (r0 : Int32 × MS) (h0 : x_goOn k0 0 L0 σ0 = some r0) (sz : Nat) : Met l yX12_goOn w_x_goOn ({ frames := 1357, cells := 0, slots := 0, locals := 36475 }) (va_Pc [.ref (a 0), .int (L0 1), .int (L0 2), .int (L0 3)] (nIn (dC, dI) cy sz (vM cy a σ0))) (va_Qi (fun (z : Int32) (_ : Unit) => z = r0.1) (fun _ t => nOut (dC, dI) cy (va_A (vM cy a σ0) sz) (vM cy a r0.2) t) (va_A (vM cy a σ0) sz)) 0 0 (va_A (vM cy a σ0) sz) := (c_GV l dC dI cy a k0).2.2.2.2.2.2.1 1300 L0 σ0 r0 h0 sz
def x_goesOn (k b : Nat) (L : Nat → Int32) (σ : MS) : Option (Int32 × MS) := x_GV k 1300 7 b L σ
theorem c_x_goesOn (l : Launch) (dC : Nat → ClassId) (dI : Nat → Nat → Nat) (cy : Nat → ClassId) (a : Nat → Nat) (k0 : Nat) (L0 : Nat → Int32) (σ0 : MS) (r0 : Int32 × MS) (h0 : x_goesOn k0 0 L0 σ0 = some r0) (sz : Nat) : Met l yX12_goesOn w_x_goesOn ({ frames := 1357, cells := 0, slots := 0, locals := 36475 }) (va_Pc [.ref (a 0), .int (L0 1)] (nIn (dC, dI) cy sz (vM cy a σ0))) (va_Qv (fun _ : Unit => True) (fun _ t => nOut (dC, dI) cy (va_A (vM cy a σ0) sz) (vM cy a r0.2) t) (va_A (vM cy a σ0) sz)) 0 0 (va_A (vM cy a σ0) sz) := (c_GV l dC dI cy a k0).2.2.2.2.2.2.2.1 1300 L0 σ0 r0 h0 sz
def x_holds (k b : Nat) (L : Nat → Int32) (σ : MS) : Option (Int32 × MS) := x_GV k 1300 8 b L σ
theorem c_x_holds (l : Launch) (dC : Nat → ClassId) (dI : Nat → Nat → Nat) (cy : Nat → ClassId) (a : Nat → Nat) (k0 : Nat) (L0 : Nat → Int32) (σ0 : MS) (r0 : Int32 × MS) (h0 : x_holds k0 0 L0 σ0 = some r0) (sz : Nat) : Met l yX12_holds w_x_holds ({ frames := 1357, cells := 0, slots := 0, locals := 36475 }) (va_Pc [.ref (a 0), .int (L0 1)] (nIn (dC, dI) cy sz (vM cy a σ0))) (va_Qi (fun (z : Int32) (_ : Unit) => z = r0.1) (fun _ t => nOut (dC, dI) cy (va_A (vM cy a σ0) sz) (vM cy a r0.2) t) (va_A (vM cy a σ0) sz)) 0 0 (va_A (vM cy a σ0) sz) := (c_GV l dC dI cy a k0).2.2.2.2.2.2.2.2.1 1300 L0 σ0 r0 h0 sz
def x_openIter (k b : Nat) (L : Nat → Int32) (σ : MS) : Option (Int32 × MS) := x_GV k 1300 9 b L σ
theorem c_x_openIter (l : Launch) (dC : Nat → ClassId) (dI : Nat → Nat → Nat) (cy : Nat → ClassId) (a : Nat → Nat) (k0 : Nat) (L0 : Nat → Int32) (σ0 : MS) (r0 : Int32 × MS) (h0 : x_openIter k0 0 L0 σ0 = some r0) (sz : Nat) : Met l yX12_openIter w_x_openIter ({ frames := 1357, cells := 0, slots := 0, locals := 36475 }) (va_Pc [.ref (a 0), .int (L0 1)] (nIn (dC, dI) cy sz (vM cy a σ0))) (va_Qv (fun _ : Unit => True) (fun _ t => nOut (dC, dI) cy (va_A (vM cy a σ0) sz) (vM cy a r0.2) t) (va_A (vM cy a σ0) sz)) 0 0 (va_A (vM cy a σ0) sz) := (c_GV l dC dI cy a k0).2.2.2.2.2.2.2.2.2.1 1300 L0 σ0 r0 h0 sz
def x_quantify (k b : Nat) (L : Nat → Int32) (σ : MS) : Option (Int32 × MS) := x_GV k 1300 10 b L σ
theorem c_x_quantify (l : Launch) (dC : Nat → ClassId) (dI : Nat → Nat → Nat) (cy : Nat → ClassId) (a : Nat → Nat) (k0 : Nat) (L0 : Nat → Int32) (σ0 : MS) (r0 : Int32 × MS) (h0 : x_quantify k0 0 L0 σ0 = some r0) (sz : Nat) : Met l yX12_quantify w_x_quantify ({ frames := 1357, cells := 0, slots := 0, locals := 36475 }) (va_Pc [.ref (a 0), .int (L0 1)] (nIn (dC, dI) cy sz (vM cy a σ0))) (va_Qv (fun _ : Unit => True) (fun _ t => nOut (dC, dI) cy (va_A (vM cy a σ0) sz) (vM cy a r0.2) t) (va_A (vM cy a σ0) sz)) 0 0 (va_A (vM cy a σ0) sz) := (c_GV l dC dI cy a k0).2.2.2.2.2.2.2.2.2.2.1 1300 L0 σ0 r0 h0 sz
def x_setBrackets (k b : Nat) (L : Nat → Int32) (σ : MS) : Option (Int32 × MS) := x_GV k 1300 11 b L σ
theorem c_x_setBrackets (l : Launch) (dC : Nat → ClassId) (dI : Nat → Nat → Nat) (cy : Nat → ClassId) (a : Nat → Nat) (k0 : Nat) (L0 : Nat → Int32) (σ0 : MS) (r0 : Int32 × MS) (h0 : x_setBrackets k0 0 L0 σ0 = some r0) (sz : Nat) : Met l yX12_setBrackets w_x_setBrackets ({ frames := 1357, cells := 0, slots := 0, locals := 36475 }) (va_Pc [.ref (a 0), .int (L0 1)] (nIn (dC, dI) cy sz (vM cy a σ0))) (va_Qv (fun _ : Unit => True) (fun _ t => nOut (dC, dI) cy (va_A (vM cy a σ0) sz) (vM cy a r0.2) t) (va_A (vM cy a σ0) sz)) 0 0 (va_A (vM cy a σ0) sz) := (c_GV l dC dI cy a k0).2.2.2.2.2.2.2.2.2.2.2.1 1300 L0 σ0 r0 h0 sz
def x_tupleBrackets (k b : Nat) (L : Nat → Int32) (σ : MS) : Option (Int32 × MS) := x_GV k 1300 12 b L σ
theorem c_x_tupleBrackets (l : Launch) (dC : Nat → ClassId) (dI : Nat → Nat → Nat) (cy : Nat → ClassId) (a : Nat → Nat) (k0 : Nat) (L0 : Nat → Int32) (σ0 : MS) (r0 : Int32 × MS) (h0 : x_tupleBrackets k0 0 L0 σ0 = some r0) (sz : Nat) : Met l yX12_tupleBrackets w_x_tupleBrackets ({ frames := 1357, cells := 0, slots := 0, locals := 36475 }) (va_Pc [.ref (a 0), .int (L0 1)] (nIn (dC, dI) cy sz (vM cy a σ0))) (va_Qv (fun _ : Unit => True) (fun _ t => nOut (dC, dI) cy (va_A (vM cy a σ0) sz) (vM cy a r0.2) t) (va_A (vM cy a σ0) sz)) 0 0 (va_A (vM cy a σ0) sz) := (c_GV l dC dI cy a k0).2.2.2.2.2.2.2.2.2.2.2.2 1300 L0 σ0 r0 h0 sz
/-! nameOf -/
def x_nameOf : Nat → Nat → (Nat → Int32) → MS → Option (Int32 × MS)
  | 0, _, _, _ => none
  | k + 1, 0, L, σ => x_nameOf k 1 (upd L 2 ((L 1))) σ
  | k + 1, 1, L, σ => if ¬ (((L 2)) < 0 ∨ 70000 ≤ ((L 2)).toNatClampNeg) then (if ((σ.2.2 4 ((L 2)).toNatClampNeg)) = 7 then (x_nameOf k 2 L σ) else (if ¬ (((L 2)) < 0 ∨ 70000 ≤ ((L 2)).toNatClampNeg) then (x_nameOf k 1 (upd L 2 ((σ.2.2 6 ((L 2)).toNatClampNeg))) σ) else none)) else none
  | k + 1, 2, L, σ => some ((L 2), σ)
  | _ + 1, _ + 3, _, _ => none
def o_x_nameOf : List Cond := [.fieldLink RX12 83 "SetHouseModel" "op" "[I", .fieldLink RX12 89 "SetHouseModel" "x2" "[I"]
theorem o_x_nameOf_good : o_x_nameOf.all goodWord = true := by decide +kernel
def p_x_nameOf : List Cond := o_x_nameOf ++ []
theorem p_x_nameOf_good : p_x_nameOf.all goodWord = true := nb_all2 o_x_nameOf_good rfl
def w_x_nameOf : List Cond := .code yX12_nameOf cX12_nameOf 3 (some .int) :: (p_x_nameOf ++ fM)
theorem w_x_nameOf_good : w_x_nameOf.all goodWord = true := nb_allc (by decide +kernel) (nb_all2 p_x_nameOf_good fM_good)
theorem in_x_nameOf : ∀ w ∈ wsX120, w ∈ w_x_nameOf := fun _ h => List.mem_cons_of_mem _ (List.mem_append_right _ h)
theorem hd_x_nameOf : yX12_nameOf.cls = RX12 ∧ yX12_nameOf.cls ≠ "java/lang/invoke/MethodHandle" ∧ yX12_nameOf.cls ≠ "java/lang/invoke/VarHandle" ∧ (parseMethodDescriptor yX12_nameOf.desc).map (fun d => d.parameters.length) = some 1 := by decide +kernel
set_option maxHeartbeats 40000000 in
set_option maxRecDepth 100000 in
theorem c_x_nameOf (l : Launch) (dC : Nat → ClassId) (dI : Nat → Nat → Nat) (cy : Nat → ClassId) (a : Nat → Nat) (k0 : Nat) (L0 : Nat → Int32) (σ0 : MS) (r0 : Int32 × MS) (h0 : x_nameOf k0 0 L0 σ0 = some r0) (sz : Nat) : Met l yX12_nameOf w_x_nameOf ({ frames := 0, cells := 0, slots := 0, locals := 0 }) (va_Pc [.ref (a 0), .int (L0 1)] (nIn (dC, dI) cy sz (vM cy a σ0))) (va_Qi (fun (z : Int32) (_ : Unit) => z = r0.1) (fun _ t => nOut (dC, dI) cy (va_A (vM cy a σ0) sz) (vM cy a r0.2) t) (va_A (vM cy a σ0) sz)) 0 0 (va_A (vM cy a σ0) sz) := by
  refine Met.ofW (cc := cX12_nameOf) (maxL := 3) (ret := (some .int)) (by decide) rfl ?_
  intro p e s m args below meth c s₁ B hml hv
  obtain ⟨rfl, hsz, hP, hK, hD0, hG⟩ := hv
  have hx := B.exec
  have hb := B.bytes
  have hr := B.returns
  have hts := atoms_spec (ws := w_x_nameOf) B.pre
  have hown : s.vm.findClass RX12 = some m.cls := findClass_of_methodNamed B.named
  have hlocks := B.notSynchronized
  subst hsz
  have hD := hD0.self (sz := s.heap.size)
  generalize hAe : va_A (vM cy a σ0) s.heap.size = A at hD ⊢
  have hA : ∀ q : Nat, s.heap.size ≤ q → A q := fun q h => by rw [← hAe]; exact Or.inr h
  have hS : va_S A s.heap s.heap [] := va_S.rf
  have hl := lv_entry ([.ref (a 0), .int (L0 1)]) (n := 3) (Nat.le_of_ble_eq_true rfl)
  rw [lg_entry_eq]
  generalize (lg_sl ([.ref (a 0), .int (L0 1)]) ++ List.replicate (3 - (lg_sl ([.ref (a 0), .int (L0 1)])).length) Slot.unset).toArray = ls at hl ⊢
  have hl : lv_has ls 3 [(0, .ref (a 0)), (1, .int (L0 1))] := hl
  have blk : ∀ k : Nat, (bT p l e (headSpec w_x_nameOf ({ frames := 0, cells := 0, slots := 0, locals := 0 })).room s m #[.ref (a 0), .int (L0 1)] below meth c dC dI cy a A (qI dC dI cy a A below #[.ref (a 0), .int (L0 1)] s) 3 (x_nameOf k 0) (fun L => [(0, .ref (a 0)), (1, .int (L 1))]) 0 (fun L => [])) ∧ (bT p l e (headSpec w_x_nameOf ({ frames := 0, cells := 0, slots := 0, locals := 0 })).room s m #[.ref (a 0), .int (L0 1)] below meth c dC dI cy a A (qI dC dI cy a A below #[.ref (a 0), .int (L0 1)] s) 3 (x_nameOf k 1) (fun L => [(0, .ref (a 0)), (1, .int (L 1)), (2, .int (L 2))]) 2 (fun L => [])) ∧ (bT p l e (headSpec w_x_nameOf ({ frames := 0, cells := 0, slots := 0, locals := 0 })).room s m #[.ref (a 0), .int (L0 1)] below meth c dC dI cy a A (qI dC dI cy a A below #[.ref (a 0), .int (L0 1)] s) 3 (x_nameOf k 2) (fun L => [(0, .ref (a 0)), (1, .int (L 1)), (2, .int (L 2))]) 23 (fun L => [])) := by
    intro k
    induction k with
    | zero => exact ⟨fun L σ r h => (by cases h), fun L σ r h => (by cases h), fun L σ r h => (by cases h)⟩
    | succ k ih =>
      refine ⟨?_, ?_, ?_⟩
      · intro L σ r h H locs ls hP hD hS hl
        rw [x_nameOf] at h
        refine lv_iload_n hx hb dX12_nameOf_0 rfl (lv_at hl 1 rfl) ?_
        refine lv_istore_n (lv' := [(2, .int (L 1)), (0, .ref (a 0)), (1, .int (L 1))]) hx hb dX12_nameOf_1 rfl hl (by decide) rfl (fun ls hl => ?_)
        exact ih.2.1 (upd L 2 ((L 1))) σ r h H locs ls hP hD hS (lv_sub hl [1, 2, 0] rfl)
      · intro L σ r h H locs ls hP hD hS hl
        rw [x_nameOf] at h
        refine lv_aload_n hx hb dX12_nameOf_2 rfl (lv_at hl 0 rfl) ?_
        refine ng_14 hx hb hts in_x_nameOf hown hK hP (hts _ (List.mem_cons_of_mem _ (List.mem_append_left _ (List.mem_append_left _ (List.mem_of_getElem? (i := 0) rfl))))) dX12_nameOf_3 ?_
        refine lv_iload_n hx hb dX12_nameOf_6 rfl (lv_at hl 2 rfl) ?_
        obtain ⟨q1, h⟩ := nb_ite1 h
        refine nl_4 hx hb hK hP q1 dX12_nameOf_7 ?_
        refine lv_bipush (v := 7) hx hb dX12_nameOf_8 (by decide) ?_
        refine lv_icmp_eq (tgt := 23) hx hb dX12_nameOf_10 (by decide) (fun c2 => ?_) (fun c2 => ?_)
        · rw [if_pos c2] at h
          exact ih.2.2 L σ r h H locs ls hP hD hS (lv_sub hl [0, 1, 2] rfl)
        · rw [if_neg c2] at h
          refine lv_aload_n hx hb dX12_nameOf_13 rfl (lv_at hl 0 rfl) ?_
          refine ng_16 hx hb hts in_x_nameOf hown hK hP (hts _ (List.mem_cons_of_mem _ (List.mem_append_left _ (List.mem_append_left _ (List.mem_of_getElem? (i := 1) rfl))))) dX12_nameOf_14 ?_
          refine lv_iload_n hx hb dX12_nameOf_17 rfl (lv_at hl 2 rfl) ?_
          obtain ⟨q3, h⟩ := nb_ite1 h
          refine nl_6 hx hb hK hP q3 dX12_nameOf_18 ?_
          refine lv_istore_n (lv' := [(2, .int (σ.2.2 6 ((L 2)).toNatClampNeg)), (0, .ref (a 0)), (1, .int (L 1))]) hx hb dX12_nameOf_19 rfl hl (by decide) rfl (fun ls hl => ?_)
          refine lv_goto (tgt := 2) hx hb dX12_nameOf_20 (by decide) ?_
          exact ih.2.1 (upd L 2 ((σ.2.2 6 ((L 2)).toNatClampNeg))) σ r h H locs ls hP hD hS (lv_sub hl [1, 2, 0] rfl)
      · intro L σ r h H locs ls hP hD hS hl
        rw [x_nameOf] at h
        refine lv_iload_n hx hb dX12_nameOf_23 rfl (lv_at hl 2 rfl) ?_
        cases h
        exact W.iret (v := (L 2)) hx hb hr (fun t ht hW => ⟨⟨(L 2), (), rfl, rfl, by rw [ht]; exact hP, va_K.moved hW.alike hK, hD⟩, hS.F ht⟩) hS.2.2 dX12_nameOf_24
  exact (blk k0).1 L0 σ0 r0 h0 s.heap [] ls hP hD hS hl
/-! workParts -/
def x_workParts : Nat → Nat → (Nat → Int32) → MS → Option (Int32 × MS)
  | 0, _, _, _ => none
  | k + 1, 0, L, σ => ob (x_nameOf k 0 (upd (fun _ => 0) 1 ((L 1))) σ) (fun r1 => x_workParts k 1 (upd L 2 r1.1) r1.2)
  | k + 1, 1, L, σ => if ((L 2)) = ((L 1)) then (x_workParts k 2 L σ) else (if ((σ.1 56)) = 0 then (if ¬ (((L 2)) < 0 ∨ 70000 ≤ ((L 2)).toNatClampNeg) then (if ¬ (((σ.2.2 9 ((L 2)).toNatClampNeg)) < 0 ∨ 70000 ≤ ((σ.2.2 9 ((L 2)).toNatClampNeg)).toNatClampNeg) then (ob (x_eval k 0 (upd (fun _ => 0) 1 ((σ.2.2 7 ((σ.2.2 9 ((L 2)).toNatClampNeg)).toNatClampNeg))) σ) (fun r5 => if ¬ (((σ.2.2 9 ((L 2)).toNatClampNeg)) < 0 ∨ 70000 ≤ ((σ.2.2 9 ((L 2)).toNatClampNeg)).toNatClampNeg) then (if ((r5.2.2.2 4 ((σ.2.2 9 ((L 2)).toNatClampNeg)).toNatClampNeg)) = 22 then (if ((r5.2.1 56)) = 0 then (if ¬ (((σ.2.2 9 ((L 2)).toNatClampNeg)) < 0 ∨ 70000 ≤ ((σ.2.2 9 ((L 2)).toNatClampNeg)).toNatClampNeg) then (ob (x_eval k 0 (upd (fun _ => 0) 1 ((r5.2.2.2 8 ((σ.2.2 9 ((L 2)).toNatClampNeg)).toNatClampNeg))) r5.2) (fun r10 => x_workParts k 1 (upd L 2 ((σ.2.2 9 ((L 2)).toNatClampNeg))) r10.2)) else none) else (x_workParts k 1 (upd L 2 ((σ.2.2 9 ((L 2)).toNatClampNeg))) r5.2)) else (x_workParts k 1 (upd L 2 ((σ.2.2 9 ((L 2)).toNatClampNeg))) r5.2)) else none)) else none) else none) else (x_workParts k 2 L σ))
  | k + 1, 2, L, σ => some (0, σ)
  | _ + 1, _ + 3, _, _ => none
def o_x_workParts : List Cond := [.methodLink RX12 818 yX12_nameOf, .instanceMethod yX12_nameOf, .selects RX12 yX12_nameOf yX12_nameOf, .initialized RX12, .fieldLink RX12 362 "SetHouseModel" "err" "I", .fieldLink RX12 98 "SetHouseModel" "next" "[I", .fieldLink RX12 92 "SetHouseModel" "x3" "[I", .methodLink RX12 566 yX12_eval, .instanceMethod yX12_eval, .selects RX12 yX12_eval yX12_eval, .fieldLink RX12 83 "SetHouseModel" "op" "[I", .fieldLink RX12 95 "SetHouseModel" "x4" "[I"]
theorem o_x_workParts_good : o_x_workParts.all goodWord = true := by decide +kernel
def p_x_workParts : List Cond := o_x_workParts ++ ((.code yX12_nameOf cX12_nameOf 3 (some .int) :: p_x_nameOf) ++ ((.code yX12_eval cX12_eval 3 none :: p_x_GV) ++ []))
theorem p_x_workParts_good : p_x_workParts.all goodWord = true := nb_all2 o_x_workParts_good (nb_all2 (nb_allc (by decide +kernel) p_x_nameOf_good) (nb_all2 (nb_allc (by decide +kernel) p_x_GV_good) rfl))
def w_x_workParts : List Cond := .code yX12_workParts cX12_workParts 3 none :: (p_x_workParts ++ fM)
theorem w_x_workParts_good : w_x_workParts.all goodWord = true := nb_allc (by decide +kernel) (nb_all2 p_x_workParts_good fM_good)
theorem in_x_workParts : ∀ w ∈ wsX120, w ∈ w_x_workParts := fun _ h => List.mem_cons_of_mem _ (List.mem_append_right _ h)
theorem hd_x_workParts : yX12_workParts.cls = RX12 ∧ yX12_workParts.cls ≠ "java/lang/invoke/MethodHandle" ∧ yX12_workParts.cls ≠ "java/lang/invoke/VarHandle" ∧ (parseMethodDescriptor yX12_workParts.desc).map (fun d => d.parameters.length) = some 1 := by decide +kernel
theorem gg_x_workParts_eval : GoodIn w_x_workParts w_x_eval := goodIn_sub (fun w h => (List.mem_cons.mp h).elim (fun e => (List.mem_cons_of_mem _ (List.mem_append_left _ (List.mem_append_right _ (List.mem_append_right _ (List.mem_append_left _ (List.mem_cons.mpr (Or.inl e)))))))) (fun h => (List.mem_append.mp h).elim (fun h => (List.mem_cons_of_mem _ (List.mem_append_left _ (List.mem_append_right _ (List.mem_append_right _ (List.mem_append_left _ (List.mem_cons_of_mem _ h))))))) (fun h => List.mem_cons_of_mem _ (List.mem_append_right _ h)))) w_x_eval_good
theorem g_x_workParts_eval_566 : GoodIn w_x_workParts (wsV RX12 566 RX12 yX12_eval w_x_eval) := goodIn_app (nb_g4 (List.mem_cons_of_mem _ (List.mem_append_left _ (List.mem_append_left _ (List.mem_of_getElem? (i := 7) rfl)))) (List.mem_cons_of_mem _ (List.mem_append_left _ (List.mem_append_left _ (List.mem_of_getElem? (i := 8) rfl)))) (List.mem_cons_of_mem _ (List.mem_append_left _ (List.mem_append_left _ (List.mem_of_getElem? (i := 9) rfl)))) (List.mem_cons_of_mem _ (List.mem_append_left _ (List.mem_append_left _ (List.mem_of_getElem? (i := 3) rfl)))) (by decide +kernel)) gg_x_workParts_eval
theorem gg_x_workParts_nameOf : GoodIn w_x_workParts w_x_nameOf := goodIn_sub (fun w h => (List.mem_cons.mp h).elim (fun e => (List.mem_cons_of_mem _ (List.mem_append_left _ (List.mem_append_right _ (List.mem_append_left _ (List.mem_cons.mpr (Or.inl e))))))) (fun h => (List.mem_append.mp h).elim (fun h => (List.mem_cons_of_mem _ (List.mem_append_left _ (List.mem_append_right _ (List.mem_append_left _ (List.mem_cons_of_mem _ h)))))) (fun h => List.mem_cons_of_mem _ (List.mem_append_right _ h)))) w_x_nameOf_good
theorem g_x_workParts_nameOf_818 : GoodIn w_x_workParts (wsV RX12 818 RX12 yX12_nameOf w_x_nameOf) := goodIn_app (nb_g4 (List.mem_cons_of_mem _ (List.mem_append_left _ (List.mem_append_left _ (List.mem_of_getElem? (i := 0) rfl)))) (List.mem_cons_of_mem _ (List.mem_append_left _ (List.mem_append_left _ (List.mem_of_getElem? (i := 1) rfl)))) (List.mem_cons_of_mem _ (List.mem_append_left _ (List.mem_append_left _ (List.mem_of_getElem? (i := 2) rfl)))) (List.mem_cons_of_mem _ (List.mem_append_left _ (List.mem_append_left _ (List.mem_of_getElem? (i := 3) rfl)))) (by decide +kernel)) gg_x_workParts_nameOf
set_option maxHeartbeats 40000000 in
set_option maxRecDepth 100000 in
theorem c_x_workParts (l : Launch) (dC : Nat → ClassId) (dI : Nat → Nat → Nat) (cy : Nat → ClassId) (a : Nat → Nat) (k0 : Nat) (L0 : Nat → Int32) (σ0 : MS) (r0 : Int32 × MS) (h0 : x_workParts k0 0 L0 σ0 = some r0) (sz : Nat) : Met l yX12_workParts w_x_workParts ({ frames := 1358, cells := 0, slots := 0, locals := 36497 }) (va_Pc [.ref (a 0), .int (L0 1)] (nIn (dC, dI) cy sz (vM cy a σ0))) (va_Qv (fun _ : Unit => True) (fun _ t => nOut (dC, dI) cy (va_A (vM cy a σ0) sz) (vM cy a r0.2) t) (va_A (vM cy a σ0) sz)) 0 0 (va_A (vM cy a σ0) sz) := by
  refine Met.ofW (cc := cX12_workParts) (maxL := 3) (ret := none) (by decide) rfl ?_
  intro p e s m args below meth c s₁ B hml hv
  obtain ⟨rfl, hsz, hP, hK, hD0, hG⟩ := hv
  have hx := B.exec
  have hb := B.bytes
  have hr := B.returns
  have hts := atoms_spec (ws := w_x_workParts) B.pre
  have hown : s.vm.findClass RX12 = some m.cls := findClass_of_methodNamed B.named
  have hlocks := B.notSynchronized
  subst hsz
  have hD := hD0.self (sz := s.heap.size)
  generalize hAe : va_A (vM cy a σ0) s.heap.size = A at hD ⊢
  have hA : ∀ q : Nat, s.heap.size ≤ q → A q := fun q h => by rw [← hAe]; exact Or.inr h
  have hS : va_S A s.heap s.heap [] := va_S.rf
  have hl := lv_entry ([.ref (a 0), .int (L0 1)]) (n := 3) (Nat.le_of_ble_eq_true rfl)
  rw [lg_entry_eq]
  generalize (lg_sl ([.ref (a 0), .int (L0 1)]) ++ List.replicate (3 - (lg_sl ([.ref (a 0), .int (L0 1)])).length) Slot.unset).toArray = ls at hl ⊢
  have hl : lv_has ls 3 [(0, .ref (a 0)), (1, .int (L0 1))] := hl
  have blk : ∀ k : Nat, (bT p l e (headSpec w_x_workParts ({ frames := 1358, cells := 0, slots := 0, locals := 36497 })).room s m #[.ref (a 0), .int (L0 1)] below meth c dC dI cy a A (qV dC dI cy a A below #[.ref (a 0), .int (L0 1)] s) 3 (x_workParts k 0) (fun L => [(0, .ref (a 0)), (1, .int (L 1))]) 0 (fun L => [])) ∧ (bT p l e (headSpec w_x_workParts ({ frames := 1358, cells := 0, slots := 0, locals := 36497 })).room s m #[.ref (a 0), .int (L0 1)] below meth c dC dI cy a A (qV dC dI cy a A below #[.ref (a 0), .int (L0 1)] s) 3 (x_workParts k 1) (fun L => [(0, .ref (a 0)), (1, .int (L 1)), (2, .int (L 2))]) 6 (fun L => [])) ∧ (bT p l e (headSpec w_x_workParts ({ frames := 1358, cells := 0, slots := 0, locals := 36497 })).room s m #[.ref (a 0), .int (L0 1)] below meth c dC dI cy a A (qV dC dI cy a A below #[.ref (a 0), .int (L0 1)] s) 3 (x_workParts k 2) (fun L => [(0, .ref (a 0)), (1, .int (L 1)), (2, .int (L 2))]) 66 (fun L => [])) := by
    intro k
    induction k with
    | zero => exact ⟨fun L σ r h => (by cases h), fun L σ r h => (by cases h), fun L σ r h => (by cases h)⟩
    | succ k ih =>
      refine ⟨?_, ?_, ?_⟩
      · intro L σ r h H locs ls hP hD hS hl
        rw [x_workParts] at h
        refine lv_aload_n hx hb dX12_workParts_0 rfl (lv_at hl 0 rfl) ?_
        refine lv_iload_n hx hb dX12_workParts_1 rfl (lv_at hl 1 rfl) ?_
        obtain ⟨r1, hc1, h⟩ := ob_ex h
        refine nc_Vi (As := [.int (L 1)]) (rest := []) ⟨hx, hb, hml, hown, hts⟩ (c_x_nameOf l dC dI cy a k (upd (fun _ => 0) 1 ((L 1))) σ r1 hc1 H.size) (cwV 1 hts g_x_workParts_nameOf_818 rfl rfl rfl hd_x_nameOf ⟨Nat.le_of_ble_eq_true rfl, Nat.le_of_ble_eq_true rfl⟩) hK hG hA hP hD hS rfl hl.1 rfl (Nat.le_of_ble_eq_true rfl) dX12_workParts_2 ⟨Nat.le_refl _, Nat.le_refl _⟩ (fun H locs hP hD hS => ?_)
        refine lv_istore_n (lv' := [(2, .int r1.1), (0, .ref (a 0)), (1, .int (L 1))]) hx hb dX12_workParts_5 rfl hl (by decide) rfl (fun ls hl => ?_)
        exact ih.2.1 (upd L 2 r1.1) r1.2 r h H locs ls hP hD hS (lv_sub hl [1, 2, 0] rfl)
      · intro L σ r h H locs ls hP hD hS hl
        rw [x_workParts] at h
        refine lv_iload_n hx hb dX12_workParts_6 rfl (lv_at hl 2 rfl) ?_
        refine lv_iload_n hx hb dX12_workParts_7 rfl (lv_at hl 1 rfl) ?_
        refine lv_icmp_eq (tgt := 66) hx hb dX12_workParts_8 (by decide) (fun c1 => ?_) (fun c1 => ?_)
        · rw [if_pos c1] at h
          exact ih.2.2 L σ r h H locs ls hP hD hS (lv_sub hl [0, 1, 2] rfl)
        · rw [if_neg c1] at h
          refine lv_aload_n hx hb dX12_workParts_11 rfl (lv_at hl 0 rfl) ?_
          refine ng_56 hx hb hts in_x_workParts hown hK hP (hts _ (List.mem_cons_of_mem _ (List.mem_append_left _ (List.mem_append_left _ (List.mem_of_getElem? (i := 4) rfl))))) dX12_workParts_12 ?_
          refine lv_if_ne (tgt := 66) hx hb dX12_workParts_15 (by decide) (fun c2 => ?_) (fun c2 => ?_)
          · rw [if_neg c2] at h
            exact ih.2.2 L σ r h H locs ls hP hD hS (lv_sub hl [0, 1, 2] rfl)
          · rw [if_pos c2] at h
            refine lv_aload_n hx hb dX12_workParts_18 rfl (lv_at hl 0 rfl) ?_
            refine ng_19 hx hb hts in_x_workParts hown hK hP (hts _ (List.mem_cons_of_mem _ (List.mem_append_left _ (List.mem_append_left _ (List.mem_of_getElem? (i := 5) rfl))))) dX12_workParts_19 ?_
            refine lv_iload_n hx hb dX12_workParts_22 rfl (lv_at hl 2 rfl) ?_
            obtain ⟨q3, h⟩ := nb_ite1 h
            refine nl_9 hx hb hK hP q3 dX12_workParts_23 ?_
            refine lv_istore_n (lv' := [(2, .int (σ.2.2 9 ((L 2)).toNatClampNeg)), (0, .ref (a 0)), (1, .int (L 1))]) hx hb dX12_workParts_24 rfl hl (by decide) rfl (fun ls hl => ?_)
            refine lv_aload_n hx hb dX12_workParts_25 rfl (lv_at hl 1 rfl) ?_
            refine lv_aload_n hx hb dX12_workParts_26 rfl (lv_at hl 1 rfl) ?_
            refine ng_17 hx hb hts in_x_workParts hown hK hP (hts _ (List.mem_cons_of_mem _ (List.mem_append_left _ (List.mem_append_left _ (List.mem_of_getElem? (i := 6) rfl))))) dX12_workParts_27 ?_
            refine lv_iload_n hx hb dX12_workParts_30 rfl (lv_at hl 0 rfl) ?_
            obtain ⟨q4, h⟩ := nb_ite1 h
            refine nl_7 hx hb hK hP q4 dX12_workParts_31 ?_
            obtain ⟨r5, hc5, h⟩ := ob_ex h
            refine nc_Vv (As := [.int (σ.2.2 7 ((σ.2.2 9 ((L 2)).toNatClampNeg)).toNatClampNeg)]) (rest := []) ⟨hx, hb, hml, hown, hts⟩ (c_x_eval l dC dI cy a k (upd (fun _ => 0) 1 ((σ.2.2 7 ((σ.2.2 9 ((L 2)).toNatClampNeg)).toNatClampNeg))) σ r5 hc5 H.size) (cwV 1 hts g_x_workParts_eval_566 rfl rfl rfl hd_x_eval ⟨Nat.le_of_ble_eq_true rfl, Nat.le_of_ble_eq_true rfl⟩) hK hG hA hP hD hS rfl hl.1 rfl (Nat.le_of_ble_eq_true rfl) dX12_workParts_32 ⟨Nat.le_refl _, Nat.le_refl _⟩ (fun H locs hP hD hS => ?_)
            refine lv_aload_n hx hb dX12_workParts_35 rfl (lv_at hl 1 rfl) ?_
            refine ng_14 hx hb hts in_x_workParts hown hK hP (hts _ (List.mem_cons_of_mem _ (List.mem_append_left _ (List.mem_append_left _ (List.mem_of_getElem? (i := 10) rfl))))) dX12_workParts_36 ?_
            refine lv_iload_n hx hb dX12_workParts_39 rfl (lv_at hl 0 rfl) ?_
            obtain ⟨q6, h⟩ := nb_ite1 h
            refine nl_4 hx hb hK hP q6 dX12_workParts_40 ?_
            refine lv_bipush (v := 22) hx hb dX12_workParts_41 (by decide) ?_
            refine lv_icmp_ne (tgt := 6) hx hb dX12_workParts_43 (by decide) (fun c7 => ?_) (fun c7 => ?_)
            · rw [if_neg c7] at h
              exact ih.2.1 (upd L 2 ((σ.2.2 9 ((L 2)).toNatClampNeg))) r5.2 r h H locs ls hP hD hS (lv_sub hl [1, 2, 0] rfl)
            · rw [if_pos c7] at h
              refine lv_aload_n hx hb dX12_workParts_46 rfl (lv_at hl 1 rfl) ?_
              refine ng_56 hx hb hts in_x_workParts hown hK hP (hts _ (List.mem_cons_of_mem _ (List.mem_append_left _ (List.mem_append_left _ (List.mem_of_getElem? (i := 4) rfl))))) dX12_workParts_47 ?_
              refine lv_if_ne (tgt := 6) hx hb dX12_workParts_50 (by decide) (fun c8 => ?_) (fun c8 => ?_)
              · rw [if_neg c8] at h
                exact ih.2.1 (upd L 2 ((σ.2.2 9 ((L 2)).toNatClampNeg))) r5.2 r h H locs ls hP hD hS (lv_sub hl [1, 2, 0] rfl)
              · rw [if_pos c8] at h
                refine lv_aload_n hx hb dX12_workParts_53 rfl (lv_at hl 1 rfl) ?_
                refine lv_aload_n hx hb dX12_workParts_54 rfl (lv_at hl 1 rfl) ?_
                refine ng_18 hx hb hts in_x_workParts hown hK hP (hts _ (List.mem_cons_of_mem _ (List.mem_append_left _ (List.mem_append_left _ (List.mem_of_getElem? (i := 11) rfl))))) dX12_workParts_55 ?_
                refine lv_iload_n hx hb dX12_workParts_58 rfl (lv_at hl 0 rfl) ?_
                obtain ⟨q9, h⟩ := nb_ite1 h
                refine nl_8 hx hb hK hP q9 dX12_workParts_59 ?_
                obtain ⟨r10, hc10, h⟩ := ob_ex h
                refine nc_Vv (As := [.int (r5.2.2.2 8 ((σ.2.2 9 ((L 2)).toNatClampNeg)).toNatClampNeg)]) (rest := []) ⟨hx, hb, hml, hown, hts⟩ (c_x_eval l dC dI cy a k (upd (fun _ => 0) 1 ((r5.2.2.2 8 ((σ.2.2 9 ((L 2)).toNatClampNeg)).toNatClampNeg))) r5.2 r10 hc10 H.size) (cwV 1 hts g_x_workParts_eval_566 rfl rfl rfl hd_x_eval ⟨Nat.le_of_ble_eq_true rfl, Nat.le_of_ble_eq_true rfl⟩) hK hG hA hP hD hS rfl hl.1 rfl (Nat.le_of_ble_eq_true rfl) dX12_workParts_60 ⟨Nat.le_refl _, Nat.le_refl _⟩ (fun H locs hP hD hS => ?_)
                refine lv_goto (tgt := 6) hx hb dX12_workParts_63 (by decide) ?_
                exact ih.2.1 (upd L 2 ((σ.2.2 9 ((L 2)).toNatClampNeg))) r10.2 r h H locs ls hP hD hS (lv_sub hl [1, 2, 0] rfl)
      · intro L σ r h H locs ls hP hD hS hl
        rw [x_workParts] at h
        cases h
        exact W.vret hx hb hr (fun t ht hW => ⟨⟨(), rfl, trivial, by rw [ht]; exact hP, va_K.moved hW.alike hK, hD⟩, hS.F ht⟩) hS.2.2 dX12_workParts_66
  exact (blk k0).1 L0 σ0 r0 h0 s.heap [] ls hP hD hS hl
/-! keysOf -/
def x_keysOf : Nat → Nat → (Nat → Int32) → MS → Option (Int32 × MS)
  | 0, _, _, _ => none
  | k + 1, 0, L, σ => if ((L 0)) = 7 then (x_keysOf k 3 (upd L 100 0) σ) else (x_keysOf k 1 L σ)
  | k + 1, 1, L, σ => if ((L 0)) = 22 then (x_keysOf k 3 (upd L 100 2) σ) else (x_keysOf k 2 L σ)
  | k + 1, 2, L, σ => x_keysOf k 3 (upd L 100 1) σ
  | k + 1, 3, L, σ => some ((L 100), σ)
  | _ + 1, _ + 4, _, _ => none
def o_x_keysOf : List Cond := []
theorem o_x_keysOf_good : o_x_keysOf.all goodWord = true := by decide +kernel
def p_x_keysOf : List Cond := o_x_keysOf ++ []
theorem p_x_keysOf_good : p_x_keysOf.all goodWord = true := nb_all2 o_x_keysOf_good rfl
def w_x_keysOf : List Cond := .code yX12_keysOf cX12_keysOf 1 (some .int) :: (p_x_keysOf ++ fM)
theorem w_x_keysOf_good : w_x_keysOf.all goodWord = true := nb_allc (by decide +kernel) (nb_all2 p_x_keysOf_good fM_good)
theorem in_x_keysOf : ∀ w ∈ wsX120, w ∈ w_x_keysOf := fun _ h => List.mem_cons_of_mem _ (List.mem_append_right _ h)
theorem hd_x_keysOf : yX12_keysOf.cls ≠ "java/lang/invoke/MethodHandle" ∧ yX12_keysOf.cls ≠ "java/lang/invoke/VarHandle" ∧ (parseMethodDescriptor yX12_keysOf.desc).map (fun d => d.parameters.length) = some 1 := by decide +kernel
set_option maxHeartbeats 40000000 in
set_option maxRecDepth 100000 in
theorem c_x_keysOf (l : Launch) (dC : Nat → ClassId) (dI : Nat → Nat → Nat) (cy : Nat → ClassId) (a : Nat → Nat) (k0 : Nat) (L0 : Nat → Int32) (σ0 : MS) (r0 : Int32 × MS) (h0 : x_keysOf k0 0 L0 σ0 = some r0) (sz : Nat) : Met l yX12_keysOf w_x_keysOf ({ frames := 0, cells := 0, slots := 0, locals := 0 }) (va_Pc [.int (L0 0)] (nIn (dC, dI) cy sz (vM cy a σ0))) (va_Qi (fun (z : Int32) (_ : Unit) => z = r0.1) (fun _ t => nOut (dC, dI) cy (va_A (vM cy a σ0) sz) (vM cy a r0.2) t) (va_A (vM cy a σ0) sz)) 0 0 (va_A (vM cy a σ0) sz) := by
  refine Met.ofW (cc := cX12_keysOf) (maxL := 1) (ret := (some .int)) (by decide) rfl ?_
  intro p e s m args below meth c s₁ B hml hv
  obtain ⟨rfl, hsz, hP, hK, hD0, hG⟩ := hv
  have hx := B.exec
  have hb := B.bytes
  have hr := B.returns
  have hts := atoms_spec (ws := w_x_keysOf) B.pre
  have hown : s.vm.findClass RX12 = some m.cls := findClass_of_methodNamed B.named
  have hlocks := B.notSynchronized
  subst hsz
  have hD := hD0.self (sz := s.heap.size)
  generalize hAe : va_A (vM cy a σ0) s.heap.size = A at hD ⊢
  have hA : ∀ q : Nat, s.heap.size ≤ q → A q := fun q h => by rw [← hAe]; exact Or.inr h
  have hS : va_S A s.heap s.heap [] := va_S.rf
  have hl := lv_entry ([.int (L0 0)]) (n := 1) (Nat.le_of_ble_eq_true rfl)
  rw [lg_entry_eq]
  generalize (lg_sl ([.int (L0 0)]) ++ List.replicate (1 - (lg_sl ([.int (L0 0)])).length) Slot.unset).toArray = ls at hl ⊢
  have hl : lv_has ls 1 [(0, .int (L0 0))] := hl
  have blk : ∀ k : Nat, (bT p l e (headSpec w_x_keysOf ({ frames := 0, cells := 0, slots := 0, locals := 0 })).room s m #[.int (L0 0)] below meth c dC dI cy a A (qI dC dI cy a A below #[.int (L0 0)] s) 1 (x_keysOf k 0) (fun L => [(0, .int (L 0))]) 0 (fun L => [])) ∧ (bT p l e (headSpec w_x_keysOf ({ frames := 0, cells := 0, slots := 0, locals := 0 })).room s m #[.int (L0 0)] below meth c dC dI cy a A (qI dC dI cy a A below #[.int (L0 0)] s) 1 (x_keysOf k 1) (fun L => [(0, .int (L 0))]) 10 (fun L => [])) ∧ (bT p l e (headSpec w_x_keysOf ({ frames := 0, cells := 0, slots := 0, locals := 0 })).room s m #[.int (L0 0)] below meth c dC dI cy a A (qI dC dI cy a A below #[.int (L0 0)] s) 1 (x_keysOf k 2) (fun L => [(0, .int (L 0))]) 20 (fun L => [])) ∧ (bT p l e (headSpec w_x_keysOf ({ frames := 0, cells := 0, slots := 0, locals := 0 })).room s m #[.int (L0 0)] below meth c dC dI cy a A (qI dC dI cy a A below #[.int (L0 0)] s) 1 (x_keysOf k 3) (fun L => [(0, .int (L 0))]) 21 (fun L => [.int (L 100)])) := by
    intro k
    induction k with
    | zero => exact ⟨fun L σ r h => (by cases h), fun L σ r h => (by cases h), fun L σ r h => (by cases h), fun L σ r h => (by cases h)⟩
    | succ k ih =>
      refine ⟨?_, ?_, ?_, ?_⟩
      · intro L σ r h H locs ls hP hD hS hl
        rw [x_keysOf] at h
        refine lv_iload_n hx hb dX12_keysOf_0 rfl (lv_at hl 0 rfl) ?_
        refine lv_bipush (v := 7) hx hb dX12_keysOf_1 (by decide) ?_
        refine lv_icmp_ne (tgt := 10) hx hb dX12_keysOf_3 (by decide) (fun c1 => ?_) (fun c1 => ?_)
        · rw [if_neg c1] at h
          exact ih.2.1 L σ r h H locs ls hP hD hS (lv_sub hl [0] rfl)
        · rw [if_pos c1] at h
          refine lv_iconst (v := 0) hx hb dX12_keysOf_6 (by decide) ?_
          refine lv_goto (tgt := 21) hx hb dX12_keysOf_7 (by decide) ?_
          exact ih.2.2.2 (upd L 100 0) σ r h H locs ls hP hD hS (lv_sub hl [0] rfl)
      · intro L σ r h H locs ls hP hD hS hl
        rw [x_keysOf] at h
        refine lv_iload_n hx hb dX12_keysOf_10 rfl (lv_at hl 0 rfl) ?_
        refine lv_bipush (v := 22) hx hb dX12_keysOf_11 (by decide) ?_
        refine lv_icmp_ne (tgt := 20) hx hb dX12_keysOf_13 (by decide) (fun c1 => ?_) (fun c1 => ?_)
        · rw [if_neg c1] at h
          exact ih.2.2.1 L σ r h H locs ls hP hD hS (lv_sub hl [0] rfl)
        · rw [if_pos c1] at h
          refine lv_iconst (v := 2) hx hb dX12_keysOf_16 (by decide) ?_
          refine lv_goto (tgt := 21) hx hb dX12_keysOf_17 (by decide) ?_
          exact ih.2.2.2 (upd L 100 2) σ r h H locs ls hP hD hS (lv_sub hl [0] rfl)
      · intro L σ r h H locs ls hP hD hS hl
        rw [x_keysOf] at h
        refine lv_iconst (v := 1) hx hb dX12_keysOf_20 (by decide) ?_
        exact ih.2.2.2 (upd L 100 1) σ r h H locs ls hP hD hS (lv_sub hl [0] rfl)
      · intro L σ r h H locs ls hP hD hS hl
        rw [x_keysOf] at h
        cases h
        exact W.iret (v := (L 100)) hx hb hr (fun t ht hW => ⟨⟨(L 100), (), rfl, rfl, by rw [ht]; exact hP, va_K.moved hW.alike hK, hD⟩, hS.F ht⟩) hS.2.2 dX12_keysOf_21
  exact (blk k0).1 L0 σ0 r0 h0 s.heap [] ls hP hD hS hl
/-! keysIn -/
def x_keysIn : Nat → Nat → (Nat → Int32) → MS → Option (Int32 × MS)
  | 0, _, _, _ => none
  | k + 1, 0, L, σ => x_keysIn k 1 (upd (upd L 2 0) 3 ((L 1))) σ
  | k + 1, 1, L, σ => if ¬ (((L 3)) < 0 ∨ 70000 ≤ ((L 3)).toNatClampNeg) then (if ((σ.2.2 4 ((L 3)).toNatClampNeg)) = 7 then (x_keysIn k 2 L σ) else (if ¬ (((L 3)) < 0 ∨ 70000 ≤ ((L 3)).toNatClampNeg) then (ob (x_keysOf k 0 (upd (fun _ => 0) 0 ((σ.2.2 4 ((L 3)).toNatClampNeg))) σ) (fun r4 => if ¬ (((L 3)) < 0 ∨ 70000 ≤ ((L 3)).toNatClampNeg) then (x_keysIn k 1 (upd (upd L 2 ((((L 2)) + r4.1))) 3 ((r4.2.2.2 6 ((L 3)).toNatClampNeg))) r4.2) else none)) else none)) else none
  | k + 1, 2, L, σ => some ((L 2), σ)
  | _ + 1, _ + 3, _, _ => none
def o_x_keysIn : List Cond := [.fieldLink RX12 83 "SetHouseModel" "op" "[I", .methodLink RX12 821 yX12_keysOf, .static yX12_keysOf, .initialized RX12, .fieldLink RX12 89 "SetHouseModel" "x2" "[I"]
theorem o_x_keysIn_good : o_x_keysIn.all goodWord = true := by decide +kernel
def p_x_keysIn : List Cond := o_x_keysIn ++ ((.code yX12_keysOf cX12_keysOf 1 (some .int) :: p_x_keysOf) ++ [])
theorem p_x_keysIn_good : p_x_keysIn.all goodWord = true := nb_all2 o_x_keysIn_good (nb_all2 (nb_allc (by decide +kernel) p_x_keysOf_good) rfl)
def w_x_keysIn : List Cond := .code yX12_keysIn cX12_keysIn 4 (some .int) :: (p_x_keysIn ++ fM)
theorem w_x_keysIn_good : w_x_keysIn.all goodWord = true := nb_allc (by decide +kernel) (nb_all2 p_x_keysIn_good fM_good)
theorem in_x_keysIn : ∀ w ∈ wsX120, w ∈ w_x_keysIn := fun _ h => List.mem_cons_of_mem _ (List.mem_append_right _ h)
theorem hd_x_keysIn : yX12_keysIn.cls = RX12 ∧ yX12_keysIn.cls ≠ "java/lang/invoke/MethodHandle" ∧ yX12_keysIn.cls ≠ "java/lang/invoke/VarHandle" ∧ (parseMethodDescriptor yX12_keysIn.desc).map (fun d => d.parameters.length) = some 1 := by decide +kernel
theorem gg_x_keysIn_keysOf : GoodIn w_x_keysIn w_x_keysOf := goodIn_sub (fun w h => (List.mem_cons.mp h).elim (fun e => (List.mem_cons_of_mem _ (List.mem_append_left _ (List.mem_append_right _ (List.mem_append_left _ (List.mem_cons.mpr (Or.inl e))))))) (fun h => (List.mem_append.mp h).elim (fun h => (List.mem_cons_of_mem _ (List.mem_append_left _ (List.mem_append_right _ (List.mem_append_left _ (List.mem_cons_of_mem _ h)))))) (fun h => List.mem_cons_of_mem _ (List.mem_append_right _ h)))) w_x_keysOf_good
theorem g_x_keysIn_keysOf_821 : GoodIn w_x_keysIn (va_wsS RX12 821 yX12_keysOf w_x_keysOf) := goodIn_app (nb_g3 (List.mem_cons_of_mem _ (List.mem_append_left _ (List.mem_append_left _ (List.mem_of_getElem? (i := 1) rfl)))) (List.mem_cons_of_mem _ (List.mem_append_left _ (List.mem_append_left _ (List.mem_of_getElem? (i := 2) rfl)))) (List.mem_cons_of_mem _ (List.mem_append_left _ (List.mem_append_left _ (List.mem_of_getElem? (i := 3) rfl)))) (by decide +kernel)) gg_x_keysIn_keysOf
set_option maxHeartbeats 40000000 in
set_option maxRecDepth 100000 in
theorem c_x_keysIn (l : Launch) (dC : Nat → ClassId) (dI : Nat → Nat → Nat) (cy : Nat → ClassId) (a : Nat → Nat) (k0 : Nat) (L0 : Nat → Int32) (σ0 : MS) (r0 : Int32 × MS) (h0 : x_keysIn k0 0 L0 σ0 = some r0) (sz : Nat) : Met l yX12_keysIn w_x_keysIn ({ frames := 1, cells := 0, slots := 0, locals := 20 }) (va_Pc [.ref (a 0), .int (L0 1)] (nIn (dC, dI) cy sz (vM cy a σ0))) (va_Qi (fun (z : Int32) (_ : Unit) => z = r0.1) (fun _ t => nOut (dC, dI) cy (va_A (vM cy a σ0) sz) (vM cy a r0.2) t) (va_A (vM cy a σ0) sz)) 0 0 (va_A (vM cy a σ0) sz) := by
  refine Met.ofW (cc := cX12_keysIn) (maxL := 4) (ret := (some .int)) (by decide) rfl ?_
  intro p e s m args below meth c s₁ B hml hv
  obtain ⟨rfl, hsz, hP, hK, hD0, hG⟩ := hv
  have hx := B.exec
  have hb := B.bytes
  have hr := B.returns
  have hts := atoms_spec (ws := w_x_keysIn) B.pre
  have hown : s.vm.findClass RX12 = some m.cls := findClass_of_methodNamed B.named
  have hlocks := B.notSynchronized
  subst hsz
  have hD := hD0.self (sz := s.heap.size)
  generalize hAe : va_A (vM cy a σ0) s.heap.size = A at hD ⊢
  have hA : ∀ q : Nat, s.heap.size ≤ q → A q := fun q h => by rw [← hAe]; exact Or.inr h
  have hS : va_S A s.heap s.heap [] := va_S.rf
  have hl := lv_entry ([.ref (a 0), .int (L0 1)]) (n := 4) (Nat.le_of_ble_eq_true rfl)
  rw [lg_entry_eq]
  generalize (lg_sl ([.ref (a 0), .int (L0 1)]) ++ List.replicate (4 - (lg_sl ([.ref (a 0), .int (L0 1)])).length) Slot.unset).toArray = ls at hl ⊢
  have hl : lv_has ls 4 [(0, .ref (a 0)), (1, .int (L0 1))] := hl
  have blk : ∀ k : Nat, (bT p l e (headSpec w_x_keysIn ({ frames := 1, cells := 0, slots := 0, locals := 20 })).room s m #[.ref (a 0), .int (L0 1)] below meth c dC dI cy a A (qI dC dI cy a A below #[.ref (a 0), .int (L0 1)] s) 4 (x_keysIn k 0) (fun L => [(0, .ref (a 0)), (1, .int (L 1))]) 0 (fun L => [])) ∧ (bT p l e (headSpec w_x_keysIn ({ frames := 1, cells := 0, slots := 0, locals := 20 })).room s m #[.ref (a 0), .int (L0 1)] below meth c dC dI cy a A (qI dC dI cy a A below #[.ref (a 0), .int (L0 1)] s) 4 (x_keysIn k 1) (fun L => [(0, .ref (a 0)), (1, .int (L 1)), (2, .int (L 2)), (3, .int (L 3))]) 4 (fun L => [])) ∧ (bT p l e (headSpec w_x_keysIn ({ frames := 1, cells := 0, slots := 0, locals := 20 })).room s m #[.ref (a 0), .int (L0 1)] below meth c dC dI cy a A (qI dC dI cy a A below #[.ref (a 0), .int (L0 1)] s) 4 (x_keysIn k 2) (fun L => [(0, .ref (a 0)), (1, .int (L 1)), (2, .int (L 2)), (3, .int (L 3))]) 37 (fun L => [])) := by
    intro k
    induction k with
    | zero => exact ⟨fun L σ r h => (by cases h), fun L σ r h => (by cases h), fun L σ r h => (by cases h)⟩
    | succ k ih =>
      refine ⟨?_, ?_, ?_⟩
      · intro L σ r h H locs ls hP hD hS hl
        rw [x_keysIn] at h
        refine lv_iconst (v := 0) hx hb dX12_keysIn_0 (by decide) ?_
        refine lv_istore_n (lv' := [(2, .int 0), (0, .ref (a 0)), (1, .int (L 1))]) hx hb dX12_keysIn_1 rfl hl (by decide) rfl (fun ls hl => ?_)
        refine lv_iload_n hx hb dX12_keysIn_2 rfl (lv_at hl 2 rfl) ?_
        refine lv_istore_n (lv' := [(3, .int (L 1)), (2, .int 0), (0, .ref (a 0)), (1, .int (L 1))]) hx hb dX12_keysIn_3 rfl hl (by decide) rfl (fun ls hl => ?_)
        exact ih.2.1 (upd (upd L 2 0) 3 ((L 1))) σ r h H locs ls hP hD hS (lv_sub hl [2, 3, 1, 0] rfl)
      · intro L σ r h H locs ls hP hD hS hl
        rw [x_keysIn] at h
        refine lv_aload_n hx hb dX12_keysIn_4 rfl (lv_at hl 0 rfl) ?_
        refine ng_14 hx hb hts in_x_keysIn hown hK hP (hts _ (List.mem_cons_of_mem _ (List.mem_append_left _ (List.mem_append_left _ (List.mem_of_getElem? (i := 0) rfl))))) dX12_keysIn_5 ?_
        refine lv_iload_n hx hb dX12_keysIn_8 rfl (lv_at hl 3 rfl) ?_
        obtain ⟨q1, h⟩ := nb_ite1 h
        refine nl_4 hx hb hK hP q1 dX12_keysIn_9 ?_
        refine lv_bipush (v := 7) hx hb dX12_keysIn_10 (by decide) ?_
        refine lv_icmp_eq (tgt := 37) hx hb dX12_keysIn_12 (by decide) (fun c2 => ?_) (fun c2 => ?_)
        · rw [if_pos c2] at h
          exact ih.2.2 L σ r h H locs ls hP hD hS (lv_sub hl [0, 1, 2, 3] rfl)
        · rw [if_neg c2] at h
          refine lv_iload_n hx hb dX12_keysIn_15 rfl (lv_at hl 2 rfl) ?_
          refine lv_aload_n hx hb dX12_keysIn_16 rfl (lv_at hl 0 rfl) ?_
          refine ng_14 hx hb hts in_x_keysIn hown hK hP (hts _ (List.mem_cons_of_mem _ (List.mem_append_left _ (List.mem_append_left _ (List.mem_of_getElem? (i := 0) rfl))))) dX12_keysIn_17 ?_
          refine lv_iload_n hx hb dX12_keysIn_20 rfl (lv_at hl 3 rfl) ?_
          obtain ⟨q3, h⟩ := nb_ite1 h
          refine nl_4 hx hb hK hP q3 dX12_keysIn_21 ?_
          obtain ⟨r4, hc4, h⟩ := ob_ex h
          refine nc_Si (As := [.int (σ.2.2 4 ((L 3)).toNatClampNeg)]) (rest := [.int (L 2)]) ⟨hx, hb, hml, hown, hts⟩ (c_x_keysOf l dC dI cy a k (upd (fun _ => 0) 0 ((σ.2.2 4 ((L 3)).toNatClampNeg))) σ r4 hc4 H.size) (va_cwS 1 hts g_x_keysIn_keysOf_821 rfl rfl rfl hd_x_keysOf ⟨Nat.le_of_ble_eq_true rfl, Nat.le_of_ble_eq_true rfl⟩) hK hG hA hP hD hS rfl hl.1 rfl (Nat.le_of_ble_eq_true rfl) dX12_keysIn_22 ⟨Nat.le_refl _, Nat.le_refl _⟩ (fun H locs hP hD hS => ?_)
          refine lv_iadd hx hb dX12_keysIn_25 ?_
          refine lv_istore_n (lv' := [(2, .int (((L 2)) + r4.1)), (0, .ref (a 0)), (1, .int (L 1)), (3, .int (L 3))]) hx hb dX12_keysIn_26 rfl hl (by decide) rfl (fun ls hl => ?_)
          refine lv_aload_n hx hb dX12_keysIn_27 rfl (lv_at hl 1 rfl) ?_
          refine ng_16 hx hb hts in_x_keysIn hown hK hP (hts _ (List.mem_cons_of_mem _ (List.mem_append_left _ (List.mem_append_left _ (List.mem_of_getElem? (i := 4) rfl))))) dX12_keysIn_28 ?_
          refine lv_iload_n hx hb dX12_keysIn_31 rfl (lv_at hl 3 rfl) ?_
          obtain ⟨q5, h⟩ := nb_ite1 h
          refine nl_6 hx hb hK hP q5 dX12_keysIn_32 ?_
          refine lv_istore_n (lv' := [(3, .int (r4.2.2.2 6 ((L 3)).toNatClampNeg)), (2, .int (((L 2)) + r4.1)), (0, .ref (a 0)), (1, .int (L 1))]) hx hb dX12_keysIn_33 rfl hl (by decide) rfl (fun ls hl => ?_)
          refine lv_goto (tgt := 4) hx hb dX12_keysIn_34 (by decide) ?_
          exact ih.2.1 (upd (upd L 2 ((((L 2)) + r4.1))) 3 ((r4.2.2.2 6 ((L 3)).toNatClampNeg))) r4.2 r h H locs ls hP hD hS (lv_sub hl [2, 3, 1, 0] rfl)
      · intro L σ r h H locs ls hP hD hS hl
        rw [x_keysIn] at h
        refine lv_iload_n hx hb dX12_keysIn_37 rfl (lv_at hl 2 rfl) ?_
        cases h
        exact W.iret (v := (L 2)) hx hb hr (fun t ht hW => ⟨⟨(L 2), (), rfl, rfl, by rw [ht]; exact hP, va_K.moved hW.alike hK, hD⟩, hS.F ht⟩) hS.2.2 dX12_keysIn_38
  exact (blk k0).1 L0 σ0 r0 h0 s.heap [] ls hP hD hS hl
/-! readParts -/
def x_readParts : Nat → Nat → (Nat → Int32) → MS → Option (Int32 × MS)
  | 0, _, _, _ => none
  | k + 1, 0, L, σ => ob (x_nameOf k 0 (upd (fun _ => 0) 1 ((L 1))) σ) (fun r1 => ob (x_valueOf k 0 (upd (fun _ => 0) 1 r1.1) r1.2) (fun r2 => ob (x_push k 0 (upd (fun _ => 0) 1 r2.1) r2.2) (fun r3 => x_readParts k 1 (upd (upd L 4 r1.1) 5 ((L 2))) r3.2)))
  | k + 1, 1, L, σ => if ((L 4)) = ((L 1)) then (x_readParts k 6 L σ) else (if ((L 3)) = 0 then (if ¬ (((L 4)) < 0 ∨ 70000 ≤ ((L 4)).toNatClampNeg) then (if ((σ.2.2 9 ((L 4)).toNatClampNeg)) = ((L 1)) then (x_readParts k 6 L σ) else (x_readParts k 2 L σ)) else none) else (x_readParts k 2 L σ))
  | k + 1, 2, L, σ => if ((σ.1 56)) = 0 then (if ¬ (((L 4)) < 0 ∨ 70000 ≤ ((L 4)).toNatClampNeg) then (ob (x_sweep k 0 (upd (fun _ => 0) 1 780000) σ) (fun r3 => if ¬ (((((r3.2.1 59)) - 1)) < 0 ∨ 185000 ≤ ((((r3.2.1 59)) - 1)).toNatClampNeg) then (if ¬ (((σ.2.2 9 ((L 4)).toNatClampNeg)) < 0 ∨ 70000 ≤ ((σ.2.2 9 ((L 4)).toNatClampNeg)).toNatClampNeg) then (if ((r3.2.2.2 4 ((σ.2.2 9 ((L 4)).toNatClampNeg)).toNatClampNeg)) = 21 then (if ¬ (((L 5)) < 0 ∨ 185000 ≤ ((L 5)).toNatClampNeg) then (ob (x_partAt k 0 (upd (upd (fun _ => 0) 1 ((r3.2.2.2 29 ((((r3.2.1 59)) - 1)).toNatClampNeg))) 2 ((r3.2.2.2 29 ((L 5)).toNatClampNeg))) r3.2) (fun r8 => x_readParts k 5 (upd (upd (upd L 4 ((σ.2.2 9 ((L 4)).toNatClampNeg))) 6 ((r3.2.2.2 29 ((((r3.2.1 59)) - 1)).toNatClampNeg))) 100 r8.1) r8.2)) else none) else (x_readParts k 3 (upd (upd L 4 ((σ.2.2 9 ((L 4)).toNatClampNeg))) 6 ((r3.2.2.2 29 ((((r3.2.1 59)) - 1)).toNatClampNeg))) r3.2)) else none) else none)) else none) else (x_readParts k 6 L σ)
  | k + 1, 3, L, σ => if ¬ (((L 4)) < 0 ∨ 70000 ≤ ((L 4)).toNatClampNeg) then (if ((σ.2.2 4 ((L 4)).toNatClampNeg)) = 23 then (if ¬ (((L 5)) < 0 ∨ 185000 ≤ ((L 5)).toNatClampNeg) then (ob (x_image k 0 (upd (upd (fun _ => 0) 1 ((L 6))) 2 ((σ.2.2 29 ((L 5)).toNatClampNeg))) σ) (fun r4 => x_readParts k 5 (upd L 100 r4.1) r4.2)) else none) else (x_readParts k 4 L σ)) else none
  | k + 1, 4, L, σ => if ¬ (((L 5)) < 0 ∨ 185000 ≤ ((L 5)).toNatClampNeg) then (if ¬ (((((L 5)) + 1)) < 0 ∨ 185000 ≤ ((((L 5)) + 1)).toNatClampNeg) then (ob (x_slice k 0 (upd (upd (upd (fun _ => 0) 1 ((L 6))) 2 ((σ.2.2 29 ((L 5)).toNatClampNeg))) 3 ((σ.2.2 29 ((((L 5)) + 1)).toNatClampNeg))) σ) (fun r3 => x_readParts k 5 (upd L 100 r3.1) r3.2)) else none) else none
  | k + 1, 5, L, σ => ob (x_answer k 0 (upd (fun _ => 0) 1 ((L 100))) σ) (fun r1 => ob (x_push k 0 (upd (fun _ => 0) 1 r1.1) r1.2) (fun r2 => if ¬ (((L 4)) < 0 ∨ 70000 ≤ ((L 4)).toNatClampNeg) then (ob (x_keysOf k 0 (upd (fun _ => 0) 0 ((r2.2.2.2 4 ((L 4)).toNatClampNeg))) r2.2) (fun r4 => x_readParts k 1 (upd L 5 ((((L 5)) + r4.1))) r4.2)) else none))
  | k + 1, 6, L, σ => some (0, σ)
  | _ + 1, _ + 7, _, _ => none
def o_x_readParts : List Cond := [.methodLink RX12 818 yX12_nameOf, .instanceMethod yX12_nameOf, .selects RX12 yX12_nameOf yX12_nameOf, .initialized RX12, .methodLink RX12 604 yX12_valueOf, .instanceMethod yX12_valueOf, .selects RX12 yX12_valueOf yX12_valueOf, .methodLink RX12 594 yX12_push, .instanceMethod yX12_push, .selects RX12 yX12_push yX12_push, .fieldLink RX12 98 "SetHouseModel" "next" "[I", .fieldLink RX12 362 "SetHouseModel" "err" "I", .constant RX12 584 (780000), .methodLink RX12 585 yX12_sweep, .instanceMethod yX12_sweep, .selects RX12 yX12_sweep yX12_sweep, .fieldLink RX12 382 "SetHouseModel" "pile" "[I", .fieldLink RX12 385 "SetHouseModel" "top" "I", .fieldLink RX12 83 "SetHouseModel" "op" "[I", .methodLink RX12 653 yX12_partAt, .instanceMethod yX12_partAt, .selects RX12 yX12_partAt yX12_partAt, .methodLink RX12 656 yX12_image, .instanceMethod yX12_image, .selects RX12 yX12_image yX12_image, .methodLink RX12 649 yX12_slice, .instanceMethod yX12_slice, .selects RX12 yX12_slice yX12_slice, .methodLink RX12 591 yX12_answer, .instanceMethod yX12_answer, .selects RX12 yX12_answer yX12_answer, .methodLink RX12 821 yX12_keysOf, .static yX12_keysOf]
theorem o_x_readParts_good : o_x_readParts.all goodWord = true := by decide +kernel
def p_x_readParts : List Cond := o_x_readParts ++ ((.code yX12_nameOf cX12_nameOf 3 (some .int) :: p_x_nameOf) ++ ((.code yX12_valueOf cX12_valueOf 2 (some .int) :: p_x_valueOf) ++ ((.code yX12_push cX12_push 2 none :: p_x_push) ++ ((.code yX12_sweep cX12_sweep 5 none :: p_x_sweep) ++ ((.code yX12_partAt cX12_partAt 8 (some .int) :: p_x_partAt) ++ ((.code yX12_image cX12_image 6 (some .int) :: p_x_image) ++ ((.code yX12_slice cX12_slice 7 (some .int) :: p_x_slice) ++ ((.code yX12_answer cX12_answer 2 (some .int) :: p_x_answer) ++ ((.code yX12_keysOf cX12_keysOf 1 (some .int) :: p_x_keysOf) ++ [])))))))))
theorem p_x_readParts_good : p_x_readParts.all goodWord = true := nb_all2 o_x_readParts_good (nb_all2 (nb_allc (by decide +kernel) p_x_nameOf_good) (nb_all2 (nb_allc (by decide +kernel) p_x_valueOf_good) (nb_all2 (nb_allc (by decide +kernel) p_x_push_good) (nb_all2 (nb_allc (by decide +kernel) p_x_sweep_good) (nb_all2 (nb_allc (by decide +kernel) p_x_partAt_good) (nb_all2 (nb_allc (by decide +kernel) p_x_image_good) (nb_all2 (nb_allc (by decide +kernel) p_x_slice_good) (nb_all2 (nb_allc (by decide +kernel) p_x_answer_good) (nb_all2 (nb_allc (by decide +kernel) p_x_keysOf_good) rfl)))))))))
def w_x_readParts : List Cond := .code yX12_readParts cX12_readParts 7 none :: (p_x_readParts ++ fM)
theorem w_x_readParts_good : w_x_readParts.all goodWord = true := nb_allc (by decide +kernel) (nb_all2 p_x_readParts_good fM_good)
theorem in_x_readParts : ∀ w ∈ wsX120, w ∈ w_x_readParts := fun _ h => List.mem_cons_of_mem _ (List.mem_append_right _ h)
theorem hd_x_readParts : yX12_readParts.cls = RX12 ∧ yX12_readParts.cls ≠ "java/lang/invoke/MethodHandle" ∧ yX12_readParts.cls ≠ "java/lang/invoke/VarHandle" ∧ (parseMethodDescriptor yX12_readParts.desc).map (fun d => d.parameters.length) = some 3 := by decide +kernel
theorem gg_x_readParts_answer : GoodIn w_x_readParts w_x_answer := goodIn_sub (fun w h => (List.mem_cons.mp h).elim (fun e => (List.mem_cons_of_mem _ (List.mem_append_left _ (List.mem_append_right _ (List.mem_append_right _ (List.mem_append_right _ (List.mem_append_right _ (List.mem_append_right _ (List.mem_append_right _ (List.mem_append_right _ (List.mem_append_right _ (List.mem_append_left _ (List.mem_cons.mpr (Or.inl e)))))))))))))) (fun h => (List.mem_append.mp h).elim (fun h => (List.mem_cons_of_mem _ (List.mem_append_left _ (List.mem_append_right _ (List.mem_append_right _ (List.mem_append_right _ (List.mem_append_right _ (List.mem_append_right _ (List.mem_append_right _ (List.mem_append_right _ (List.mem_append_right _ (List.mem_append_left _ (List.mem_cons_of_mem _ h))))))))))))) (fun h => List.mem_cons_of_mem _ (List.mem_append_right _ h)))) w_x_answer_good
theorem g_x_readParts_answer_591 : GoodIn w_x_readParts (wsV RX12 591 RX12 yX12_answer w_x_answer) := goodIn_app (nb_g4 (List.mem_cons_of_mem _ (List.mem_append_left _ (List.mem_append_left _ (List.mem_of_getElem? (i := 28) rfl)))) (List.mem_cons_of_mem _ (List.mem_append_left _ (List.mem_append_left _ (List.mem_of_getElem? (i := 29) rfl)))) (List.mem_cons_of_mem _ (List.mem_append_left _ (List.mem_append_left _ (List.mem_of_getElem? (i := 30) rfl)))) (List.mem_cons_of_mem _ (List.mem_append_left _ (List.mem_append_left _ (List.mem_of_getElem? (i := 3) rfl)))) (by decide +kernel)) gg_x_readParts_answer
theorem gg_x_readParts_image : GoodIn w_x_readParts w_x_image := goodIn_sub (fun w h => (List.mem_cons.mp h).elim (fun e => (List.mem_cons_of_mem _ (List.mem_append_left _ (List.mem_append_right _ (List.mem_append_right _ (List.mem_append_right _ (List.mem_append_right _ (List.mem_append_right _ (List.mem_append_right _ (List.mem_append_left _ (List.mem_cons.mpr (Or.inl e)))))))))))) (fun h => (List.mem_append.mp h).elim (fun h => (List.mem_cons_of_mem _ (List.mem_append_left _ (List.mem_append_right _ (List.mem_append_right _ (List.mem_append_right _ (List.mem_append_right _ (List.mem_append_right _ (List.mem_append_right _ (List.mem_append_left _ (List.mem_cons_of_mem _ h))))))))))) (fun h => List.mem_cons_of_mem _ (List.mem_append_right _ h)))) w_x_image_good
theorem g_x_readParts_image_656 : GoodIn w_x_readParts (wsV RX12 656 RX12 yX12_image w_x_image) := goodIn_app (nb_g4 (List.mem_cons_of_mem _ (List.mem_append_left _ (List.mem_append_left _ (List.mem_of_getElem? (i := 22) rfl)))) (List.mem_cons_of_mem _ (List.mem_append_left _ (List.mem_append_left _ (List.mem_of_getElem? (i := 23) rfl)))) (List.mem_cons_of_mem _ (List.mem_append_left _ (List.mem_append_left _ (List.mem_of_getElem? (i := 24) rfl)))) (List.mem_cons_of_mem _ (List.mem_append_left _ (List.mem_append_left _ (List.mem_of_getElem? (i := 3) rfl)))) (by decide +kernel)) gg_x_readParts_image
theorem gg_x_readParts_keysOf : GoodIn w_x_readParts w_x_keysOf := goodIn_sub (fun w h => (List.mem_cons.mp h).elim (fun e => (List.mem_cons_of_mem _ (List.mem_append_left _ (List.mem_append_right _ (List.mem_append_right _ (List.mem_append_right _ (List.mem_append_right _ (List.mem_append_right _ (List.mem_append_right _ (List.mem_append_right _ (List.mem_append_right _ (List.mem_append_right _ (List.mem_append_left _ (List.mem_cons.mpr (Or.inl e))))))))))))))) (fun h => (List.mem_append.mp h).elim (fun h => (List.mem_cons_of_mem _ (List.mem_append_left _ (List.mem_append_right _ (List.mem_append_right _ (List.mem_append_right _ (List.mem_append_right _ (List.mem_append_right _ (List.mem_append_right _ (List.mem_append_right _ (List.mem_append_right _ (List.mem_append_right _ (List.mem_append_left _ (List.mem_cons_of_mem _ h)))))))))))))) (fun h => List.mem_cons_of_mem _ (List.mem_append_right _ h)))) w_x_keysOf_good
theorem g_x_readParts_keysOf_821 : GoodIn w_x_readParts (va_wsS RX12 821 yX12_keysOf w_x_keysOf) := goodIn_app (nb_g3 (List.mem_cons_of_mem _ (List.mem_append_left _ (List.mem_append_left _ (List.mem_of_getElem? (i := 31) rfl)))) (List.mem_cons_of_mem _ (List.mem_append_left _ (List.mem_append_left _ (List.mem_of_getElem? (i := 32) rfl)))) (List.mem_cons_of_mem _ (List.mem_append_left _ (List.mem_append_left _ (List.mem_of_getElem? (i := 3) rfl)))) (by decide +kernel)) gg_x_readParts_keysOf
theorem gg_x_readParts_nameOf : GoodIn w_x_readParts w_x_nameOf := goodIn_sub (fun w h => (List.mem_cons.mp h).elim (fun e => (List.mem_cons_of_mem _ (List.mem_append_left _ (List.mem_append_right _ (List.mem_append_left _ (List.mem_cons.mpr (Or.inl e))))))) (fun h => (List.mem_append.mp h).elim (fun h => (List.mem_cons_of_mem _ (List.mem_append_left _ (List.mem_append_right _ (List.mem_append_left _ (List.mem_cons_of_mem _ h)))))) (fun h => List.mem_cons_of_mem _ (List.mem_append_right _ h)))) w_x_nameOf_good
theorem g_x_readParts_nameOf_818 : GoodIn w_x_readParts (wsV RX12 818 RX12 yX12_nameOf w_x_nameOf) := goodIn_app (nb_g4 (List.mem_cons_of_mem _ (List.mem_append_left _ (List.mem_append_left _ (List.mem_of_getElem? (i := 0) rfl)))) (List.mem_cons_of_mem _ (List.mem_append_left _ (List.mem_append_left _ (List.mem_of_getElem? (i := 1) rfl)))) (List.mem_cons_of_mem _ (List.mem_append_left _ (List.mem_append_left _ (List.mem_of_getElem? (i := 2) rfl)))) (List.mem_cons_of_mem _ (List.mem_append_left _ (List.mem_append_left _ (List.mem_of_getElem? (i := 3) rfl)))) (by decide +kernel)) gg_x_readParts_nameOf
theorem gg_x_readParts_partAt : GoodIn w_x_readParts w_x_partAt := goodIn_sub (fun w h => (List.mem_cons.mp h).elim (fun e => (List.mem_cons_of_mem _ (List.mem_append_left _ (List.mem_append_right _ (List.mem_append_right _ (List.mem_append_right _ (List.mem_append_right _ (List.mem_append_right _ (List.mem_append_left _ (List.mem_cons.mpr (Or.inl e))))))))))) (fun h => (List.mem_append.mp h).elim (fun h => (List.mem_cons_of_mem _ (List.mem_append_left _ (List.mem_append_right _ (List.mem_append_right _ (List.mem_append_right _ (List.mem_append_right _ (List.mem_append_right _ (List.mem_append_left _ (List.mem_cons_of_mem _ h)))))))))) (fun h => List.mem_cons_of_mem _ (List.mem_append_right _ h)))) w_x_partAt_good
theorem g_x_readParts_partAt_653 : GoodIn w_x_readParts (wsV RX12 653 RX12 yX12_partAt w_x_partAt) := goodIn_app (nb_g4 (List.mem_cons_of_mem _ (List.mem_append_left _ (List.mem_append_left _ (List.mem_of_getElem? (i := 19) rfl)))) (List.mem_cons_of_mem _ (List.mem_append_left _ (List.mem_append_left _ (List.mem_of_getElem? (i := 20) rfl)))) (List.mem_cons_of_mem _ (List.mem_append_left _ (List.mem_append_left _ (List.mem_of_getElem? (i := 21) rfl)))) (List.mem_cons_of_mem _ (List.mem_append_left _ (List.mem_append_left _ (List.mem_of_getElem? (i := 3) rfl)))) (by decide +kernel)) gg_x_readParts_partAt
theorem gg_x_readParts_push : GoodIn w_x_readParts w_x_push := goodIn_sub (fun w h => (List.mem_cons.mp h).elim (fun e => (List.mem_cons_of_mem _ (List.mem_append_left _ (List.mem_append_right _ (List.mem_append_right _ (List.mem_append_right _ (List.mem_append_left _ (List.mem_cons.mpr (Or.inl e))))))))) (fun h => (List.mem_append.mp h).elim (fun h => (List.mem_cons_of_mem _ (List.mem_append_left _ (List.mem_append_right _ (List.mem_append_right _ (List.mem_append_right _ (List.mem_append_left _ (List.mem_cons_of_mem _ h)))))))) (fun h => List.mem_cons_of_mem _ (List.mem_append_right _ h)))) w_x_push_good
theorem g_x_readParts_push_594 : GoodIn w_x_readParts (wsV RX12 594 RX12 yX12_push w_x_push) := goodIn_app (nb_g4 (List.mem_cons_of_mem _ (List.mem_append_left _ (List.mem_append_left _ (List.mem_of_getElem? (i := 7) rfl)))) (List.mem_cons_of_mem _ (List.mem_append_left _ (List.mem_append_left _ (List.mem_of_getElem? (i := 8) rfl)))) (List.mem_cons_of_mem _ (List.mem_append_left _ (List.mem_append_left _ (List.mem_of_getElem? (i := 9) rfl)))) (List.mem_cons_of_mem _ (List.mem_append_left _ (List.mem_append_left _ (List.mem_of_getElem? (i := 3) rfl)))) (by decide +kernel)) gg_x_readParts_push
theorem gg_x_readParts_slice : GoodIn w_x_readParts w_x_slice := goodIn_sub (fun w h => (List.mem_cons.mp h).elim (fun e => (List.mem_cons_of_mem _ (List.mem_append_left _ (List.mem_append_right _ (List.mem_append_right _ (List.mem_append_right _ (List.mem_append_right _ (List.mem_append_right _ (List.mem_append_right _ (List.mem_append_right _ (List.mem_append_left _ (List.mem_cons.mpr (Or.inl e))))))))))))) (fun h => (List.mem_append.mp h).elim (fun h => (List.mem_cons_of_mem _ (List.mem_append_left _ (List.mem_append_right _ (List.mem_append_right _ (List.mem_append_right _ (List.mem_append_right _ (List.mem_append_right _ (List.mem_append_right _ (List.mem_append_right _ (List.mem_append_left _ (List.mem_cons_of_mem _ h)))))))))))) (fun h => List.mem_cons_of_mem _ (List.mem_append_right _ h)))) w_x_slice_good
theorem g_x_readParts_slice_649 : GoodIn w_x_readParts (wsV RX12 649 RX12 yX12_slice w_x_slice) := goodIn_app (nb_g4 (List.mem_cons_of_mem _ (List.mem_append_left _ (List.mem_append_left _ (List.mem_of_getElem? (i := 25) rfl)))) (List.mem_cons_of_mem _ (List.mem_append_left _ (List.mem_append_left _ (List.mem_of_getElem? (i := 26) rfl)))) (List.mem_cons_of_mem _ (List.mem_append_left _ (List.mem_append_left _ (List.mem_of_getElem? (i := 27) rfl)))) (List.mem_cons_of_mem _ (List.mem_append_left _ (List.mem_append_left _ (List.mem_of_getElem? (i := 3) rfl)))) (by decide +kernel)) gg_x_readParts_slice
theorem gg_x_readParts_sweep : GoodIn w_x_readParts w_x_sweep := goodIn_sub (fun w h => (List.mem_cons.mp h).elim (fun e => (List.mem_cons_of_mem _ (List.mem_append_left _ (List.mem_append_right _ (List.mem_append_right _ (List.mem_append_right _ (List.mem_append_right _ (List.mem_append_left _ (List.mem_cons.mpr (Or.inl e)))))))))) (fun h => (List.mem_append.mp h).elim (fun h => (List.mem_cons_of_mem _ (List.mem_append_left _ (List.mem_append_right _ (List.mem_append_right _ (List.mem_append_right _ (List.mem_append_right _ (List.mem_append_left _ (List.mem_cons_of_mem _ h))))))))) (fun h => List.mem_cons_of_mem _ (List.mem_append_right _ h)))) w_x_sweep_good
theorem g_x_readParts_sweep_585 : GoodIn w_x_readParts (wsV RX12 585 RX12 yX12_sweep w_x_sweep) := goodIn_app (nb_g4 (List.mem_cons_of_mem _ (List.mem_append_left _ (List.mem_append_left _ (List.mem_of_getElem? (i := 13) rfl)))) (List.mem_cons_of_mem _ (List.mem_append_left _ (List.mem_append_left _ (List.mem_of_getElem? (i := 14) rfl)))) (List.mem_cons_of_mem _ (List.mem_append_left _ (List.mem_append_left _ (List.mem_of_getElem? (i := 15) rfl)))) (List.mem_cons_of_mem _ (List.mem_append_left _ (List.mem_append_left _ (List.mem_of_getElem? (i := 3) rfl)))) (by decide +kernel)) gg_x_readParts_sweep
theorem gg_x_readParts_valueOf : GoodIn w_x_readParts w_x_valueOf := goodIn_sub (fun w h => (List.mem_cons.mp h).elim (fun e => (List.mem_cons_of_mem _ (List.mem_append_left _ (List.mem_append_right _ (List.mem_append_right _ (List.mem_append_left _ (List.mem_cons.mpr (Or.inl e)))))))) (fun h => (List.mem_append.mp h).elim (fun h => (List.mem_cons_of_mem _ (List.mem_append_left _ (List.mem_append_right _ (List.mem_append_right _ (List.mem_append_left _ (List.mem_cons_of_mem _ h))))))) (fun h => List.mem_cons_of_mem _ (List.mem_append_right _ h)))) w_x_valueOf_good
theorem g_x_readParts_valueOf_604 : GoodIn w_x_readParts (wsV RX12 604 RX12 yX12_valueOf w_x_valueOf) := goodIn_app (nb_g4 (List.mem_cons_of_mem _ (List.mem_append_left _ (List.mem_append_left _ (List.mem_of_getElem? (i := 4) rfl)))) (List.mem_cons_of_mem _ (List.mem_append_left _ (List.mem_append_left _ (List.mem_of_getElem? (i := 5) rfl)))) (List.mem_cons_of_mem _ (List.mem_append_left _ (List.mem_append_left _ (List.mem_of_getElem? (i := 6) rfl)))) (List.mem_cons_of_mem _ (List.mem_append_left _ (List.mem_append_left _ (List.mem_of_getElem? (i := 3) rfl)))) (by decide +kernel)) gg_x_readParts_valueOf
set_option maxHeartbeats 40000000 in
set_option maxRecDepth 100000 in
theorem c_x_readParts (l : Launch) (dC : Nat → ClassId) (dI : Nat → Nat → Nat) (cy : Nat → ClassId) (a : Nat → Nat) (k0 : Nat) (L0 : Nat → Int32) (σ0 : MS) (r0 : Int32 × MS) (h0 : x_readParts k0 0 L0 σ0 = some r0) (sz : Nat) : Met l yX12_readParts w_x_readParts ({ frames := 47, cells := 0, slots := 0, locals := 1296 }) (va_Pc [.ref (a 0), .int (L0 1), .int (L0 2), .int (L0 3)] (nIn (dC, dI) cy sz (vM cy a σ0))) (va_Qv (fun _ : Unit => True) (fun _ t => nOut (dC, dI) cy (va_A (vM cy a σ0) sz) (vM cy a r0.2) t) (va_A (vM cy a σ0) sz)) 0 0 (va_A (vM cy a σ0) sz) := by
  refine Met.ofW (cc := cX12_readParts) (maxL := 7) (ret := none) (by decide) rfl ?_
  intro p e s m args below meth c s₁ B hml hv
  obtain ⟨rfl, hsz, hP, hK, hD0, hG⟩ := hv
  have hx := B.exec
  have hb := B.bytes
  have hr := B.returns
  have hts := atoms_spec (ws := w_x_readParts) B.pre
  have hown : s.vm.findClass RX12 = some m.cls := findClass_of_methodNamed B.named
  have hlocks := B.notSynchronized
  subst hsz
  have hD := hD0.self (sz := s.heap.size)
  generalize hAe : va_A (vM cy a σ0) s.heap.size = A at hD ⊢
  have hA : ∀ q : Nat, s.heap.size ≤ q → A q := fun q h => by rw [← hAe]; exact Or.inr h
  have hS : va_S A s.heap s.heap [] := va_S.rf
  have hl := lv_entry ([.ref (a 0), .int (L0 1), .int (L0 2), .int (L0 3)]) (n := 7) (Nat.le_of_ble_eq_true rfl)
  rw [lg_entry_eq]
  generalize (lg_sl ([.ref (a 0), .int (L0 1), .int (L0 2), .int (L0 3)]) ++ List.replicate (7 - (lg_sl ([.ref (a 0), .int (L0 1), .int (L0 2), .int (L0 3)])).length) Slot.unset).toArray = ls at hl ⊢
  have hl : lv_has ls 7 [(0, .ref (a 0)), (1, .int (L0 1)), (2, .int (L0 2)), (3, .int (L0 3))] := hl
  have blk : ∀ k : Nat, (bT p l e (headSpec w_x_readParts ({ frames := 47, cells := 0, slots := 0, locals := 1296 })).room s m #[.ref (a 0), .int (L0 1), .int (L0 2), .int (L0 3)] below meth c dC dI cy a A (qV dC dI cy a A below #[.ref (a 0), .int (L0 1), .int (L0 2), .int (L0 3)] s) 7 (x_readParts k 0) (fun L => [(0, .ref (a 0)), (1, .int (L 1)), (2, .int (L 2)), (3, .int (L 3))]) 0 (fun L => [])) ∧ (bT p l e (headSpec w_x_readParts ({ frames := 47, cells := 0, slots := 0, locals := 1296 })).room s m #[.ref (a 0), .int (L0 1), .int (L0 2), .int (L0 3)] below meth c dC dI cy a A (qV dC dI cy a A below #[.ref (a 0), .int (L0 1), .int (L0 2), .int (L0 3)] s) 7 (x_readParts k 1) (fun L => [(0, .ref (a 0)), (1, .int (L 1)), (2, .int (L 2)), (3, .int (L 3)), (4, .int (L 4)), (5, .int (L 5))]) 20 (fun L => [])) ∧ (bT p l e (headSpec w_x_readParts ({ frames := 47, cells := 0, slots := 0, locals := 1296 })).room s m #[.ref (a 0), .int (L0 1), .int (L0 2), .int (L0 3)] below meth c dC dI cy a A (qV dC dI cy a A below #[.ref (a 0), .int (L0 1), .int (L0 2), .int (L0 3)] s) 7 (x_readParts k 2) (fun L => [(0, .ref (a 0)), (1, .int (L 1)), (2, .int (L 2)), (3, .int (L 3)), (4, .int (L 4)), (5, .int (L 5))]) 41 (fun L => [])) ∧ (bT p l e (headSpec w_x_readParts ({ frames := 47, cells := 0, slots := 0, locals := 1296 })).room s m #[.ref (a 0), .int (L0 1), .int (L0 2), .int (L0 3)] below meth c dC dI cy a A (qV dC dI cy a A below #[.ref (a 0), .int (L0 1), .int (L0 2), .int (L0 3)] s) 7 (x_readParts k 3) (fun L => [(0, .ref (a 0)), (1, .int (L 1)), (2, .int (L 2)), (3, .int (L 3)), (4, .int (L 4)), (5, .int (L 5)), (6, .int (L 6))]) 107 (fun L => [.ref (a 0), .ref (a 0)])) ∧ (bT p l e (headSpec w_x_readParts ({ frames := 47, cells := 0, slots := 0, locals := 1296 })).room s m #[.ref (a 0), .int (L0 1), .int (L0 2), .int (L0 3)] below meth c dC dI cy a A (qV dC dI cy a A below #[.ref (a 0), .int (L0 1), .int (L0 2), .int (L0 3)] s) 7 (x_readParts k 4) (fun L => [(0, .ref (a 0)), (1, .int (L 1)), (2, .int (L 2)), (3, .int (L 3)), (4, .int (L 4)), (5, .int (L 5)), (6, .int (L 6))]) 135 (fun L => [.ref (a 0), .ref (a 0)])) ∧ (bT p l e (headSpec w_x_readParts ({ frames := 47, cells := 0, slots := 0, locals := 1296 })).room s m #[.ref (a 0), .int (L0 1), .int (L0 2), .int (L0 3)] below meth c dC dI cy a A (qV dC dI cy a A below #[.ref (a 0), .int (L0 1), .int (L0 2), .int (L0 3)] s) 7 (x_readParts k 5) (fun L => [(0, .ref (a 0)), (1, .int (L 1)), (2, .int (L 2)), (3, .int (L 3)), (4, .int (L 4)), (5, .int (L 5)), (6, .int (L 6))]) 157 (fun L => [.int (L 100), .ref (a 0), .ref (a 0)])) ∧ (bT p l e (headSpec w_x_readParts ({ frames := 47, cells := 0, slots := 0, locals := 1296 })).room s m #[.ref (a 0), .int (L0 1), .int (L0 2), .int (L0 3)] below meth c dC dI cy a A (qV dC dI cy a A below #[.ref (a 0), .int (L0 1), .int (L0 2), .int (L0 3)] s) 7 (x_readParts k 6) (fun L => [(0, .ref (a 0)), (1, .int (L 1)), (2, .int (L 2)), (3, .int (L 3)), (4, .int (L 4)), (5, .int (L 5))]) 181 (fun L => [])) := by
    intro k
    induction k with
    | zero => exact ⟨fun L σ r h => (by cases h), fun L σ r h => (by cases h), fun L σ r h => (by cases h), fun L σ r h => (by cases h), fun L σ r h => (by cases h), fun L σ r h => (by cases h), fun L σ r h => (by cases h)⟩
    | succ k ih =>
      refine ⟨?_, ?_, ?_, ?_, ?_, ?_, ?_⟩
      · intro L σ r h H locs ls hP hD hS hl
        rw [x_readParts] at h
        refine lv_aload_n hx hb dX12_readParts_0 rfl (lv_at hl 0 rfl) ?_
        refine lv_iload_n hx hb dX12_readParts_1 rfl (lv_at hl 1 rfl) ?_
        obtain ⟨r1, hc1, h⟩ := ob_ex h
        refine nc_Vi (As := [.int (L 1)]) (rest := []) ⟨hx, hb, hml, hown, hts⟩ (c_x_nameOf l dC dI cy a k (upd (fun _ => 0) 1 ((L 1))) σ r1 hc1 H.size) (cwV 1 hts g_x_readParts_nameOf_818 rfl rfl rfl hd_x_nameOf ⟨Nat.le_of_ble_eq_true rfl, Nat.le_of_ble_eq_true rfl⟩) hK hG hA hP hD hS rfl hl.1 rfl (Nat.le_of_ble_eq_true rfl) dX12_readParts_2 ⟨Nat.le_refl _, Nat.le_refl _⟩ (fun H locs hP hD hS => ?_)
        refine lv_istore (lv' := [(4, .int r1.1), (0, .ref (a 0)), (1, .int (L 1)), (2, .int (L 2)), (3, .int (L 3))]) hx hb dX12_readParts_5 hl (by decide) rfl (fun ls hl => ?_)
        refine lv_iload_n hx hb dX12_readParts_7 rfl (lv_at hl 3 rfl) ?_
        refine lv_istore (lv' := [(5, .int (L 2)), (4, .int r1.1), (0, .ref (a 0)), (1, .int (L 1)), (2, .int (L 2)), (3, .int (L 3))]) hx hb dX12_readParts_8 hl (by decide) rfl (fun ls hl => ?_)
        refine lv_aload_n hx hb dX12_readParts_10 rfl (lv_at hl 2 rfl) ?_
        refine lv_aload_n hx hb dX12_readParts_11 rfl (lv_at hl 2 rfl) ?_
        refine lv_iload hx hb dX12_readParts_12 (lv_at hl 1 rfl) ?_
        obtain ⟨r2, hc2, h⟩ := ob_ex h
        refine nc_Vi (As := [.int r1.1]) (rest := [.ref (a 0)]) ⟨hx, hb, hml, hown, hts⟩ (c_x_valueOf l dC dI cy a k (upd (fun _ => 0) 1 r1.1) r1.2 r2 hc2 H.size) (cwV 1 hts g_x_readParts_valueOf_604 rfl rfl rfl hd_x_valueOf ⟨Nat.le_of_ble_eq_true rfl, Nat.le_of_ble_eq_true rfl⟩) hK hG hA hP hD hS rfl hl.1 rfl (Nat.le_of_ble_eq_true rfl) dX12_readParts_14 ⟨Nat.le_refl _, Nat.le_refl _⟩ (fun H locs hP hD hS => ?_)
        obtain ⟨r3, hc3, h⟩ := ob_ex h
        refine nc_Vv (As := [.int r2.1]) (rest := []) ⟨hx, hb, hml, hown, hts⟩ (c_x_push l dC dI cy a k (upd (fun _ => 0) 1 r2.1) r2.2 r3 hc3 H.size) (cwV 1 hts g_x_readParts_push_594 rfl rfl rfl hd_x_push ⟨Nat.le_of_ble_eq_true rfl, Nat.le_of_ble_eq_true rfl⟩) hK hG hA hP hD hS rfl hl.1 rfl (Nat.le_of_ble_eq_true rfl) dX12_readParts_17 ⟨Nat.le_refl _, Nat.le_refl _⟩ (fun H locs hP hD hS => ?_)
        exact ih.2.1 (upd (upd L 4 r1.1) 5 ((L 2))) r3.2 r h H locs ls hP hD hS (lv_sub hl [2, 3, 4, 5, 1, 0] rfl)
      · intro L σ r h H locs ls hP hD hS hl
        rw [x_readParts] at h
        refine lv_iload hx hb dX12_readParts_20 (lv_at hl 4 rfl) ?_
        refine lv_iload_n hx hb dX12_readParts_22 rfl (lv_at hl 1 rfl) ?_
        refine lv_icmp_eq (tgt := 181) hx hb dX12_readParts_23 (by decide) (fun c1 => ?_) (fun c1 => ?_)
        · rw [if_pos c1] at h
          exact ih.2.2.2.2.2.2 L σ r h H locs ls hP hD hS (lv_sub hl [0, 1, 2, 3, 4, 5] rfl)
        · rw [if_neg c1] at h
          refine lv_iload_n hx hb dX12_readParts_26 rfl (lv_at hl 3 rfl) ?_
          refine lv_if_ne (tgt := 41) hx hb dX12_readParts_27 (by decide) (fun c2 => ?_) (fun c2 => ?_)
          · rw [if_neg c2] at h
            exact ih.2.2.1 L σ r h H locs ls hP hD hS (lv_sub hl [0, 1, 2, 3, 4, 5] rfl)
          · rw [if_pos c2] at h
            refine lv_aload_n hx hb dX12_readParts_30 rfl (lv_at hl 0 rfl) ?_
            refine ng_19 hx hb hts in_x_readParts hown hK hP (hts _ (List.mem_cons_of_mem _ (List.mem_append_left _ (List.mem_append_left _ (List.mem_of_getElem? (i := 10) rfl))))) dX12_readParts_31 ?_
            refine lv_iload hx hb dX12_readParts_34 (lv_at hl 4 rfl) ?_
            obtain ⟨q3, h⟩ := nb_ite1 h
            refine nl_9 hx hb hK hP q3 dX12_readParts_36 ?_
            refine lv_iload_n hx hb dX12_readParts_37 rfl (lv_at hl 1 rfl) ?_
            refine lv_icmp_eq (tgt := 181) hx hb dX12_readParts_38 (by decide) (fun c4 => ?_) (fun c4 => ?_)
            · rw [if_pos c4] at h
              exact ih.2.2.2.2.2.2 L σ r h H locs ls hP hD hS (lv_sub hl [0, 1, 2, 3, 4, 5] rfl)
            · rw [if_neg c4] at h
              exact ih.2.2.1 L σ r h H locs ls hP hD hS (lv_sub hl [0, 1, 2, 3, 4, 5] rfl)
      · intro L σ r h H locs ls hP hD hS hl
        rw [x_readParts] at h
        refine lv_aload_n hx hb dX12_readParts_41 rfl (lv_at hl 0 rfl) ?_
        refine ng_56 hx hb hts in_x_readParts hown hK hP (hts _ (List.mem_cons_of_mem _ (List.mem_append_left _ (List.mem_append_left _ (List.mem_of_getElem? (i := 11) rfl))))) dX12_readParts_42 ?_
        refine lv_if_ne (tgt := 181) hx hb dX12_readParts_45 (by decide) (fun c1 => ?_) (fun c1 => ?_)
        · rw [if_neg c1] at h
          exact ih.2.2.2.2.2.2 L σ r h H locs ls hP hD hS (lv_sub hl [0, 1, 2, 3, 4, 5] rfl)
        · rw [if_pos c1] at h
          refine lv_aload_n hx hb dX12_readParts_48 rfl (lv_at hl 0 rfl) ?_
          refine ng_19 hx hb hts in_x_readParts hown hK hP (hts _ (List.mem_cons_of_mem _ (List.mem_append_left _ (List.mem_append_left _ (List.mem_of_getElem? (i := 10) rfl))))) dX12_readParts_49 ?_
          refine lv_iload hx hb dX12_readParts_52 (lv_at hl 4 rfl) ?_
          obtain ⟨q2, h⟩ := nb_ite1 h
          refine nl_9 hx hb hK hP q2 dX12_readParts_54 ?_
          refine lv_istore (lv' := [(4, .int (σ.2.2 9 ((L 4)).toNatClampNeg)), (0, .ref (a 0)), (1, .int (L 1)), (2, .int (L 2)), (3, .int (L 3)), (5, .int (L 5))]) hx hb dX12_readParts_55 hl (by decide) rfl (fun ls hl => ?_)
          refine lv_aload_n hx hb dX12_readParts_57 rfl (lv_at hl 1 rfl) ?_
          refine lv_ldcw (v := 780000) hx hb hown (hts _ (List.mem_cons_of_mem _ (List.mem_append_left _ (List.mem_append_left _ (List.mem_of_getElem? (i := 12) rfl))))) dX12_readParts_58 ?_
          obtain ⟨r3, hc3, h⟩ := ob_ex h
          refine nc_Vv (As := [.int 780000]) (rest := []) ⟨hx, hb, hml, hown, hts⟩ (c_x_sweep l dC dI cy a k (upd (fun _ => 0) 1 780000) σ r3 hc3 H.size) (cwV 1 hts g_x_readParts_sweep_585 rfl rfl rfl hd_x_sweep ⟨Nat.le_of_ble_eq_true rfl, Nat.le_of_ble_eq_true rfl⟩) hK hG hA hP hD hS rfl hl.1 rfl (Nat.le_of_ble_eq_true rfl) dX12_readParts_61 ⟨Nat.le_refl _, Nat.le_refl _⟩ (fun H locs hP hD hS => ?_)
          refine lv_aload_n hx hb dX12_readParts_64 rfl (lv_at hl 1 rfl) ?_
          refine ng_58 hx hb hts in_x_readParts hown hK hP (hts _ (List.mem_cons_of_mem _ (List.mem_append_left _ (List.mem_append_left _ (List.mem_of_getElem? (i := 16) rfl))))) dX12_readParts_65 ?_
          refine lv_aload_n hx hb dX12_readParts_68 rfl (lv_at hl 1 rfl) ?_
          refine ng_59 hx hb hts in_x_readParts hown hK hP (hts _ (List.mem_cons_of_mem _ (List.mem_append_left _ (List.mem_append_left _ (List.mem_of_getElem? (i := 17) rfl))))) dX12_readParts_69 ?_
          refine lv_iconst (v := 1) hx hb dX12_readParts_72 (by decide) ?_
          refine lv_isub hx hb dX12_readParts_73 ?_
          obtain ⟨q4, h⟩ := nb_ite1 h
          refine nl_29 hx hb hK hP q4 dX12_readParts_74 ?_
          refine lv_istore (lv' := [(6, .int (r3.2.2.2 29 ((((r3.2.1 59)) - 1)).toNatClampNeg)), (4, .int (σ.2.2 9 ((L 4)).toNatClampNeg)), (0, .ref (a 0)), (1, .int (L 1)), (2, .int (L 2)), (3, .int (L 3)), (5, .int (L 5))]) hx hb dX12_readParts_75 hl (by decide) rfl (fun ls hl => ?_)
          refine lv_aload_n hx hb dX12_readParts_77 rfl (lv_at hl 2 rfl) ?_
          refine lv_aload_n hx hb dX12_readParts_78 rfl (lv_at hl 2 rfl) ?_
          refine lv_aload_n hx hb dX12_readParts_79 rfl (lv_at hl 2 rfl) ?_
          refine ng_14 hx hb hts in_x_readParts hown hK hP (hts _ (List.mem_cons_of_mem _ (List.mem_append_left _ (List.mem_append_left _ (List.mem_of_getElem? (i := 18) rfl))))) dX12_readParts_80 ?_
          refine lv_iload hx hb dX12_readParts_83 (lv_at hl 1 rfl) ?_
          obtain ⟨q5, h⟩ := nb_ite1 h
          refine nl_4 hx hb hK hP q5 dX12_readParts_85 ?_
          refine lv_bipush (v := 21) hx hb dX12_readParts_86 (by decide) ?_
          refine lv_icmp_ne (tgt := 107) hx hb dX12_readParts_88 (by decide) (fun c6 => ?_) (fun c6 => ?_)
          · rw [if_neg c6] at h
            exact ih.2.2.2.1 (upd (upd L 4 ((σ.2.2 9 ((L 4)).toNatClampNeg))) 6 ((r3.2.2.2 29 ((((r3.2.1 59)) - 1)).toNatClampNeg))) r3.2 r h H locs ls hP hD hS (lv_sub hl [2, 3, 4, 5, 1, 6, 0] rfl)
          · rw [if_pos c6] at h
            refine lv_aload_n hx hb dX12_readParts_91 rfl (lv_at hl 2 rfl) ?_
            refine lv_iload hx hb dX12_readParts_92 (lv_at hl 0 rfl) ?_
            refine lv_aload_n hx hb dX12_readParts_94 rfl (lv_at hl 2 rfl) ?_
            refine ng_58 hx hb hts in_x_readParts hown hK hP (hts _ (List.mem_cons_of_mem _ (List.mem_append_left _ (List.mem_append_left _ (List.mem_of_getElem? (i := 16) rfl))))) dX12_readParts_95 ?_
            refine lv_iload hx hb dX12_readParts_98 (lv_at hl 6 rfl) ?_
            obtain ⟨q7, h⟩ := nb_ite1 h
            refine nl_29 hx hb hK hP q7 dX12_readParts_100 ?_
            obtain ⟨r8, hc8, h⟩ := ob_ex h
            refine nc_Vi (As := [.int (r3.2.2.2 29 ((((r3.2.1 59)) - 1)).toNatClampNeg), .int (r3.2.2.2 29 ((L 5)).toNatClampNeg)]) (rest := [.ref (a 0), .ref (a 0)]) ⟨hx, hb, hml, hown, hts⟩ (c_x_partAt l dC dI cy a k (upd (upd (fun _ => 0) 1 ((r3.2.2.2 29 ((((r3.2.1 59)) - 1)).toNatClampNeg))) 2 ((r3.2.2.2 29 ((L 5)).toNatClampNeg))) r3.2 r8 hc8 H.size) (cwV 2 hts g_x_readParts_partAt_653 rfl rfl rfl hd_x_partAt ⟨Nat.le_of_ble_eq_true rfl, Nat.le_of_ble_eq_true rfl⟩) hK hG hA hP hD hS rfl hl.1 rfl (Nat.le_of_ble_eq_true rfl) dX12_readParts_101 ⟨Nat.le_refl _, Nat.le_refl _⟩ (fun H locs hP hD hS => ?_)
            refine lv_goto (tgt := 157) hx hb dX12_readParts_104 (by decide) ?_
            exact ih.2.2.2.2.2.1 (upd (upd (upd L 4 ((σ.2.2 9 ((L 4)).toNatClampNeg))) 6 ((r3.2.2.2 29 ((((r3.2.1 59)) - 1)).toNatClampNeg))) 100 r8.1) r8.2 r h H locs ls hP hD hS (lv_sub hl [2, 3, 4, 5, 1, 6, 0] rfl)
      · intro L σ r h H locs ls hP hD hS hl
        rw [x_readParts] at h
        refine lv_aload_n hx hb dX12_readParts_107 rfl (lv_at hl 0 rfl) ?_
        refine ng_14 hx hb hts in_x_readParts hown hK hP (hts _ (List.mem_cons_of_mem _ (List.mem_append_left _ (List.mem_append_left _ (List.mem_of_getElem? (i := 18) rfl))))) dX12_readParts_108 ?_
        refine lv_iload hx hb dX12_readParts_111 (lv_at hl 4 rfl) ?_
        obtain ⟨q1, h⟩ := nb_ite1 h
        refine nl_4 hx hb hK hP q1 dX12_readParts_113 ?_
        refine lv_bipush (v := 23) hx hb dX12_readParts_114 (by decide) ?_
        refine lv_icmp_ne (tgt := 135) hx hb dX12_readParts_116 (by decide) (fun c2 => ?_) (fun c2 => ?_)
        · rw [if_neg c2] at h
          exact ih.2.2.2.2.1 L σ r h H locs ls hP hD hS (lv_sub hl [0, 1, 2, 3, 4, 5, 6] rfl)
        · rw [if_pos c2] at h
          refine lv_aload_n hx hb dX12_readParts_119 rfl (lv_at hl 0 rfl) ?_
          refine lv_iload hx hb dX12_readParts_120 (lv_at hl 6 rfl) ?_
          refine lv_aload_n hx hb dX12_readParts_122 rfl (lv_at hl 0 rfl) ?_
          refine ng_58 hx hb hts in_x_readParts hown hK hP (hts _ (List.mem_cons_of_mem _ (List.mem_append_left _ (List.mem_append_left _ (List.mem_of_getElem? (i := 16) rfl))))) dX12_readParts_123 ?_
          refine lv_iload hx hb dX12_readParts_126 (lv_at hl 5 rfl) ?_
          obtain ⟨q3, h⟩ := nb_ite1 h
          refine nl_29 hx hb hK hP q3 dX12_readParts_128 ?_
          obtain ⟨r4, hc4, h⟩ := ob_ex h
          refine nc_Vi (As := [.int (L 6), .int (σ.2.2 29 ((L 5)).toNatClampNeg)]) (rest := [.ref (a 0), .ref (a 0)]) ⟨hx, hb, hml, hown, hts⟩ (c_x_image l dC dI cy a k (upd (upd (fun _ => 0) 1 ((L 6))) 2 ((σ.2.2 29 ((L 5)).toNatClampNeg))) σ r4 hc4 H.size) (cwV 2 hts g_x_readParts_image_656 rfl rfl rfl hd_x_image ⟨Nat.le_of_ble_eq_true rfl, Nat.le_of_ble_eq_true rfl⟩) hK hG hA hP hD hS rfl hl.1 rfl (Nat.le_of_ble_eq_true rfl) dX12_readParts_129 ⟨Nat.le_refl _, Nat.le_refl _⟩ (fun H locs hP hD hS => ?_)
          refine lv_goto (tgt := 157) hx hb dX12_readParts_132 (by decide) ?_
          exact ih.2.2.2.2.2.1 (upd L 100 r4.1) r4.2 r h H locs ls hP hD hS (lv_sub hl [0, 1, 2, 3, 4, 5, 6] rfl)
      · intro L σ r h H locs ls hP hD hS hl
        rw [x_readParts] at h
        refine lv_aload_n hx hb dX12_readParts_135 rfl (lv_at hl 0 rfl) ?_
        refine lv_iload hx hb dX12_readParts_136 (lv_at hl 6 rfl) ?_
        refine lv_aload_n hx hb dX12_readParts_138 rfl (lv_at hl 0 rfl) ?_
        refine ng_58 hx hb hts in_x_readParts hown hK hP (hts _ (List.mem_cons_of_mem _ (List.mem_append_left _ (List.mem_append_left _ (List.mem_of_getElem? (i := 16) rfl))))) dX12_readParts_139 ?_
        refine lv_iload hx hb dX12_readParts_142 (lv_at hl 5 rfl) ?_
        obtain ⟨q1, h⟩ := nb_ite1 h
        refine nl_29 hx hb hK hP q1 dX12_readParts_144 ?_
        refine lv_aload_n hx hb dX12_readParts_145 rfl (lv_at hl 0 rfl) ?_
        refine ng_58 hx hb hts in_x_readParts hown hK hP (hts _ (List.mem_cons_of_mem _ (List.mem_append_left _ (List.mem_append_left _ (List.mem_of_getElem? (i := 16) rfl))))) dX12_readParts_146 ?_
        refine lv_iload hx hb dX12_readParts_149 (lv_at hl 5 rfl) ?_
        refine lv_iconst (v := 1) hx hb dX12_readParts_151 (by decide) ?_
        refine lv_iadd hx hb dX12_readParts_152 ?_
        obtain ⟨q2, h⟩ := nb_ite1 h
        refine nl_29 hx hb hK hP q2 dX12_readParts_153 ?_
        obtain ⟨r3, hc3, h⟩ := ob_ex h
        refine nc_Vi (As := [.int (L 6), .int (σ.2.2 29 ((L 5)).toNatClampNeg), .int (σ.2.2 29 ((((L 5)) + 1)).toNatClampNeg)]) (rest := [.ref (a 0), .ref (a 0)]) ⟨hx, hb, hml, hown, hts⟩ (c_x_slice l dC dI cy a k (upd (upd (upd (fun _ => 0) 1 ((L 6))) 2 ((σ.2.2 29 ((L 5)).toNatClampNeg))) 3 ((σ.2.2 29 ((((L 5)) + 1)).toNatClampNeg))) σ r3 hc3 H.size) (cwV 3 hts g_x_readParts_slice_649 rfl rfl rfl hd_x_slice ⟨Nat.le_of_ble_eq_true rfl, Nat.le_of_ble_eq_true rfl⟩) hK hG hA hP hD hS rfl hl.1 rfl (Nat.le_of_ble_eq_true rfl) dX12_readParts_154 ⟨Nat.le_refl _, Nat.le_refl _⟩ (fun H locs hP hD hS => ?_)
        exact ih.2.2.2.2.2.1 (upd L 100 r3.1) r3.2 r h H locs ls hP hD hS (lv_sub hl [0, 1, 2, 3, 4, 5, 6] rfl)
      · intro L σ r h H locs ls hP hD hS hl
        rw [x_readParts] at h
        obtain ⟨r1, hc1, h⟩ := ob_ex h
        refine nc_Vi (As := [.int (L 100)]) (rest := [.ref (a 0)]) ⟨hx, hb, hml, hown, hts⟩ (c_x_answer l dC dI cy a k (upd (fun _ => 0) 1 ((L 100))) σ r1 hc1 H.size) (cwV 1 hts g_x_readParts_answer_591 rfl rfl rfl hd_x_answer ⟨Nat.le_of_ble_eq_true rfl, Nat.le_of_ble_eq_true rfl⟩) hK hG hA hP hD hS rfl hl.1 rfl (Nat.le_of_ble_eq_true rfl) dX12_readParts_157 ⟨Nat.le_refl _, Nat.le_refl _⟩ (fun H locs hP hD hS => ?_)
        obtain ⟨r2, hc2, h⟩ := ob_ex h
        refine nc_Vv (As := [.int r1.1]) (rest := []) ⟨hx, hb, hml, hown, hts⟩ (c_x_push l dC dI cy a k (upd (fun _ => 0) 1 r1.1) r1.2 r2 hc2 H.size) (cwV 1 hts g_x_readParts_push_594 rfl rfl rfl hd_x_push ⟨Nat.le_of_ble_eq_true rfl, Nat.le_of_ble_eq_true rfl⟩) hK hG hA hP hD hS rfl hl.1 rfl (Nat.le_of_ble_eq_true rfl) dX12_readParts_160 ⟨Nat.le_refl _, Nat.le_refl _⟩ (fun H locs hP hD hS => ?_)
        refine lv_iload hx hb dX12_readParts_163 (lv_at hl 5 rfl) ?_
        refine lv_aload_n hx hb dX12_readParts_165 rfl (lv_at hl 0 rfl) ?_
        refine ng_14 hx hb hts in_x_readParts hown hK hP (hts _ (List.mem_cons_of_mem _ (List.mem_append_left _ (List.mem_append_left _ (List.mem_of_getElem? (i := 18) rfl))))) dX12_readParts_166 ?_
        refine lv_iload hx hb dX12_readParts_169 (lv_at hl 4 rfl) ?_
        obtain ⟨q3, h⟩ := nb_ite1 h
        refine nl_4 hx hb hK hP q3 dX12_readParts_171 ?_
        obtain ⟨r4, hc4, h⟩ := ob_ex h
        refine nc_Si (As := [.int (r2.2.2.2 4 ((L 4)).toNatClampNeg)]) (rest := [.int (L 5)]) ⟨hx, hb, hml, hown, hts⟩ (c_x_keysOf l dC dI cy a k (upd (fun _ => 0) 0 ((r2.2.2.2 4 ((L 4)).toNatClampNeg))) r2.2 r4 hc4 H.size) (va_cwS 1 hts g_x_readParts_keysOf_821 rfl rfl rfl hd_x_keysOf ⟨Nat.le_of_ble_eq_true rfl, Nat.le_of_ble_eq_true rfl⟩) hK hG hA hP hD hS rfl hl.1 rfl (Nat.le_of_ble_eq_true rfl) dX12_readParts_172 ⟨Nat.le_refl _, Nat.le_refl _⟩ (fun H locs hP hD hS => ?_)
        refine lv_iadd hx hb dX12_readParts_175 ?_
        refine lv_istore (lv' := [(5, .int (((L 5)) + r4.1)), (0, .ref (a 0)), (1, .int (L 1)), (2, .int (L 2)), (3, .int (L 3)), (4, .int (L 4)), (6, .int (L 6))]) hx hb dX12_readParts_176 hl (by decide) rfl (fun ls hl => ?_)
        refine lv_goto (tgt := 20) hx hb dX12_readParts_178 (by decide) ?_
        exact ih.2.1 (upd L 5 ((((L 5)) + r4.1))) r4.2 r h H locs ls hP hD hS (lv_sub hl [1, 2, 3, 4, 5, 0] rfl)
      · intro L σ r h H locs ls hP hD hS hl
        rw [x_readParts] at h
        cases h
        exact W.vret hx hb hr (fun t ht hW => ⟨⟨(), rfl, trivial, by rw [ht]; exact hP, va_K.moved hW.alike hK, hD⟩, hS.F ht⟩) hS.2.2 dX12_readParts_181
  exact (blk k0).1 L0 σ0 r0 h0 s.heap [] ls hP hD hS hl
/-! assign -/
def x_assign : Nat → Nat → (Nat → Int32) → MS → Option (Int32 × MS)
  | 0, _, _, _ => none
  | k + 1, 0, L, σ => if ((σ.1 56)) ≤ 0 then (x_assign k 1 L σ) else (some (0, σ))
  | k + 1, 1, L, σ => ob (x_valueOf k 0 (upd (fun _ => 0) 1 ((L 1))) σ) (fun r1 => ob (x_size k 0 (upd (fun _ => 0) 1 r1.1) r1.2) (fun r2 => ob (x_size k 0 (upd (fun _ => 0) 1 ((L 2))) r2.2) (fun r3 => if ((((((((r2.2.1 64)) + ((r2.2.1 65)))) - r2.1)) + r3.1)) ≤ 40000 then (x_assign k 2 (upd L 3 r2.1) r3.2) else (ob (x_fail k 0 (upd (fun _ => 0) 1 6) r3.2) (fun r5 => some (0, r5.2))))))
  | k + 1, 2, L, σ => ob (x_size k 0 (upd (fun _ => 0) 1 ((L 2))) σ) (fun r1 => x_assign k 3 L (upd r1.2.1 64 ((((σ.1 64)) + ((r1.1 - ((L 3)))))), r1.2.2.1, r1.2.2.2))
  | k + 1, 3, L, σ => ob (x_bindOne k 0 (upd (upd (fun _ => 0) 1 ((L 1))) 2 ((L 2))) σ) (fun r1 => some (0, r1.2))
  | _ + 1, _ + 4, _, _ => none
def o_x_assign : List Cond := [.fieldLink RX12 362 "SetHouseModel" "err" "I", .methodLink RX12 604 yX12_valueOf, .instanceMethod yX12_valueOf, .selects RX12 yX12_valueOf yX12_valueOf, .initialized RX12, .methodLink RX12 432 yX12_size, .instanceMethod yX12_size, .selects RX12 yX12_size yX12_size, .fieldLink RX12 852 "SetHouseModel" "total" "I", .fieldLink RX12 855 "SetHouseModel" "pointsTotal" "I", .constant RX12 858 (40000), .methodLink RX12 369 yX12_fail, .instanceMethod yX12_fail, .selects RX12 yX12_fail yX12_fail, .methodLink RX12 694 yX12_bindOne, .instanceMethod yX12_bindOne, .selects RX12 yX12_bindOne yX12_bindOne]
theorem o_x_assign_good : o_x_assign.all goodWord = true := by decide +kernel
def p_x_assign : List Cond := o_x_assign ++ ((.code yX12_valueOf cX12_valueOf 2 (some .int) :: p_x_valueOf) ++ ((.code yX12_size cX12_size 2 (some .int) :: p_x_size) ++ ((.code yX12_fail cX12_fail 2 none :: p_x_fail) ++ ((.code yX12_bindOne cX12_bindOne 3 none :: p_x_bindOne) ++ []))))
theorem p_x_assign_good : p_x_assign.all goodWord = true := nb_all2 o_x_assign_good (nb_all2 (nb_allc (by decide +kernel) p_x_valueOf_good) (nb_all2 (nb_allc (by decide +kernel) p_x_size_good) (nb_all2 (nb_allc (by decide +kernel) p_x_fail_good) (nb_all2 (nb_allc (by decide +kernel) p_x_bindOne_good) rfl))))
def w_x_assign : List Cond := .code yX12_assign cX12_assign 4 none :: (p_x_assign ++ fM)
theorem w_x_assign_good : w_x_assign.all goodWord = true := nb_allc (by decide +kernel) (nb_all2 p_x_assign_good fM_good)
theorem in_x_assign : ∀ w ∈ wsX120, w ∈ w_x_assign := fun _ h => List.mem_cons_of_mem _ (List.mem_append_right _ h)
theorem hd_x_assign : yX12_assign.cls = RX12 ∧ yX12_assign.cls ≠ "java/lang/invoke/MethodHandle" ∧ yX12_assign.cls ≠ "java/lang/invoke/VarHandle" ∧ (parseMethodDescriptor yX12_assign.desc).map (fun d => d.parameters.length) = some 2 := by decide +kernel
theorem gg_x_assign_bindOne : GoodIn w_x_assign w_x_bindOne := goodIn_sub (fun w h => (List.mem_cons.mp h).elim (fun e => (List.mem_cons_of_mem _ (List.mem_append_left _ (List.mem_append_right _ (List.mem_append_right _ (List.mem_append_right _ (List.mem_append_right _ (List.mem_append_left _ (List.mem_cons.mpr (Or.inl e)))))))))) (fun h => (List.mem_append.mp h).elim (fun h => (List.mem_cons_of_mem _ (List.mem_append_left _ (List.mem_append_right _ (List.mem_append_right _ (List.mem_append_right _ (List.mem_append_right _ (List.mem_append_left _ (List.mem_cons_of_mem _ h))))))))) (fun h => List.mem_cons_of_mem _ (List.mem_append_right _ h)))) w_x_bindOne_good
theorem g_x_assign_bindOne_694 : GoodIn w_x_assign (wsV RX12 694 RX12 yX12_bindOne w_x_bindOne) := goodIn_app (nb_g4 (List.mem_cons_of_mem _ (List.mem_append_left _ (List.mem_append_left _ (List.mem_of_getElem? (i := 14) rfl)))) (List.mem_cons_of_mem _ (List.mem_append_left _ (List.mem_append_left _ (List.mem_of_getElem? (i := 15) rfl)))) (List.mem_cons_of_mem _ (List.mem_append_left _ (List.mem_append_left _ (List.mem_of_getElem? (i := 16) rfl)))) (List.mem_cons_of_mem _ (List.mem_append_left _ (List.mem_append_left _ (List.mem_of_getElem? (i := 4) rfl)))) (by decide +kernel)) gg_x_assign_bindOne
theorem gg_x_assign_fail : GoodIn w_x_assign w_x_fail := goodIn_sub (fun w h => (List.mem_cons.mp h).elim (fun e => (List.mem_cons_of_mem _ (List.mem_append_left _ (List.mem_append_right _ (List.mem_append_right _ (List.mem_append_right _ (List.mem_append_left _ (List.mem_cons.mpr (Or.inl e))))))))) (fun h => (List.mem_append.mp h).elim (fun h => (List.mem_cons_of_mem _ (List.mem_append_left _ (List.mem_append_right _ (List.mem_append_right _ (List.mem_append_right _ (List.mem_append_left _ (List.mem_cons_of_mem _ h)))))))) (fun h => List.mem_cons_of_mem _ (List.mem_append_right _ h)))) w_x_fail_good
theorem g_x_assign_fail_369 : GoodIn w_x_assign (wsV RX12 369 RX12 yX12_fail w_x_fail) := goodIn_app (nb_g4 (List.mem_cons_of_mem _ (List.mem_append_left _ (List.mem_append_left _ (List.mem_of_getElem? (i := 11) rfl)))) (List.mem_cons_of_mem _ (List.mem_append_left _ (List.mem_append_left _ (List.mem_of_getElem? (i := 12) rfl)))) (List.mem_cons_of_mem _ (List.mem_append_left _ (List.mem_append_left _ (List.mem_of_getElem? (i := 13) rfl)))) (List.mem_cons_of_mem _ (List.mem_append_left _ (List.mem_append_left _ (List.mem_of_getElem? (i := 4) rfl)))) (by decide +kernel)) gg_x_assign_fail
theorem gg_x_assign_size : GoodIn w_x_assign w_x_size := goodIn_sub (fun w h => (List.mem_cons.mp h).elim (fun e => (List.mem_cons_of_mem _ (List.mem_append_left _ (List.mem_append_right _ (List.mem_append_right _ (List.mem_append_left _ (List.mem_cons.mpr (Or.inl e)))))))) (fun h => (List.mem_append.mp h).elim (fun h => (List.mem_cons_of_mem _ (List.mem_append_left _ (List.mem_append_right _ (List.mem_append_right _ (List.mem_append_left _ (List.mem_cons_of_mem _ h))))))) (fun h => List.mem_cons_of_mem _ (List.mem_append_right _ h)))) w_x_size_good
theorem g_x_assign_size_432 : GoodIn w_x_assign (wsV RX12 432 RX12 yX12_size w_x_size) := goodIn_app (nb_g4 (List.mem_cons_of_mem _ (List.mem_append_left _ (List.mem_append_left _ (List.mem_of_getElem? (i := 5) rfl)))) (List.mem_cons_of_mem _ (List.mem_append_left _ (List.mem_append_left _ (List.mem_of_getElem? (i := 6) rfl)))) (List.mem_cons_of_mem _ (List.mem_append_left _ (List.mem_append_left _ (List.mem_of_getElem? (i := 7) rfl)))) (List.mem_cons_of_mem _ (List.mem_append_left _ (List.mem_append_left _ (List.mem_of_getElem? (i := 4) rfl)))) (by decide +kernel)) gg_x_assign_size
theorem gg_x_assign_valueOf : GoodIn w_x_assign w_x_valueOf := goodIn_sub (fun w h => (List.mem_cons.mp h).elim (fun e => (List.mem_cons_of_mem _ (List.mem_append_left _ (List.mem_append_right _ (List.mem_append_left _ (List.mem_cons.mpr (Or.inl e))))))) (fun h => (List.mem_append.mp h).elim (fun h => (List.mem_cons_of_mem _ (List.mem_append_left _ (List.mem_append_right _ (List.mem_append_left _ (List.mem_cons_of_mem _ h)))))) (fun h => List.mem_cons_of_mem _ (List.mem_append_right _ h)))) w_x_valueOf_good
theorem g_x_assign_valueOf_604 : GoodIn w_x_assign (wsV RX12 604 RX12 yX12_valueOf w_x_valueOf) := goodIn_app (nb_g4 (List.mem_cons_of_mem _ (List.mem_append_left _ (List.mem_append_left _ (List.mem_of_getElem? (i := 1) rfl)))) (List.mem_cons_of_mem _ (List.mem_append_left _ (List.mem_append_left _ (List.mem_of_getElem? (i := 2) rfl)))) (List.mem_cons_of_mem _ (List.mem_append_left _ (List.mem_append_left _ (List.mem_of_getElem? (i := 3) rfl)))) (List.mem_cons_of_mem _ (List.mem_append_left _ (List.mem_append_left _ (List.mem_of_getElem? (i := 4) rfl)))) (by decide +kernel)) gg_x_assign_valueOf
set_option maxHeartbeats 40000000 in
set_option maxRecDepth 100000 in
theorem c_x_assign (l : Launch) (dC : Nat → ClassId) (dI : Nat → Nat → Nat) (cy : Nat → ClassId) (a : Nat → Nat) (k0 : Nat) (L0 : Nat → Int32) (σ0 : MS) (r0 : Int32 × MS) (h0 : x_assign k0 0 L0 σ0 = some r0) (sz : Nat) : Met l yX12_assign w_x_assign ({ frames := 1, cells := 0, slots := 0, locals := 22 }) (va_Pc [.ref (a 0), .int (L0 1), .int (L0 2)] (nIn (dC, dI) cy sz (vM cy a σ0))) (va_Qv (fun _ : Unit => True) (fun _ t => nOut (dC, dI) cy (va_A (vM cy a σ0) sz) (vM cy a r0.2) t) (va_A (vM cy a σ0) sz)) 0 0 (va_A (vM cy a σ0) sz) := by
  refine Met.ofW (cc := cX12_assign) (maxL := 4) (ret := none) (by decide) rfl ?_
  intro p e s m args below meth c s₁ B hml hv
  obtain ⟨rfl, hsz, hP, hK, hD0, hG⟩ := hv
  have hx := B.exec
  have hb := B.bytes
  have hr := B.returns
  have hts := atoms_spec (ws := w_x_assign) B.pre
  have hown : s.vm.findClass RX12 = some m.cls := findClass_of_methodNamed B.named
  have hlocks := B.notSynchronized
  subst hsz
  have hD := hD0.self (sz := s.heap.size)
  generalize hAe : va_A (vM cy a σ0) s.heap.size = A at hD ⊢
  have hA : ∀ q : Nat, s.heap.size ≤ q → A q := fun q h => by rw [← hAe]; exact Or.inr h
  have hS : va_S A s.heap s.heap [] := va_S.rf
  have hl := lv_entry ([.ref (a 0), .int (L0 1), .int (L0 2)]) (n := 4) (Nat.le_of_ble_eq_true rfl)
  rw [lg_entry_eq]
  generalize (lg_sl ([.ref (a 0), .int (L0 1), .int (L0 2)]) ++ List.replicate (4 - (lg_sl ([.ref (a 0), .int (L0 1), .int (L0 2)])).length) Slot.unset).toArray = ls at hl ⊢
  have hl : lv_has ls 4 [(0, .ref (a 0)), (1, .int (L0 1)), (2, .int (L0 2))] := hl
  have blk : ∀ k : Nat, (bT p l e (headSpec w_x_assign ({ frames := 1, cells := 0, slots := 0, locals := 22 })).room s m #[.ref (a 0), .int (L0 1), .int (L0 2)] below meth c dC dI cy a A (qV dC dI cy a A below #[.ref (a 0), .int (L0 1), .int (L0 2)] s) 4 (x_assign k 0) (fun L => [(0, .ref (a 0)), (1, .int (L 1)), (2, .int (L 2))]) 0 (fun L => [])) ∧ (bT p l e (headSpec w_x_assign ({ frames := 1, cells := 0, slots := 0, locals := 22 })).room s m #[.ref (a 0), .int (L0 1), .int (L0 2)] below meth c dC dI cy a A (qV dC dI cy a A below #[.ref (a 0), .int (L0 1), .int (L0 2)] s) 4 (x_assign k 1) (fun L => [(0, .ref (a 0)), (1, .int (L 1)), (2, .int (L 2))]) 8 (fun L => [])) ∧ (bT p l e (headSpec w_x_assign ({ frames := 1, cells := 0, slots := 0, locals := 22 })).room s m #[.ref (a 0), .int (L0 1), .int (L0 2)] below meth c dC dI cy a A (qV dC dI cy a A below #[.ref (a 0), .int (L0 1), .int (L0 2)] s) 4 (x_assign k 2) (fun L => [(0, .ref (a 0)), (1, .int (L 1)), (2, .int (L 2)), (3, .int (L 3))]) 48 (fun L => [])) ∧ (bT p l e (headSpec w_x_assign ({ frames := 1, cells := 0, slots := 0, locals := 22 })).room s m #[.ref (a 0), .int (L0 1), .int (L0 2)] below meth c dC dI cy a A (qV dC dI cy a A below #[.ref (a 0), .int (L0 1), .int (L0 2)] s) 4 (x_assign k 3) (fun L => [(0, .ref (a 0)), (1, .int (L 1)), (2, .int (L 2)), (3, .int (L 3))]) 64 (fun L => [])) := by
    intro k
    induction k with
    | zero => exact ⟨fun L σ r h => (by cases h), fun L σ r h => (by cases h), fun L σ r h => (by cases h), fun L σ r h => (by cases h)⟩
    | succ k ih =>
      refine ⟨?_, ?_, ?_, ?_⟩
      · intro L σ r h H locs ls hP hD hS hl
        rw [x_assign] at h
        refine lv_aload_n hx hb dX12_assign_0 rfl (lv_at hl 0 rfl) ?_
        refine ng_56 hx hb hts in_x_assign hown hK hP (hts _ (List.mem_cons_of_mem _ (List.mem_append_left _ (List.mem_append_left _ (List.mem_of_getElem? (i := 0) rfl))))) dX12_assign_1 ?_
        refine lv_if_le (tgt := 8) hx hb dX12_assign_4 (by decide) (fun c1 => ?_) (fun c1 => ?_)
        · rw [if_pos c1] at h
          exact ih.2.1 L σ r h H locs ls hP hD hS (lv_sub hl [0, 1, 2] rfl)
        · rw [if_neg c1] at h
          cases h
          exact W.vret hx hb hr (fun t ht hW => ⟨⟨(), rfl, trivial, by rw [ht]; exact hP, va_K.moved hW.alike hK, hD⟩, hS.F ht⟩) hS.2.2 dX12_assign_7
      · intro L σ r h H locs ls hP hD hS hl
        rw [x_assign] at h
        refine lv_aload_n hx hb dX12_assign_8 rfl (lv_at hl 0 rfl) ?_
        refine lv_aload_n hx hb dX12_assign_9 rfl (lv_at hl 0 rfl) ?_
        refine lv_iload_n hx hb dX12_assign_10 rfl (lv_at hl 1 rfl) ?_
        obtain ⟨r1, hc1, h⟩ := ob_ex h
        refine nc_Vi (As := [.int (L 1)]) (rest := [.ref (a 0)]) ⟨hx, hb, hml, hown, hts⟩ (c_x_valueOf l dC dI cy a k (upd (fun _ => 0) 1 ((L 1))) σ r1 hc1 H.size) (cwV 1 hts g_x_assign_valueOf_604 rfl rfl rfl hd_x_valueOf ⟨Nat.le_of_ble_eq_true rfl, Nat.le_of_ble_eq_true rfl⟩) hK hG hA hP hD hS rfl hl.1 rfl (Nat.le_of_ble_eq_true rfl) dX12_assign_11 ⟨Nat.le_refl _, Nat.le_refl _⟩ (fun H locs hP hD hS => ?_)
        obtain ⟨r2, hc2, h⟩ := ob_ex h
        refine nc_Vi (As := [.int r1.1]) (rest := []) ⟨hx, hb, hml, hown, hts⟩ (c_x_size l dC dI cy a k (upd (fun _ => 0) 1 r1.1) r1.2 r2 hc2 H.size) (cwV 1 hts g_x_assign_size_432 rfl rfl rfl hd_x_size ⟨Nat.le_of_ble_eq_true rfl, Nat.le_of_ble_eq_true rfl⟩) hK hG hA hP hD hS rfl hl.1 rfl (Nat.le_of_ble_eq_true rfl) dX12_assign_14 ⟨Nat.le_refl _, Nat.le_refl _⟩ (fun H locs hP hD hS => ?_)
        refine lv_istore_n (lv' := [(3, .int r2.1), (0, .ref (a 0)), (1, .int (L 1)), (2, .int (L 2))]) hx hb dX12_assign_17 rfl hl (by decide) rfl (fun ls hl => ?_)
        refine lv_aload_n hx hb dX12_assign_18 rfl (lv_at hl 1 rfl) ?_
        refine ng_64 hx hb hts in_x_assign hown hK hP (hts _ (List.mem_cons_of_mem _ (List.mem_append_left _ (List.mem_append_left _ (List.mem_of_getElem? (i := 8) rfl))))) dX12_assign_19 ?_
        refine lv_aload_n hx hb dX12_assign_22 rfl (lv_at hl 1 rfl) ?_
        refine ng_65 hx hb hts in_x_assign hown hK hP (hts _ (List.mem_cons_of_mem _ (List.mem_append_left _ (List.mem_append_left _ (List.mem_of_getElem? (i := 9) rfl))))) dX12_assign_23 ?_
        refine lv_iadd hx hb dX12_assign_26 ?_
        refine lv_iload_n hx hb dX12_assign_27 rfl (lv_at hl 0 rfl) ?_
        refine lv_isub hx hb dX12_assign_28 ?_
        refine lv_aload_n hx hb dX12_assign_29 rfl (lv_at hl 1 rfl) ?_
        refine lv_iload_n hx hb dX12_assign_30 rfl (lv_at hl 3 rfl) ?_
        obtain ⟨r3, hc3, h⟩ := ob_ex h
        refine nc_Vi (As := [.int (L 2)]) (rest := [.int (((((r2.2.1 64)) + ((r2.2.1 65)))) - r2.1)]) ⟨hx, hb, hml, hown, hts⟩ (c_x_size l dC dI cy a k (upd (fun _ => 0) 1 ((L 2))) r2.2 r3 hc3 H.size) (cwV 1 hts g_x_assign_size_432 rfl rfl rfl hd_x_size ⟨Nat.le_of_ble_eq_true rfl, Nat.le_of_ble_eq_true rfl⟩) hK hG hA hP hD hS rfl hl.1 rfl (Nat.le_of_ble_eq_true rfl) dX12_assign_31 ⟨Nat.le_refl _, Nat.le_refl _⟩ (fun H locs hP hD hS => ?_)
        refine lv_iadd hx hb dX12_assign_34 ?_
        refine lv_ldcw (v := 40000) hx hb hown (hts _ (List.mem_cons_of_mem _ (List.mem_append_left _ (List.mem_append_left _ (List.mem_of_getElem? (i := 10) rfl))))) dX12_assign_35 ?_
        refine lv_icmp_le (tgt := 48) hx hb dX12_assign_38 (by decide) (fun c4 => ?_) (fun c4 => ?_)
        · rw [if_pos c4] at h
          exact ih.2.2.1 (upd L 3 r2.1) r3.2 r h H locs ls hP hD hS (lv_sub hl [1, 2, 3, 0] rfl)
        · rw [if_neg c4] at h
          refine lv_aload_n hx hb dX12_assign_41 rfl (lv_at hl 1 rfl) ?_
          refine lv_bipush (v := 6) hx hb dX12_assign_42 (by decide) ?_
          obtain ⟨r5, hc5, h⟩ := ob_ex h
          refine nc_Vv (As := [.int 6]) (rest := []) ⟨hx, hb, hml, hown, hts⟩ (c_x_fail l dC dI cy a k (upd (fun _ => 0) 1 6) r3.2 r5 hc5 H.size) (cwV 1 hts g_x_assign_fail_369 rfl rfl rfl hd_x_fail ⟨Nat.le_of_ble_eq_true rfl, Nat.le_of_ble_eq_true rfl⟩) hK hG hA hP hD hS rfl hl.1 rfl (Nat.le_of_ble_eq_true rfl) dX12_assign_44 ⟨Nat.le_refl _, Nat.le_refl _⟩ (fun H locs hP hD hS => ?_)
          cases h
          exact W.vret hx hb hr (fun t ht hW => ⟨⟨(), rfl, trivial, by rw [ht]; exact hP, va_K.moved hW.alike hK, hD⟩, hS.F ht⟩) hS.2.2 dX12_assign_47
      · intro L σ r h H locs ls hP hD hS hl
        rw [x_assign] at h
        refine lv_aload_n hx hb dX12_assign_48 rfl (lv_at hl 0 rfl) ?_
        refine lv_dup hx hb dX12_assign_49 rfl ?_
        refine ng_64 hx hb hts in_x_assign hown hK hP (hts _ (List.mem_cons_of_mem _ (List.mem_append_left _ (List.mem_append_left _ (List.mem_of_getElem? (i := 8) rfl))))) dX12_assign_50 ?_
        refine lv_aload_n hx hb dX12_assign_53 rfl (lv_at hl 0 rfl) ?_
        refine lv_iload_n hx hb dX12_assign_54 rfl (lv_at hl 2 rfl) ?_
        obtain ⟨r1, hc1, h⟩ := ob_ex h
        refine nc_Vi (As := [.int (L 2)]) (rest := [.int (σ.1 64), .ref (a 0)]) ⟨hx, hb, hml, hown, hts⟩ (c_x_size l dC dI cy a k (upd (fun _ => 0) 1 ((L 2))) σ r1 hc1 H.size) (cwV 1 hts g_x_assign_size_432 rfl rfl rfl hd_x_size ⟨Nat.le_of_ble_eq_true rfl, Nat.le_of_ble_eq_true rfl⟩) hK hG hA hP hD hS rfl hl.1 rfl (Nat.le_of_ble_eq_true rfl) dX12_assign_55 ⟨Nat.le_refl _, Nat.le_refl _⟩ (fun H locs hP hD hS => ?_)
        refine lv_iload_n hx hb dX12_assign_58 rfl (lv_at hl 3 rfl) ?_
        refine lv_isub hx hb dX12_assign_59 ?_
        refine lv_iadd hx hb dX12_assign_60 ?_
        refine np_64 hx hb hts in_x_assign hown hK hP hD hS (hts _ (List.mem_cons_of_mem _ (List.mem_append_left _ (List.mem_append_left _ (List.mem_of_getElem? (i := 8) rfl))))) dX12_assign_61 (fun H locs hP hD hS => ?_)
        exact ih.2.2.2 L (upd r1.2.1 64 ((((σ.1 64)) + ((r1.1 - ((L 3)))))), r1.2.2.1, r1.2.2.2) r h H locs ls hP hD hS (lv_sub hl [0, 1, 2, 3] rfl)
      · intro L σ r h H locs ls hP hD hS hl
        rw [x_assign] at h
        refine lv_aload_n hx hb dX12_assign_64 rfl (lv_at hl 0 rfl) ?_
        refine lv_iload_n hx hb dX12_assign_65 rfl (lv_at hl 1 rfl) ?_
        refine lv_iload_n hx hb dX12_assign_66 rfl (lv_at hl 2 rfl) ?_
        obtain ⟨r1, hc1, h⟩ := ob_ex h
        refine nc_Vv (As := [.int (L 1), .int (L 2)]) (rest := []) ⟨hx, hb, hml, hown, hts⟩ (c_x_bindOne l dC dI cy a k (upd (upd (fun _ => 0) 1 ((L 1))) 2 ((L 2))) σ r1 hc1 H.size) (cwV 2 hts g_x_assign_bindOne_694 rfl rfl rfl hd_x_bindOne ⟨Nat.le_of_ble_eq_true rfl, Nat.le_of_ble_eq_true rfl⟩) hK hG hA hP hD hS rfl hl.1 rfl (Nat.le_of_ble_eq_true rfl) dX12_assign_67 ⟨Nat.le_refl _, Nat.le_refl _⟩ (fun H locs hP hD hS => ?_)
        cases h
        exact W.vret hx hb hr (fun t ht hW => ⟨⟨(), rfl, trivial, by rw [ht]; exact hP, va_K.moved hW.alike hK, hD⟩, hS.F ht⟩) hS.2.2 dX12_assign_70
  exact (blk k0).1 L0 σ0 r0 h0 s.heap [] ls hP hD hS hl
/-! pair -/
def x_pair : Nat → Nat → (Nat → Int32) → MS → Option (Int32 × MS)
  | 0, _, _, _ => none
  | k + 1, 0, L, σ => ob (x_push k 0 (upd (fun _ => 0) 1 ((L 1))) σ) (fun r1 => ob (x_push k 0 (upd (fun _ => 0) 1 ((L 2))) r1.2) (fun r2 => ob (x_tupleOf k 0 (upd (fun _ => 0) 1 ((σ.1 59))) r2.2) (fun r3 => some (r3.1, r3.2))))
  | _ + 1, _ + 1, _, _ => none
def o_x_pair : List Cond := [.fieldLink RX12 385 "SetHouseModel" "top" "I", .methodLink RX12 594 yX12_push, .instanceMethod yX12_push, .selects RX12 yX12_push yX12_push, .initialized RX12, .methodLink RX12 675 yX12_tupleOf, .instanceMethod yX12_tupleOf, .selects RX12 yX12_tupleOf yX12_tupleOf]
theorem o_x_pair_good : o_x_pair.all goodWord = true := by decide +kernel
def p_x_pair : List Cond := o_x_pair ++ ((.code yX12_push cX12_push 2 none :: p_x_push) ++ ((.code yX12_tupleOf cX12_tupleOf 5 (some .int) :: p_x_tupleOf) ++ []))
theorem p_x_pair_good : p_x_pair.all goodWord = true := nb_all2 o_x_pair_good (nb_all2 (nb_allc (by decide +kernel) p_x_push_good) (nb_all2 (nb_allc (by decide +kernel) p_x_tupleOf_good) rfl))
def w_x_pair : List Cond := .code yX12_pair cX12_pair 4 (some .int) :: (p_x_pair ++ fM)
theorem w_x_pair_good : w_x_pair.all goodWord = true := nb_allc (by decide +kernel) (nb_all2 p_x_pair_good fM_good)
theorem in_x_pair : ∀ w ∈ wsX120, w ∈ w_x_pair := fun _ h => List.mem_cons_of_mem _ (List.mem_append_right _ h)
theorem hd_x_pair : yX12_pair.cls = RX12 ∧ yX12_pair.cls ≠ "java/lang/invoke/MethodHandle" ∧ yX12_pair.cls ≠ "java/lang/invoke/VarHandle" ∧ (parseMethodDescriptor yX12_pair.desc).map (fun d => d.parameters.length) = some 2 := by decide +kernel
theorem gg_x_pair_push : GoodIn w_x_pair w_x_push := goodIn_sub (fun w h => (List.mem_cons.mp h).elim (fun e => (List.mem_cons_of_mem _ (List.mem_append_left _ (List.mem_append_right _ (List.mem_append_left _ (List.mem_cons.mpr (Or.inl e))))))) (fun h => (List.mem_append.mp h).elim (fun h => (List.mem_cons_of_mem _ (List.mem_append_left _ (List.mem_append_right _ (List.mem_append_left _ (List.mem_cons_of_mem _ h)))))) (fun h => List.mem_cons_of_mem _ (List.mem_append_right _ h)))) w_x_push_good
theorem g_x_pair_push_594 : GoodIn w_x_pair (wsV RX12 594 RX12 yX12_push w_x_push) := goodIn_app (nb_g4 (List.mem_cons_of_mem _ (List.mem_append_left _ (List.mem_append_left _ (List.mem_of_getElem? (i := 1) rfl)))) (List.mem_cons_of_mem _ (List.mem_append_left _ (List.mem_append_left _ (List.mem_of_getElem? (i := 2) rfl)))) (List.mem_cons_of_mem _ (List.mem_append_left _ (List.mem_append_left _ (List.mem_of_getElem? (i := 3) rfl)))) (List.mem_cons_of_mem _ (List.mem_append_left _ (List.mem_append_left _ (List.mem_of_getElem? (i := 4) rfl)))) (by decide +kernel)) gg_x_pair_push
theorem gg_x_pair_tupleOf : GoodIn w_x_pair w_x_tupleOf := goodIn_sub (fun w h => (List.mem_cons.mp h).elim (fun e => (List.mem_cons_of_mem _ (List.mem_append_left _ (List.mem_append_right _ (List.mem_append_right _ (List.mem_append_left _ (List.mem_cons.mpr (Or.inl e)))))))) (fun h => (List.mem_append.mp h).elim (fun h => (List.mem_cons_of_mem _ (List.mem_append_left _ (List.mem_append_right _ (List.mem_append_right _ (List.mem_append_left _ (List.mem_cons_of_mem _ h))))))) (fun h => List.mem_cons_of_mem _ (List.mem_append_right _ h)))) w_x_tupleOf_good
theorem g_x_pair_tupleOf_675 : GoodIn w_x_pair (wsV RX12 675 RX12 yX12_tupleOf w_x_tupleOf) := goodIn_app (nb_g4 (List.mem_cons_of_mem _ (List.mem_append_left _ (List.mem_append_left _ (List.mem_of_getElem? (i := 5) rfl)))) (List.mem_cons_of_mem _ (List.mem_append_left _ (List.mem_append_left _ (List.mem_of_getElem? (i := 6) rfl)))) (List.mem_cons_of_mem _ (List.mem_append_left _ (List.mem_append_left _ (List.mem_of_getElem? (i := 7) rfl)))) (List.mem_cons_of_mem _ (List.mem_append_left _ (List.mem_append_left _ (List.mem_of_getElem? (i := 4) rfl)))) (by decide +kernel)) gg_x_pair_tupleOf
set_option maxHeartbeats 40000000 in
set_option maxRecDepth 100000 in
theorem c_x_pair (l : Launch) (dC : Nat → ClassId) (dI : Nat → Nat → Nat) (cy : Nat → ClassId) (a : Nat → Nat) (k0 : Nat) (L0 : Nat → Int32) (σ0 : MS) (r0 : Int32 × MS) (h0 : x_pair k0 0 L0 σ0 = some r0) (sz : Nat) : Met l yX12_pair w_x_pair ({ frames := 4, cells := 0, slots := 0, locals := 92 }) (va_Pc [.ref (a 0), .int (L0 1), .int (L0 2)] (nIn (dC, dI) cy sz (vM cy a σ0))) (va_Qi (fun (z : Int32) (_ : Unit) => z = r0.1) (fun _ t => nOut (dC, dI) cy (va_A (vM cy a σ0) sz) (vM cy a r0.2) t) (va_A (vM cy a σ0) sz)) 0 0 (va_A (vM cy a σ0) sz) := by
  refine Met.ofW (cc := cX12_pair) (maxL := 4) (ret := (some .int)) (by decide) rfl ?_
  intro p e s m args below meth c s₁ B hml hv
  obtain ⟨rfl, hsz, hP, hK, hD0, hG⟩ := hv
  have hx := B.exec
  have hb := B.bytes
  have hr := B.returns
  have hts := atoms_spec (ws := w_x_pair) B.pre
  have hown : s.vm.findClass RX12 = some m.cls := findClass_of_methodNamed B.named
  have hlocks := B.notSynchronized
  subst hsz
  have hD := hD0.self (sz := s.heap.size)
  generalize hAe : va_A (vM cy a σ0) s.heap.size = A at hD ⊢
  have hA : ∀ q : Nat, s.heap.size ≤ q → A q := fun q h => by rw [← hAe]; exact Or.inr h
  have hS : va_S A s.heap s.heap [] := va_S.rf
  have hl := lv_entry ([.ref (a 0), .int (L0 1), .int (L0 2)]) (n := 4) (Nat.le_of_ble_eq_true rfl)
  rw [lg_entry_eq]
  generalize (lg_sl ([.ref (a 0), .int (L0 1), .int (L0 2)]) ++ List.replicate (4 - (lg_sl ([.ref (a 0), .int (L0 1), .int (L0 2)])).length) Slot.unset).toArray = ls at hl ⊢
  have hl : lv_has ls 4 [(0, .ref (a 0)), (1, .int (L0 1)), (2, .int (L0 2))] := hl
  have blk : ∀ k : Nat, (bT p l e (headSpec w_x_pair ({ frames := 4, cells := 0, slots := 0, locals := 92 })).room s m #[.ref (a 0), .int (L0 1), .int (L0 2)] below meth c dC dI cy a A (qI dC dI cy a A below #[.ref (a 0), .int (L0 1), .int (L0 2)] s) 4 (x_pair k 0) (fun L => [(0, .ref (a 0)), (1, .int (L 1)), (2, .int (L 2))]) 0 (fun L => [])) := by
    intro k
    induction k with
    | zero => exact fun L σ r h => (by cases h)
    | succ k ih =>
      skip
      · intro L σ r h H locs ls hP hD hS hl
        rw [x_pair] at h
        refine lv_aload_n hx hb dX12_pair_0 rfl (lv_at hl 0 rfl) ?_
        refine ng_59 hx hb hts in_x_pair hown hK hP (hts _ (List.mem_cons_of_mem _ (List.mem_append_left _ (List.mem_append_left _ (List.mem_of_getElem? (i := 0) rfl))))) dX12_pair_1 ?_
        refine lv_istore_n (lv' := [(3, .int (σ.1 59)), (0, .ref (a 0)), (1, .int (L 1)), (2, .int (L 2))]) hx hb dX12_pair_4 rfl hl (by decide) rfl (fun ls hl => ?_)
        refine lv_aload_n hx hb dX12_pair_5 rfl (lv_at hl 1 rfl) ?_
        refine lv_iload_n hx hb dX12_pair_6 rfl (lv_at hl 2 rfl) ?_
        obtain ⟨r1, hc1, h⟩ := ob_ex h
        refine nc_Vv (As := [.int (L 1)]) (rest := []) ⟨hx, hb, hml, hown, hts⟩ (c_x_push l dC dI cy a k (upd (fun _ => 0) 1 ((L 1))) σ r1 hc1 H.size) (cwV 1 hts g_x_pair_push_594 rfl rfl rfl hd_x_push ⟨Nat.le_of_ble_eq_true rfl, Nat.le_of_ble_eq_true rfl⟩) hK hG hA hP hD hS rfl hl.1 rfl (Nat.le_of_ble_eq_true rfl) dX12_pair_7 ⟨Nat.le_refl _, Nat.le_refl _⟩ (fun H locs hP hD hS => ?_)
        refine lv_aload_n hx hb dX12_pair_10 rfl (lv_at hl 1 rfl) ?_
        refine lv_iload_n hx hb dX12_pair_11 rfl (lv_at hl 3 rfl) ?_
        obtain ⟨r2, hc2, h⟩ := ob_ex h
        refine nc_Vv (As := [.int (L 2)]) (rest := []) ⟨hx, hb, hml, hown, hts⟩ (c_x_push l dC dI cy a k (upd (fun _ => 0) 1 ((L 2))) r1.2 r2 hc2 H.size) (cwV 1 hts g_x_pair_push_594 rfl rfl rfl hd_x_push ⟨Nat.le_of_ble_eq_true rfl, Nat.le_of_ble_eq_true rfl⟩) hK hG hA hP hD hS rfl hl.1 rfl (Nat.le_of_ble_eq_true rfl) dX12_pair_12 ⟨Nat.le_refl _, Nat.le_refl _⟩ (fun H locs hP hD hS => ?_)
        refine lv_aload_n hx hb dX12_pair_15 rfl (lv_at hl 1 rfl) ?_
        refine lv_iload_n hx hb dX12_pair_16 rfl (lv_at hl 0 rfl) ?_
        obtain ⟨r3, hc3, h⟩ := ob_ex h
        refine nc_Vi (As := [.int (σ.1 59)]) (rest := []) ⟨hx, hb, hml, hown, hts⟩ (c_x_tupleOf l dC dI cy a k (upd (fun _ => 0) 1 ((σ.1 59))) r2.2 r3 hc3 H.size) (cwV 1 hts g_x_pair_tupleOf_675 rfl rfl rfl hd_x_tupleOf ⟨Nat.le_of_ble_eq_true rfl, Nat.le_of_ble_eq_true rfl⟩) hK hG hA hP hD hS rfl hl.1 rfl (Nat.le_of_ble_eq_true rfl) dX12_pair_17 ⟨Nat.le_refl _, Nat.le_refl _⟩ (fun H locs hP hD hS => ?_)
        cases h
        exact W.iret (v := r3.1) hx hb hr (fun t ht hW => ⟨⟨r3.1, (), rfl, rfl, by rw [ht]; exact hP, va_K.moved hW.alike hK, hD⟩, hS.F ht⟩) hS.2.2 dX12_pair_20
  exact (blk k0) L0 σ0 r0 h0 s.heap [] ls hP hD hS hl

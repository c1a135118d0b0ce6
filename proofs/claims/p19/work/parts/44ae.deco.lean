theorem gg_x_name_cannot : GoodIn w_x_name w_x_cannot := goodIn_sub (fun w h => (List.mem_cons.mp h).elim (fun e => (List.mem_cons_of_mem _ (List.mem_append_left _ (List.mem_append_right _ (List.mem_append_right _ (List.mem_append_right _ (List.mem_append_right _ (List.mem_append_right _ (List.mem_append_right _ (List.mem_append_right _ (List.mem_append_right _ (List.mem_append_right _ (List.mem_append_right _ (List.mem_append_right _ (List.mem_append_right _ (List.mem_append_right _ (List.mem_append_right _ (List.mem_append_right _ (List.mem_append_left _ (List.mem_cons.mpr (Or.inl e))))))))))))))))))))) (fun h => (List.mem_append.mp h).elim (fun h => (List.mem_cons_of_mem _ (List.mem_append_left _ (List.mem_append_right _ (List.mem_append_right _ (List.mem_append_right _ (List.mem_append_right _ (List.mem_append_right _ (List.mem_append_right _ (List.mem_append_right _ (List.mem_append_right _ (List.mem_append_right _ (List.mem_append_right _ (List.mem_append_right _ (List.mem_append_right _ (List.mem_append_right _ (List.mem_append_right _ (List.mem_append_right _ (List.mem_append_left _ (List.mem_cons_of_mem _ h)))))))))))))))))))) (fun h => List.mem_cons_of_mem _ (List.mem_append_right _ h)))) w_x_cannot_good
theorem g_x_name_cannot_68 : GoodIn w_x_name (wsV RX12 68 RX12 yX12_cannot w_x_cannot) := goodIn_app (nb_g4 (List.mem_cons_of_mem _ (List.mem_append_left _ (List.mem_append_left _ (List.mem_of_getElem? (i := 90) rfl)))) (List.mem_cons_of_mem _ (List.mem_append_left _ (List.mem_append_left _ (List.mem_of_getElem? (i := 91) rfl)))) (List.mem_cons_of_mem _ (List.mem_append_left _ (List.mem_append_left _ (List.mem_of_getElem? (i := 92) rfl)))) (List.mem_cons_of_mem _ (List.mem_append_left _ (List.mem_append_left _ (List.mem_of_getElem? (i := 20) rfl)))) (by decide +kernel)) gg_x_name_cannot
theorem gg_x_name_exp : GoodIn w_x_name w_x_exp := goodIn_sub (fun w h => (List.mem_cons.mp h).elim (fun e => e ▸ (List.mem_cons_of_mem _ (List.mem_append_left _ (List.mem_append_left _ (List.mem_of_getElem? (i := 3) rfl))))) (fun h => List.mem_cons_of_mem _ h)) w_x_exp_good
theorem g_x_name_exp_209 : GoodIn w_x_name (wsV RX12 209 RX12 yX12_exp w_x_exp) := goodIn_app (nb_g4 (List.mem_cons_of_mem _ (List.mem_append_left _ (List.mem_append_left _ (List.mem_of_getElem? (i := 38) rfl)))) (List.mem_cons_of_mem _ (List.mem_append_left _ (List.mem_append_left _ (List.mem_of_getElem? (i := 39) rfl)))) (List.mem_cons_of_mem _ (List.mem_append_left _ (List.mem_append_left _ (List.mem_of_getElem? (i := 40) rfl)))) (List.mem_cons_of_mem _ (List.mem_append_left _ (List.mem_append_left _ (List.mem_of_getElem? (i := 20) rfl)))) (by decide +kernel)) gg_x_name_exp
theorem gg_x_name_fault : GoodIn w_x_name w_x_fault := goodIn_sub (fun w h => (List.mem_cons.mp h).elim (fun e => (List.mem_cons_of_mem _ (List.mem_append_left _ (List.mem_append_right _ (List.mem_append_right _ (List.mem_append_right _ (List.mem_append_right _ (List.mem_append_right _ (List.mem_append_right _ (List.mem_append_right _ (List.mem_append_right _ (List.mem_append_right _ (List.mem_append_right _ (List.mem_append_right _ (List.mem_append_right _ (List.mem_append_right _ (List.mem_append_right _ (List.mem_append_left _ (List.mem_cons.mpr (Or.inl e)))))))))))))))))))) (fun h => (List.mem_append.mp h).elim (fun h => (List.mem_cons_of_mem _ (List.mem_append_left _ (List.mem_append_right _ (List.mem_append_right _ (List.mem_append_right _ (List.mem_append_right _ (List.mem_append_right _ (List.mem_append_right _ (List.mem_append_right _ (List.mem_append_right _ (List.mem_append_right _ (List.mem_append_right _ (List.mem_append_right _ (List.mem_append_right _ (List.mem_append_right _ (List.mem_append_right _ (List.mem_append_left _ (List.mem_cons_of_mem _ h))))))))))))))))))) (fun h => List.mem_cons_of_mem _ (List.mem_append_right _ h)))) w_x_fault_good
theorem g_x_name_fault_58 : GoodIn w_x_name (wsV RX12 58 RX12 yX12_fault w_x_fault) := goodIn_app (nb_g4 (List.mem_cons_of_mem _ (List.mem_append_left _ (List.mem_append_left _ (List.mem_of_getElem? (i := 87) rfl)))) (List.mem_cons_of_mem _ (List.mem_append_left _ (List.mem_append_left _ (List.mem_of_getElem? (i := 88) rfl)))) (List.mem_cons_of_mem _ (List.mem_append_left _ (List.mem_append_left _ (List.mem_of_getElem? (i := 89) rfl)))) (List.mem_cons_of_mem _ (List.mem_append_left _ (List.mem_append_left _ (List.mem_of_getElem? (i := 20) rfl)))) (by decide +kernel)) gg_x_name_fault
theorem gg_x_name_find : GoodIn w_x_name w_x_find := goodIn_sub (fun w h => (List.mem_cons.mp h).elim (fun e => (List.mem_cons_of_mem _ (List.mem_append_left _ (List.mem_append_right _ (List.mem_append_right _ (List.mem_append_right _ (List.mem_append_right _ (List.mem_append_right _ (List.mem_append_right _ (List.mem_append_right _ (List.mem_append_right _ (List.mem_append_right _ (List.mem_append_right _ (List.mem_append_right _ (List.mem_append_right _ (List.mem_append_right _ (List.mem_append_left _ (List.mem_cons.mpr (Or.inl e))))))))))))))))))) (fun h => (List.mem_append.mp h).elim (fun h => (List.mem_cons_of_mem _ (List.mem_append_left _ (List.mem_append_right _ (List.mem_append_right _ (List.mem_append_right _ (List.mem_append_right _ (List.mem_append_right _ (List.mem_append_right _ (List.mem_append_right _ (List.mem_append_right _ (List.mem_append_right _ (List.mem_append_right _ (List.mem_append_right _ (List.mem_append_right _ (List.mem_append_right _ (List.mem_append_left _ (List.mem_cons_of_mem _ h)))))))))))))))))) (fun h => List.mem_cons_of_mem _ (List.mem_append_right _ h)))) w_x_find_good
theorem g_x_name_find_236 : GoodIn w_x_name (wsV RX12 236 RX12 yX12_find w_x_find) := goodIn_app (nb_g4 (List.mem_cons_of_mem _ (List.mem_append_left _ (List.mem_append_left _ (List.mem_of_getElem? (i := 81) rfl)))) (List.mem_cons_of_mem _ (List.mem_append_left _ (List.mem_append_left _ (List.mem_of_getElem? (i := 82) rfl)))) (List.mem_cons_of_mem _ (List.mem_append_left _ (List.mem_append_left _ (List.mem_of_getElem? (i := 83) rfl)))) (List.mem_cons_of_mem _ (List.mem_append_left _ (List.mem_append_left _ (List.mem_of_getElem? (i := 20) rfl)))) (by decide +kernel)) gg_x_name_find
theorem gg_x_name_isSign : GoodIn w_x_name w_x_isSign := goodIn_sub (fun w h => (List.mem_cons.mp h).elim (fun e => (List.mem_cons_of_mem _ (List.mem_append_left _ (List.mem_append_right _ (List.mem_append_left _ (List.mem_cons.mpr (Or.inl e))))))) (fun h => (List.mem_append.mp h).elim (fun h => (List.mem_cons_of_mem _ (List.mem_append_left _ (List.mem_append_right _ (List.mem_append_left _ (List.mem_cons_of_mem _ h)))))) (fun h => List.mem_cons_of_mem _ (List.mem_append_right _ h)))) w_x_isSign_good
theorem g_x_name_isSign_65 : GoodIn w_x_name (wsV RX12 65 RX12 yX12_isSign w_x_isSign) := goodIn_app (nb_g4 (List.mem_cons_of_mem _ (List.mem_append_left _ (List.mem_append_left _ (List.mem_of_getElem? (i := 17) rfl)))) (List.mem_cons_of_mem _ (List.mem_append_left _ (List.mem_append_left _ (List.mem_of_getElem? (i := 18) rfl)))) (List.mem_cons_of_mem _ (List.mem_append_left _ (List.mem_append_left _ (List.mem_of_getElem? (i := 19) rfl)))) (List.mem_cons_of_mem _ (List.mem_append_left _ (List.mem_append_left _ (List.mem_of_getElem? (i := 20) rfl)))) (by decide +kernel)) gg_x_name_isSign
theorem gg_x_name_node : GoodIn w_x_name w_x_node := goodIn_sub (fun w h => (List.mem_cons.mp h).elim (fun e => (List.mem_cons_of_mem _ (List.mem_append_left _ (List.mem_append_right _ (List.mem_append_right _ (List.mem_append_right _ (List.mem_append_right _ (List.mem_append_left _ (List.mem_cons.mpr (Or.inl e)))))))))) (fun h => (List.mem_append.mp h).elim (fun h => (List.mem_cons_of_mem _ (List.mem_append_left _ (List.mem_append_right _ (List.mem_append_right _ (List.mem_append_right _ (List.mem_append_right _ (List.mem_append_left _ (List.mem_cons_of_mem _ h))))))))) (fun h => List.mem_cons_of_mem _ (List.mem_append_right _ h)))) w_x_node_good
theorem g_x_name_node_101 : GoodIn w_x_name (wsV RX12 101 RX12 yX12_node w_x_node) := goodIn_app (nb_g4 (List.mem_cons_of_mem _ (List.mem_append_left _ (List.mem_append_left _ (List.mem_of_getElem? (i := 28) rfl)))) (List.mem_cons_of_mem _ (List.mem_append_left _ (List.mem_append_left _ (List.mem_of_getElem? (i := 29) rfl)))) (List.mem_cons_of_mem _ (List.mem_append_left _ (List.mem_append_left _ (List.mem_of_getElem? (i := 30) rfl)))) (List.mem_cons_of_mem _ (List.mem_append_left _ (List.mem_append_left _ (List.mem_of_getElem? (i := 20) rfl)))) (by decide +kernel)) gg_x_name_node
theorem gg_x_name_open : GoodIn w_x_name w_x_open := goodIn_sub (fun w h => (List.mem_cons.mp h).elim (fun e => (List.mem_cons_of_mem _ (List.mem_append_left _ (List.mem_append_right _ (List.mem_append_right _ (List.mem_append_left _ (List.mem_cons.mpr (Or.inl e)))))))) (fun h => (List.mem_append.mp h).elim (fun h => (List.mem_cons_of_mem _ (List.mem_append_left _ (List.mem_append_right _ (List.mem_append_right _ (List.mem_append_left _ (List.mem_cons_of_mem _ h))))))) (fun h => List.mem_cons_of_mem _ (List.mem_append_right _ h)))) w_x_open_good
theorem g_x_name_open_177 : GoodIn w_x_name (wsV RX12 177 RX12 yX12_open w_x_open) := goodIn_app (nb_g4 (List.mem_cons_of_mem _ (List.mem_append_left _ (List.mem_append_left _ (List.mem_of_getElem? (i := 21) rfl)))) (List.mem_cons_of_mem _ (List.mem_append_left _ (List.mem_append_left _ (List.mem_of_getElem? (i := 22) rfl)))) (List.mem_cons_of_mem _ (List.mem_append_left _ (List.mem_append_left _ (List.mem_of_getElem? (i := 23) rfl)))) (List.mem_cons_of_mem _ (List.mem_append_left _ (List.mem_append_left _ (List.mem_of_getElem? (i := 20) rfl)))) (by decide +kernel)) gg_x_name_open
theorem gg_x_name_take : GoodIn w_x_name w_x_take := goodIn_sub (fun w h => (List.mem_cons.mp h).elim (fun e => (List.mem_cons_of_mem _ (List.mem_append_left _ (List.mem_append_right _ (List.mem_append_right _ (List.mem_append_right _ (List.mem_append_left _ (List.mem_cons.mpr (Or.inl e))))))))) (fun h => (List.mem_append.mp h).elim (fun h => (List.mem_cons_of_mem _ (List.mem_append_left _ (List.mem_append_right _ (List.mem_append_right _ (List.mem_append_right _ (List.mem_append_left _ (List.mem_cons_of_mem _ h)))))))) (fun h => List.mem_cons_of_mem _ (List.mem_append_right _ h)))) w_x_take_good
theorem g_x_name_take_71 : GoodIn w_x_name (wsV RX12 71 RX12 yX12_take w_x_take) := goodIn_app (nb_g4 (List.mem_cons_of_mem _ (List.mem_append_left _ (List.mem_append_left _ (List.mem_of_getElem? (i := 25) rfl)))) (List.mem_cons_of_mem _ (List.mem_append_left _ (List.mem_append_left _ (List.mem_of_getElem? (i := 26) rfl)))) (List.mem_cons_of_mem _ (List.mem_append_left _ (List.mem_append_left _ (List.mem_of_getElem? (i := 27) rfl)))) (List.mem_cons_of_mem _ (List.mem_append_left _ (List.mem_append_left _ (List.mem_of_getElem? (i := 20) rfl)))) (by decide +kernel)) gg_x_name_take
theorem gg_x_name_wrapped : GoodIn w_x_name w_x_wrapped := goodIn_sub (fun w h => (List.mem_cons.mp h).elim (fun e => (List.mem_cons_of_mem _ (List.mem_append_left _ (List.mem_append_right _ (List.mem_append_right _ (List.mem_append_right _ (List.mem_append_right _ (List.mem_append_right _ (List.mem_append_right _ (List.mem_append_right _ (List.mem_append_left _ (List.mem_cons.mpr (Or.inl e))))))))))))) (fun h => (List.mem_append.mp h).elim (fun h => (List.mem_cons_of_mem _ (List.mem_append_left _ (List.mem_append_right _ (List.mem_append_right _ (List.mem_append_right _ (List.mem_append_right _ (List.mem_append_right _ (List.mem_append_right _ (List.mem_append_right _ (List.mem_append_left _ (List.mem_cons_of_mem _ h)))))))))))) (fun h => List.mem_cons_of_mem _ (List.mem_append_right _ h)))) w_x_wrapped_good
theorem g_x_name_wrapped_242 : GoodIn w_x_name (wsV RX12 242 RX12 yX12_wrapped w_x_wrapped) := goodIn_app (nb_g4 (List.mem_cons_of_mem _ (List.mem_append_left _ (List.mem_append_left _ (List.mem_of_getElem? (i := 44) rfl)))) (List.mem_cons_of_mem _ (List.mem_append_left _ (List.mem_append_left _ (List.mem_of_getElem? (i := 45) rfl)))) (List.mem_cons_of_mem _ (List.mem_append_left _ (List.mem_append_left _ (List.mem_of_getElem? (i := 46) rfl)))) (List.mem_cons_of_mem _ (List.mem_append_left _ (List.mem_append_left _ (List.mem_of_getElem? (i := 20) rfl)))) (by decide +kernel)) gg_x_name_wrapped
set_option maxHeartbeats 40000000 in
set_option maxRecDepth 100000 in
theorem c_s_name (l : Launch) (dC : Nat → ClassId) (dI : Nat → Nat → Nat) (cy : Nat → ClassId) (a : Nat → Nat) (k0 : Nat) (IH : ∀ j : Nat, j < k0 → P_GE l dC dI cy a j) (d : Nat) (L0 : Nat → Int32) (σ0 : MS) (r0 : Int32 × MS) (h0 : x_GE k0 d 6 0 L0 σ0 = some r0) (sz : Nat) : Met l yX12_name w_x_name ({ frames := 5 + d, cells := 0, slots := 0, locals := 113 + 31 * d }) (va_Pc [.ref (a 0)] (nIn (dC, dI) cy sz (vM cy a σ0))) (va_Qi (fun (z : Int32) (_ : Unit) => z = r0.1) (fun _ t => nOut (dC, dI) cy (va_A (vM cy a σ0) sz) (vM cy a r0.2) t) (va_A (vM cy a σ0) sz)) 0 0 (va_A (vM cy a σ0) sz) := by
  refine Met.ofW (cc := cX12_name) (maxL := 10) (ret := (some .int)) (by decide) rfl ?_
  intro p e s m args below meth c s₁ B hml hv
  obtain ⟨rfl, hsz, hP, hK, hD0, hG⟩ := hv
  have hx := B.exec
  have hb := B.bytes
  have hr := B.returns
  have hts := atoms_spec (ws := w_x_name) B.pre
  have hown : s.vm.findClass RX12 = some m.cls := findClass_of_methodNamed B.named
  have hlocks := B.notSynchronized
  subst hsz
  have hD := hD0.self (sz := s.heap.size)
  generalize hAe : va_A (vM cy a σ0) s.heap.size = A at hD ⊢
  have hA : ∀ q : Nat, s.heap.size ≤ q → A q := fun q h => by rw [← hAe]; exact Or.inr h
  have hS : va_S A s.heap s.heap [] := va_S.rf
  have hl := lv_entry ([.ref (a 0)]) (n := 10) (Nat.le_of_ble_eq_true rfl)
  rw [lg_entry_eq]
  generalize (lg_sl ([.ref (a 0)]) ++ List.replicate (10 - (lg_sl ([.ref (a 0)])).length) Slot.unset).toArray = ls at hl ⊢
  have hl : lv_has ls 10 [(0, .ref (a 0))] := hl
  have blk : ∀ k : Nat, k ≤ k0 → (bT p l e (headSpec w_x_name ({ frames := 5 + d, cells := 0, slots := 0, locals := 113 + 31 * d })).room s m #[.ref (a 0)] below meth c dC dI cy a A (qI dC dI cy a A below #[.ref (a 0)] s) 10 (x_GE k d 6 0) (fun L => [(0, .ref (a 0))]) 0 (fun L => [])) ∧ (bT p l e (headSpec w_x_name ({ frames := 5 + d, cells := 0, slots := 0, locals := 113 + 31 * d })).room s m #[.ref (a 0)] below meth c dC dI cy a A (qI dC dI cy a A below #[.ref (a 0)] s) 10 (x_GE k d 6 1) (fun L => [(0, .ref (a 0)), (1, .int (L 1)), (2, .int (L 2)), (3, .int (L 3)), (4, .int (L 4))]) 59 (fun L => [])) ∧ (bT p l e (headSpec w_x_name ({ frames := 5 + d, cells := 0, slots := 0, locals := 113 + 31 * d })).room s m #[.ref (a 0)] below meth c dC dI cy a A (qI dC dI cy a A below #[.ref (a 0)] s) 10 (x_GE k d 6 2) (fun L => [(0, .ref (a 0)), (1, .int (L 1)), (2, .int (L 2)), (3, .int (L 3)), (4, .int (L 4))]) 65 (fun L => [])) ∧ (bT p l e (headSpec w_x_name ({ frames := 5 + d, cells := 0, slots := 0, locals := 113 + 31 * d })).room s m #[.ref (a 0)] below meth c dC dI cy a A (qI dC dI cy a A below #[.ref (a 0)] s) 10 (x_GE k d 6 3) (fun L => [(0, .ref (a 0)), (1, .int (L 1)), (2, .int (L 2)), (3, .int (L 3)), (4, .int (L 4))]) 74 (fun L => [])) ∧ (bT p l e (headSpec w_x_name ({ frames := 5 + d, cells := 0, slots := 0, locals := 113 + 31 * d })).room s m #[.ref (a 0)] below meth c dC dI cy a A (qI dC dI cy a A below #[.ref (a 0)] s) 10 (x_GE k d 6 4) (fun L => [(0, .ref (a 0)), (1, .int (L 1)), (2, .int (L 2)), (3, .int (L 3)), (4, .int (L 4))]) 91 (fun L => [.int (L 100), .ref (a 0)])) ∧ (bT p l e (headSpec w_x_name ({ frames := 5 + d, cells := 0, slots := 0, locals := 113 + 31 * d })).room s m #[.ref (a 0)] below meth c dC dI cy a A (qI dC dI cy a A below #[.ref (a 0)] s) 10 (x_GE k d 6 5) (fun L => [(0, .ref (a 0)), (1, .int (L 1)), (2, .int (L 2)), (3, .int (L 3)), (4, .int (L 4))]) 92 (fun L => [.int (L 100), .int (L 101), .ref (a 0)])) ∧ (bT p l e (headSpec w_x_name ({ frames := 5 + d, cells := 0, slots := 0, locals := 113 + 31 * d })).room s m #[.ref (a 0)] below meth c dC dI cy a A (qI dC dI cy a A below #[.ref (a 0)] s) 10 (x_GE k d 6 6) (fun L => [(0, .ref (a 0)), (1, .int (L 1)), (2, .int (L 2)), (3, .int (L 3)), (4, .int (L 4))]) 98 (fun L => [])) ∧ (bT p l e (headSpec w_x_name ({ frames := 5 + d, cells := 0, slots := 0, locals := 113 + 31 * d })).room s m #[.ref (a 0)] below meth c dC dI cy a A (qI dC dI cy a A below #[.ref (a 0)] s) 10 (x_GE k d 6 7) (fun L => [(0, .ref (a 0)), (1, .int (L 1)), (2, .int (L 2)), (3, .int (L 3)), (4, .int (L 4)), (5, .int (L 5))]) 119 (fun L => [])) ∧ (bT p l e (headSpec w_x_name ({ frames := 5 + d, cells := 0, slots := 0, locals := 113 + 31 * d })).room s m #[.ref (a 0)] below meth c dC dI cy a A (qI dC dI cy a A below #[.ref (a 0)] s) 10 (x_GE k d 6 8) (fun L => [(0, .ref (a 0)), (1, .int (L 1)), (2, .int (L 2)), (3, .int (L 3)), (4, .int (L 4)), (5, .int (L 5)), (6, .int (L 6)), (7, .int (L 7)), (8, .int (L 8))]) 128 (fun L => [])) ∧ (bT p l e (headSpec w_x_name ({ frames := 5 + d, cells := 0, slots := 0, locals := 113 + 31 * d })).room s m #[.ref (a 0)] below meth c dC dI cy a A (qI dC dI cy a A below #[.ref (a 0)] s) 10 (x_GE k d 6 9) (fun L => [(0, .ref (a 0)), (1, .int (L 1)), (2, .int (L 2)), (3, .int (L 3)), (4, .int (L 4)), (5, .int (L 5)), (6, .int (L 6)), (7, .int (L 7)), (8, .int (L 8))]) 149 (fun L => [])) ∧ (bT p l e (headSpec w_x_name ({ frames := 5 + d, cells := 0, slots := 0, locals := 113 + 31 * d })).room s m #[.ref (a 0)] below meth c dC dI cy a A (qI dC dI cy a A below #[.ref (a 0)] s) 10 (x_GE k d 6 10) (fun L => [(0, .ref (a 0)), (1, .int (L 1)), (2, .int (L 2)), (3, .int (L 3)), (4, .int (L 4)), (5, .int (L 5)), (6, .int (L 6)), (7, .int (L 7)), (8, .int (L 8))]) 163 (fun L => [])) ∧ (bT p l e (headSpec w_x_name ({ frames := 5 + d, cells := 0, slots := 0, locals := 113 + 31 * d })).room s m #[.ref (a 0)] below meth c dC dI cy a A (qI dC dI cy a A below #[.ref (a 0)] s) 10 (x_GE k d 6 11) (fun L => [(0, .ref (a 0)), (1, .int (L 1)), (2, .int (L 2)), (3, .int (L 3)), (4, .int (L 4)), (5, .int (L 5)), (6, .int (L 6)), (7, .int (L 7)), (8, .int (L 8))]) 172 (fun L => [])) ∧ (bT p l e (headSpec w_x_name ({ frames := 5 + d, cells := 0, slots := 0, locals := 113 + 31 * d })).room s m #[.ref (a 0)] below meth c dC dI cy a A (qI dC dI cy a A below #[.ref (a 0)] s) 10 (x_GE k d 6 12) (fun L => [(0, .ref (a 0)), (1, .int (L 1)), (2, .int (L 2)), (3, .int (L 3)), (4, .int (L 4)), (5, .int (L 5)), (6, .int (L 6)), (7, .int (L 7)), (8, .int (L 8)), (9, .int (L 9))]) 188 (fun L => [])) ∧ (bT p l e (headSpec w_x_name ({ frames := 5 + d, cells := 0, slots := 0, locals := 113 + 31 * d })).room s m #[.ref (a 0)] below meth c dC dI cy a A (qI dC dI cy a A below #[.ref (a 0)] s) 10 (x_GE k d 6 13) (fun L => [(0, .ref (a 0)), (1, .int (L 1)), (2, .int (L 2)), (3, .int (L 3)), (4, .int (L 4)), (5, .int (L 5)), (6, .int (L 6)), (7, .int (L 7)), (8, .int (L 8)), (9, .int (L 9))]) 190 (fun L => [.int (L 100)])) ∧ (bT p l e (headSpec w_x_name ({ frames := 5 + d, cells := 0, slots := 0, locals := 113 + 31 * d })).room s m #[.ref (a 0)] below meth c dC dI cy a A (qI dC dI cy a A below #[.ref (a 0)] s) 10 (x_GE k d 6 14) (fun L => [(0, .ref (a 0)), (1, .int (L 1)), (2, .int (L 2)), (3, .int (L 3)), (4, .int (L 4)), (5, .int (L 5)), (6, .int (L 6)), (7, .int (L 7)), (8, .int (L 8)), (9, .int (L 9))]) 206 (fun L => [])) ∧ (bT p l e (headSpec w_x_name ({ frames := 5 + d, cells := 0, slots := 0, locals := 113 + 31 * d })).room s m #[.ref (a 0)] below meth c dC dI cy a A (qI dC dI cy a A below #[.ref (a 0)] s) 10 (x_GE k d 6 15) (fun L => [(0, .ref (a 0)), (1, .int (L 1)), (2, .int (L 2)), (3, .int (L 3)), (4, .int (L 4)), (5, .int (L 5)), (6, .int (L 6)), (7, .int (L 7)), (8, .int (L 8))]) 216 (fun L => [])) ∧ (bT p l e (headSpec w_x_name ({ frames := 5 + d, cells := 0, slots := 0, locals := 113 + 31 * d })).room s m #[.ref (a 0)] below meth c dC dI cy a A (qI dC dI cy a A below #[.ref (a 0)] s) 10 (x_GE k d 6 16) (fun L => [(0, .ref (a 0)), (1, .int (L 1)), (2, .int (L 2)), (3, .int (L 3)), (4, .int (L 4)), (5, .int (L 5)), (6, .int (L 6)), (7, .int (L 7)), (8, .int (L 8))]) 236 (fun L => [])) ∧ (bT p l e (headSpec w_x_name ({ frames := 5 + d, cells := 0, slots := 0, locals := 113 + 31 * d })).room s m #[.ref (a 0)] below meth c dC dI cy a A (qI dC dI cy a A below #[.ref (a 0)] s) 10 (x_GE k d 6 17) (fun L => [(0, .ref (a 0)), (1, .int (L 1)), (2, .int (L 2)), (3, .int (L 3)), (4, .int (L 4)), (5, .int (L 5)), (6, .int (L 6)), (7, .int (L 7)), (8, .int (L 8))]) 264 (fun L => [])) ∧ (bT p l e (headSpec w_x_name ({ frames := 5 + d, cells := 0, slots := 0, locals := 113 + 31 * d })).room s m #[.ref (a 0)] below meth c dC dI cy a A (qI dC dI cy a A below #[.ref (a 0)] s) 10 (x_GE k d 6 18) (fun L => [(0, .ref (a 0)), (1, .int (L 1)), (2, .int (L 2)), (3, .int (L 3)), (4, .int (L 4)), (5, .int (L 5)), (6, .int (L 6)), (7, .int (L 7)), (8, .int (L 8))]) 275 (fun L => [])) ∧ (bT p l e (headSpec w_x_name ({ frames := 5 + d, cells := 0, slots := 0, locals := 113 + 31 * d })).room s m #[.ref (a 0)] below meth c dC dI cy a A (qI dC dI cy a A below #[.ref (a 0)] s) 10 (x_GE k d 6 19) (fun L => [(0, .ref (a 0)), (1, .int (L 1)), (2, .int (L 2)), (3, .int (L 3)), (4, .int (L 4)), (5, .int (L 5)), (6, .int (L 6)), (7, .int (L 7)), (8, .int (L 8))]) 285 (fun L => [])) := by
    intro k
    induction k with
    | zero => exact fun _ => ⟨fun L σ r h => (by cases h), fun L σ r h => (by cases h), fun L σ r h => (by cases h), fun L σ r h => (by cases h), fun L σ r h => (by cases h), fun L σ r h => (by cases h), fun L σ r h => (by cases h), fun L σ r h => (by cases h), fun L σ r h => (by cases h), fun L σ r h => (by cases h), fun L σ r h => (by cases h), fun L σ r h => (by cases h), fun L σ r h => (by cases h), fun L σ r h => (by cases h), fun L σ r h => (by cases h), fun L σ r h => (by cases h), fun L σ r h => (by cases h), fun L σ r h => (by cases h), fun L σ r h => (by cases h), fun L σ r h => (by cases h)⟩
    | succ k ih =>
      intro hk
      replace ih := ih (by omega)
      refine ⟨?_, ?_, ?_, ?_, ?_, ?_, ?_, ?_, ?_, ?_, ?_, ?_, ?_, ?_, ?_, ?_, ?_, ?_, ?_, ?_⟩
      · intro L σ r h H locs ls hP hD hS hl
        rw [x_GE_6, s_name_0] at h
        refine lv_aload_n hx hb dX12_name_0 rfl (lv_at hl 0 rfl) ?_
        refine ng_8 hx hb hts in_x_name hown hK hP (hts _ (List.mem_cons_of_mem _ (List.mem_append_left _ (List.mem_append_left _ (List.mem_of_getElem? (i := 80) rfl))))) dX12_name_1 ?_
        refine lv_istore_n (lv' := [(1, .int (σ.1 8)), (0, .ref (a 0))]) hx hb dX12_name_4 rfl hl (by decide) rfl (fun ls hl => ?_)
        refine lv_aload_n hx hb dX12_name_5 rfl (lv_at hl 1 rfl) ?_
        obtain ⟨r1, hc1, h⟩ := ob_ex h
        refine nc_Vv (As := []) (rest := []) ⟨hx, hb, hml, hown, hts⟩ (c_x_find l dC dI cy a k (fun _ => 0) σ r1 hc1 H.size) (cwV 0 hts g_x_name_find_236 rfl rfl rfl hd_x_find (by show 1 + 1 ≤ 5 + d ∧ 8 + (2 + 11) + 23 ≤ 113 + 31 * d; omega)) hK hG hA hP hD hS rfl hl.1 rfl (Nat.le_of_ble_eq_true rfl) dX12_name_6 ⟨Nat.le_refl _, Nat.le_refl _⟩ (fun H locs hP hD hS => ?_)
        refine lv_aload_n hx hb dX12_name_9 rfl (lv_at hl 1 rfl) ?_
        refine ng_46 hx hb hts in_x_name hown hK hP (hts _ (List.mem_cons_of_mem _ (List.mem_append_left _ (List.mem_append_left _ (List.mem_of_getElem? (i := 84) rfl))))) dX12_name_10 ?_
        refine lv_istore_n (lv' := [(2, .int (r1.2.1 46)), (1, .int (σ.1 8)), (0, .ref (a 0))]) hx hb dX12_name_13 rfl hl (by decide) rfl (fun ls hl => ?_)
        refine lv_aload_n hx hb dX12_name_14 rfl (lv_at hl 2 rfl) ?_
        refine ng_47 hx hb hts in_x_name hown hK hP (hts _ (List.mem_cons_of_mem _ (List.mem_append_left _ (List.mem_append_left _ (List.mem_of_getElem? (i := 85) rfl))))) dX12_name_15 ?_
        refine lv_istore_n (lv' := [(3, .int (r1.2.1 47)), (2, .int (r1.2.1 46)), (1, .int (σ.1 8)), (0, .ref (a 0))]) hx hb dX12_name_18 rfl hl (by decide) rfl (fun ls hl => ?_)
        refine lv_aload_n hx hb dX12_name_19 rfl (lv_at hl 3 rfl) ?_
        refine ng_48 hx hb hts in_x_name hown hK hP (hts _ (List.mem_cons_of_mem _ (List.mem_append_left _ (List.mem_append_left _ (List.mem_of_getElem? (i := 86) rfl))))) dX12_name_20 ?_
        refine lv_istore (lv' := [(4, .int (r1.2.1 48)), (3, .int (r1.2.1 47)), (2, .int (r1.2.1 46)), (1, .int (σ.1 8)), (0, .ref (a 0))]) hx hb dX12_name_23 hl (by decide) rfl (fun ls hl => ?_)
        refine lv_aload_n hx hb dX12_name_25 rfl (lv_at hl 4 rfl) ?_
        obtain ⟨r2, hc2, h⟩ := ob_ex h
        refine nc_Vv (As := []) (rest := []) ⟨hx, hb, hml, hown, hts⟩ (c_x_take l dC dI cy a k (fun _ => 0) r1.2 r2 hc2 H.size) (cwV 0 hts g_x_name_take_71 rfl rfl rfl hd_x_take (by show 2 + 1 ≤ 5 + d ∧ 8 + (2 + 11) + 43 ≤ 113 + 31 * d; omega)) hK hG hA hP hD hS rfl hl.1 rfl (Nat.le_of_ble_eq_true rfl) dX12_name_26 ⟨Nat.le_refl _, Nat.le_refl _⟩ (fun H locs hP hD hS => ?_)
        refine lv_aload_n hx hb dX12_name_29 rfl (lv_at hl 4 rfl) ?_
        refine ng_10 hx hb hts in_x_name hown hK hP (hts _ (List.mem_cons_of_mem _ (List.mem_append_left _ (List.mem_append_left _ (List.mem_of_getElem? (i := 24) rfl))))) dX12_name_30 ?_
        refine lv_if_ne (tgt := 65) hx hb dX12_name_33 (by decide) (fun c3 => ?_) (fun c3 => ?_)
        · rw [if_neg c3] at h
          exact ih.2.2.1 (upd (upd (upd (upd L 1 ((σ.1 8))) 2 ((r1.2.1 46))) 3 ((r1.2.1 47))) 4 ((r1.2.1 48))) r2.2 r h H locs ls hP hD hS (lv_sub hl [4, 3, 2, 1, 0] rfl)
        · rw [if_pos c3] at h
          refine lv_iload_n hx hb dX12_name_36 rfl (lv_at hl 2 rfl) ?_
          refine lv_if_eq (tgt := 59) hx hb dX12_name_37 (by decide) (fun c4 => ?_) (fun c4 => ?_)
          · rw [if_pos c4] at h
            exact ih.2.1 (upd (upd (upd (upd L 1 ((σ.1 8))) 2 ((r1.2.1 46))) 3 ((r1.2.1 47))) 4 ((r1.2.1 48))) r2.2 r h H locs ls hP hD hS (lv_sub hl [4, 3, 2, 1, 0] rfl)
          · rw [if_neg c4] at h
            refine lv_iload_n hx hb dX12_name_40 rfl (lv_at hl 2 rfl) ?_
            refine lv_iconst (v := 3) hx hb dX12_name_41 (by decide) ?_
            refine lv_icmp_eq (tgt := 59) hx hb dX12_name_42 (by decide) (fun c5 => ?_) (fun c5 => ?_)
            · rw [if_pos c5] at h
              exact ih.2.1 (upd (upd (upd (upd L 1 ((σ.1 8))) 2 ((r1.2.1 46))) 3 ((r1.2.1 47))) 4 ((r1.2.1 48))) r2.2 r h H locs ls hP hD hS (lv_sub hl [4, 3, 2, 1, 0] rfl)
            · rw [if_neg c5] at h
              refine lv_iload_n hx hb dX12_name_45 rfl (lv_at hl 2 rfl) ?_
              refine lv_iconst (v := 2) hx hb dX12_name_46 (by decide) ?_
              refine lv_icmp_ne (tgt := 65) hx hb dX12_name_47 (by decide) (fun c6 => ?_) (fun c6 => ?_)
              · rw [if_neg c6] at h
                exact ih.2.2.1 (upd (upd (upd (upd L 1 ((σ.1 8))) 2 ((r1.2.1 46))) 3 ((r1.2.1 47))) 4 ((r1.2.1 48))) r2.2 r h H locs ls hP hD hS (lv_sub hl [4, 3, 2, 1, 0] rfl)
              · rw [if_pos c6] at h
                refine lv_aload_n hx hb dX12_name_50 rfl (lv_at hl 4 rfl) ?_
                refine lv_bipush (v := 6) hx hb dX12_name_51 (by decide) ?_
                obtain ⟨r7, hc7, h⟩ := ob_ex h
                refine nc_Vi (As := [.int 6]) (rest := []) ⟨hx, hb, hml, hown, hts⟩ (c_x_isSign l dC dI cy a k (upd (fun _ => 0) 1 6) r2.2 r7 hc7 H.size) (cwV 1 hts g_x_name_isSign_65 rfl rfl rfl hd_x_isSign (by show 0 + 1 ≤ 5 + d ∧ 8 + (2 + 11) + 0 ≤ 113 + 31 * d; omega)) hK hG hA hP hD hS rfl hl.1 rfl (Nat.le_of_ble_eq_true rfl) dX12_name_53 ⟨Nat.le_refl _, Nat.le_refl _⟩ (fun H locs hP hD hS => ?_)
                refine lv_if_ne (tgt := 65) hx hb dX12_name_56 (by decide) (fun c8 => ?_) (fun c8 => ?_)
                · rw [if_neg c8] at h
                  exact ih.2.2.1 (upd (upd (upd (upd L 1 ((σ.1 8))) 2 ((r1.2.1 46))) 3 ((r1.2.1 47))) 4 ((r1.2.1 48))) r7.2 r h H locs ls hP hD hS (lv_sub hl [4, 3, 2, 1, 0] rfl)
                · rw [if_pos c8] at h
                  exact ih.2.1 (upd (upd (upd (upd L 1 ((σ.1 8))) 2 ((r1.2.1 46))) 3 ((r1.2.1 47))) 4 ((r1.2.1 48))) r7.2 r h H locs ls hP hD hS (lv_sub hl [4, 3, 2, 1, 0] rfl)
      · intro L σ r h H locs ls hP hD hS hl
        rw [x_GE_6, s_name_1] at h
        refine lv_aload_n hx hb dX12_name_59 rfl (lv_at hl 0 rfl) ?_
        refine lv_iconst (v := 5) hx hb dX12_name_60 (by decide) ?_
        refine lv_iload_n hx hb dX12_name_61 rfl (lv_at hl 1 rfl) ?_
        obtain ⟨r1, hc1, h⟩ := ob_ex h
        refine nc_Vv (As := [.int 5, .int (L 1)]) (rest := []) ⟨hx, hb, hml, hown, hts⟩ (c_x_fault l dC dI cy a k (upd (upd (fun _ => 0) 1 5) 2 ((L 1))) σ r1 hc1 H.size) (cwV 2 hts g_x_name_fault_58 rfl rfl rfl hd_x_fault (by show 0 + 1 ≤ 5 + d ∧ 8 + (3 + 11) + 0 ≤ 113 + 31 * d; omega)) hK hG hA hP hD hS rfl hl.1 rfl (Nat.le_of_ble_eq_true rfl) dX12_name_62 ⟨Nat.le_refl _, Nat.le_refl _⟩ (fun H locs hP hD hS => ?_)
        exact ih.2.2.1 L r1.2 r h H locs ls hP hD hS (lv_sub hl [0, 1, 2, 3, 4] rfl)
      · intro L σ r h H locs ls hP hD hS hl
        rw [x_GE_6, s_name_2] at h
        refine lv_aload_n hx hb dX12_name_65 rfl (lv_at hl 0 rfl) ?_
        refine ng_10 hx hb hts in_x_name hown hK hP (hts _ (List.mem_cons_of_mem _ (List.mem_append_left _ (List.mem_append_left _ (List.mem_of_getElem? (i := 24) rfl))))) dX12_name_66 ?_
        refine lv_if_eq (tgt := 74) hx hb dX12_name_69 (by decide) (fun c1 => ?_) (fun c1 => ?_)
        · rw [if_pos c1] at h
          exact ih.2.2.2.1 L σ r h H locs ls hP hD hS (lv_sub hl [0, 1, 2, 3, 4] rfl)
        · rw [if_neg c1] at h
          refine lv_iconst (v := 0) hx hb dX12_name_72 (by decide) ?_
          cases h
          exact W.iret (v := 0) hx hb hr (fun t ht hW => ⟨⟨0, (), rfl, rfl, by rw [ht]; exact hP, va_K.moved hW.alike hK, hD⟩, hS.F ht⟩) hS.2.2 dX12_name_73
      · intro L σ r h H locs ls hP hD hS hl
        rw [x_GE_6, s_name_3] at h
        refine lv_iload_n hx hb dX12_name_74 rfl (lv_at hl 2 rfl) ?_
        refine lv_iconst (v := 1) hx hb dX12_name_75 (by decide) ?_
        refine lv_icmp_ne (tgt := 98) hx hb dX12_name_76 (by decide) (fun c1 => ?_) (fun c1 => ?_)
        · rw [if_neg c1] at h
          exact ih.2.2.2.2.2.2.1 L σ r h H locs ls hP hD hS (lv_sub hl [0, 1, 2, 3, 4] rfl)
        · rw [if_pos c1] at h
          refine lv_aload_n hx hb dX12_name_79 rfl (lv_at hl 0 rfl) ?_
          refine lv_bipush (v := 7) hx hb dX12_name_80 (by decide) ?_
          refine lv_iload hx hb dX12_name_82 (lv_at hl 4 rfl) ?_
          refine lv_if_eq (tgt := 91) hx hb dX12_name_84 (by decide) (fun c2 => ?_) (fun c2 => ?_)
          · rw [if_pos c2] at h
            exact ih.2.2.2.2.1 (upd L 100 7) σ r h H locs ls hP hD hS (lv_sub hl [0, 1, 2, 3, 4] rfl)
          · rw [if_neg c2] at h
            refine lv_iconst (v := 1) hx hb dX12_name_87 (by decide) ?_
            refine lv_goto (tgt := 92) hx hb dX12_name_88 (by decide) ?_
            exact ih.2.2.2.2.2.1 (upd (upd L 100 1) 101 7) σ r h H locs ls hP hD hS (lv_sub hl [0, 1, 2, 3, 4] rfl)
      · intro L σ r h H locs ls hP hD hS hl
        rw [x_GE_6, s_name_4] at h
        refine lv_iconst (v := 0) hx hb dX12_name_91 (by decide) ?_
        exact ih.2.2.2.2.2.1 (upd (upd L 100 0) 101 ((L 100))) σ r h H locs ls hP hD hS (lv_sub hl [0, 1, 2, 3, 4] rfl)
      · intro L σ r h H locs ls hP hD hS hl
        rw [x_GE_6, s_name_5] at h
        refine lv_iload_n hx hb dX12_name_92 rfl (lv_at hl 3 rfl) ?_
        refine lv_iconst (v := 0) hx hb dX12_name_93 (by decide) ?_
        obtain ⟨r1, hc1, h⟩ := ob_ex h
        refine nc_Vi (As := [.int (L 101), .int (L 100), .int (L 3), .int 0]) (rest := []) ⟨hx, hb, hml, hown, hts⟩ (c_x_node l dC dI cy a k (upd (upd (upd (upd (fun _ => 0) 1 ((L 101))) 2 ((L 100))) 3 ((L 3))) 4 0) σ r1 hc1 H.size) (cwV 4 hts g_x_name_node_101 rfl rfl rfl hd_x_node (by show 0 + 1 ≤ 5 + d ∧ 8 + (6 + 11) + 0 ≤ 113 + 31 * d; omega)) hK hG hA hP hD hS rfl hl.1 rfl (Nat.le_of_ble_eq_true rfl) dX12_name_94 ⟨Nat.le_refl _, Nat.le_refl _⟩ (fun H locs hP hD hS => ?_)
        cases h
        exact W.iret (v := r1.1) hx hb hr (fun t ht hW => ⟨⟨r1.1, (), rfl, rfl, by rw [ht]; exact hP, va_K.moved hW.alike hK, hD⟩, hS.F ht⟩) hS.2.2 dX12_name_97
      · intro L σ r h H locs ls hP hD hS hl
        rw [x_GE_6, s_name_6] at h
        refine lv_aload_n hx hb dX12_name_98 rfl (lv_at hl 0 rfl) ?_
        obtain ⟨r1, hc1, h⟩ := ob_ex h
        refine nc_Vv (As := []) (rest := []) ⟨hx, hb, hml, hown, hts⟩ (c_x_open l dC dI cy a k (fun _ => 0) σ r1 hc1 H.size) (cwV 0 hts g_x_name_open_177 rfl rfl rfl hd_x_open (by show 1 + 1 ≤ 5 + d ∧ 8 + (1 + 11) + 22 ≤ 113 + 31 * d; omega)) hK hG hA hP hD hS rfl hl.1 rfl (Nat.le_of_ble_eq_true rfl) dX12_name_99 ⟨Nat.le_refl _, Nat.le_refl _⟩ (fun H locs hP hD hS => ?_)
        refine lv_aload_n hx hb dX12_name_102 rfl (lv_at hl 0 rfl) ?_
        refine ng_13 hx hb hts in_x_name hown hK hP (hts _ (List.mem_cons_of_mem _ (List.mem_append_left _ (List.mem_append_left _ (List.mem_of_getElem? (i := 50) rfl))))) dX12_name_103 ?_
        refine lv_istore (lv' := [(5, .int (r1.2.1 13)), (0, .ref (a 0)), (1, .int (L 1)), (2, .int (L 2)), (3, .int (L 3)), (4, .int (L 4))]) hx hb dX12_name_106 hl (by decide) rfl (fun ls hl => ?_)
        refine lv_aload_n hx hb dX12_name_108 rfl (lv_at hl 1 rfl) ?_
        refine ng_10 hx hb hts in_x_name hown hK hP (hts _ (List.mem_cons_of_mem _ (List.mem_append_left _ (List.mem_append_left _ (List.mem_of_getElem? (i := 24) rfl))))) dX12_name_109 ?_
        refine lv_if_ne (tgt := 119) hx hb dX12_name_112 (by decide) (fun c2 => ?_) (fun c2 => ?_)
        · rw [if_neg c2] at h
          exact ih.2.2.2.2.2.2.2.1 (upd L 5 ((r1.2.1 13))) r1.2 r h H locs ls hP hD hS (lv_sub hl [1, 2, 3, 4, 5, 0] rfl)
        · rw [if_pos c2] at h
          refine lv_aload_n hx hb dX12_name_115 rfl (lv_at hl 1 rfl) ?_
          obtain ⟨r3, hc3, h⟩ := ob_ex h
          refine nc_Vv (As := []) (rest := []) ⟨hx, hb, hml, hown, hts⟩ (c_x_take l dC dI cy a k (fun _ => 0) r1.2 r3 hc3 H.size) (cwV 0 hts g_x_name_take_71 rfl rfl rfl hd_x_take (by show 2 + 1 ≤ 5 + d ∧ 8 + (2 + 11) + 43 ≤ 113 + 31 * d; omega)) hK hG hA hP hD hS rfl hl.1 rfl (Nat.le_of_ble_eq_true rfl) dX12_name_116 ⟨Nat.le_refl _, Nat.le_refl _⟩ (fun H locs hP hD hS => ?_)
          exact ih.2.2.2.2.2.2.2.1 (upd L 5 ((r1.2.1 13))) r3.2 r h H locs ls hP hD hS (lv_sub hl [1, 2, 3, 4, 5, 0] rfl)
      · intro L σ r h H locs ls hP hD hS hl
        rw [x_GE_6, s_name_7] at h
        refine lv_iconst (v := (-1)) hx hb dX12_name_119 (by decide) ?_
        refine lv_istore (lv' := [(6, .int (-1)), (0, .ref (a 0)), (1, .int (L 1)), (2, .int (L 2)), (3, .int (L 3)), (4, .int (L 4)), (5, .int (L 5))]) hx hb dX12_name_120 hl (by decide) rfl (fun ls hl => ?_)
        refine lv_iconst (v := (-1)) hx hb dX12_name_122 (by decide) ?_
        refine lv_istore (lv' := [(7, .int (-1)), (6, .int (-1)), (0, .ref (a 0)), (1, .int (L 1)), (2, .int (L 2)), (3, .int (L 3)), (4, .int (L 4)), (5, .int (L 5))]) hx hb dX12_name_123 hl (by decide) rfl (fun ls hl => ?_)
        refine lv_iconst (v := 0) hx hb dX12_name_125 (by decide) ?_
        refine lv_istore (lv' := [(8, .int 0), (7, .int (-1)), (6, .int (-1)), (0, .ref (a 0)), (1, .int (L 1)), (2, .int (L 2)), (3, .int (L 3)), (4, .int (L 4)), (5, .int (L 5))]) hx hb dX12_name_126 hl (by decide) rfl (fun ls hl => ?_)
        exact ih.2.2.2.2.2.2.2.2.1 (upd (upd (upd L 6 ((-1))) 7 ((-1))) 8 0) σ r h H locs ls hP hD hS (lv_sub hl [3, 4, 5, 6, 7, 8, 2, 1, 0] rfl)
      · intro L σ r h H locs ls hP hD hS hl
        rw [x_GE_6, s_name_8] at h
        refine lv_aload_n hx hb dX12_name_128 rfl (lv_at hl 0 rfl) ?_
        refine ng_10 hx hb hts in_x_name hown hK hP (hts _ (List.mem_cons_of_mem _ (List.mem_append_left _ (List.mem_append_left _ (List.mem_of_getElem? (i := 24) rfl))))) dX12_name_129 ?_
        refine lv_if_ne (tgt := 216) hx hb dX12_name_132 (by decide) (fun c1 => ?_) (fun c1 => ?_)
        · rw [if_neg c1] at h
          exact ih.2.2.2.2.2.2.2.2.2.2.2.2.2.2.2.1 L σ r h H locs ls hP hD hS (lv_sub hl [0, 1, 2, 3, 4, 5, 6, 7, 8] rfl)
        · rw [if_pos c1] at h
          refine lv_iload hx hb dX12_name_135 (lv_at hl 8 rfl) ?_
          refine lv_if_gt (tgt := 149) hx hb dX12_name_137 (by decide) (fun c2 => ?_) (fun c2 => ?_)
          · rw [if_pos c2] at h
            exact ih.2.2.2.2.2.2.2.2.2.1 L σ r h H locs ls hP hD hS (lv_sub hl [0, 1, 2, 3, 4, 5, 6, 7, 8] rfl)
          · rw [if_neg c2] at h
            refine lv_aload_n hx hb dX12_name_140 rfl (lv_at hl 0 rfl) ?_
            refine lv_bipush (v := 7) hx hb dX12_name_141 (by decide) ?_
            obtain ⟨r3, hc3, h⟩ := ob_ex h
            refine nc_Vi (As := [.int 7]) (rest := []) ⟨hx, hb, hml, hown, hts⟩ (c_x_isSign l dC dI cy a k (upd (fun _ => 0) 1 7) σ r3 hc3 H.size) (cwV 1 hts g_x_name_isSign_65 rfl rfl rfl hd_x_isSign (by show 0 + 1 ≤ 5 + d ∧ 8 + (2 + 11) + 0 ≤ 113 + 31 * d; omega)) hK hG hA hP hD hS rfl hl.1 rfl (Nat.le_of_ble_eq_true rfl) dX12_name_143 ⟨Nat.le_refl _, Nat.le_refl _⟩ (fun H locs hP hD hS => ?_)
            refine lv_if_ne (tgt := 216) hx hb dX12_name_146 (by decide) (fun c4 => ?_) (fun c4 => ?_)
            · rw [if_neg c4] at h
              exact ih.2.2.2.2.2.2.2.2.2.2.2.2.2.2.2.1 L r3.2 r h H locs ls hP hD hS (lv_sub hl [0, 1, 2, 3, 4, 5, 6, 7, 8] rfl)
            · rw [if_pos c4] at h
              exact ih.2.2.2.2.2.2.2.2.2.1 L r3.2 r h H locs ls hP hD hS (lv_sub hl [0, 1, 2, 3, 4, 5, 6, 7, 8] rfl)
      · intro L σ r h H locs ls hP hD hS hl
        rw [x_GE_6, s_name_9] at h
        refine lv_iload hx hb dX12_name_149 (lv_at hl 8 rfl) ?_
        refine lv_if_eq (tgt := 163) hx hb dX12_name_151 (by decide) (fun c1 => ?_) (fun c1 => ?_)
        · rw [if_pos c1] at h
          exact ih.2.2.2.2.2.2.2.2.2.2.1 L σ r h H locs ls hP hD hS (lv_sub hl [0, 1, 2, 3, 4, 5, 6, 7, 8] rfl)
        · rw [if_neg c1] at h
          refine lv_aload_n hx hb dX12_name_154 rfl (lv_at hl 0 rfl) ?_
          refine lv_bipush (v := 12) hx hb dX12_name_155 (by decide) ?_
          obtain ⟨r2, hc2, h⟩ := ob_ex h
          refine nc_Vi (As := [.int 12]) (rest := []) ⟨hx, hb, hml, hown, hts⟩ (c_x_isSign l dC dI cy a k (upd (fun _ => 0) 1 12) σ r2 hc2 H.size) (cwV 1 hts g_x_name_isSign_65 rfl rfl rfl hd_x_isSign (by show 0 + 1 ≤ 5 + d ∧ 8 + (2 + 11) + 0 ≤ 113 + 31 * d; omega)) hK hG hA hP hD hS rfl hl.1 rfl (Nat.le_of_ble_eq_true rfl) dX12_name_157 ⟨Nat.le_refl _, Nat.le_refl _⟩ (fun H locs hP hD hS => ?_)
          refine lv_if_eq (tgt := 216) hx hb dX12_name_160 (by decide) (fun c3 => ?_) (fun c3 => ?_)
          · rw [if_pos c3] at h
            exact ih.2.2.2.2.2.2.2.2.2.2.2.2.2.2.2.1 L r2.2 r h H locs ls hP hD hS (lv_sub hl [0, 1, 2, 3, 4, 5, 6, 7, 8] rfl)
          · rw [if_neg c3] at h
            exact ih.2.2.2.2.2.2.2.2.2.2.1 L r2.2 r h H locs ls hP hD hS (lv_sub hl [0, 1, 2, 3, 4, 5, 6, 7, 8] rfl)
      · intro L σ r h H locs ls hP hD hS hl
        rw [x_GE_6, s_name_10] at h
        refine lv_iload hx hb dX12_name_163 (lv_at hl 8 rfl) ?_
        refine lv_if_le (tgt := 172) hx hb dX12_name_165 (by decide) (fun c1 => ?_) (fun c1 => ?_)
        · rw [if_pos c1] at h
          exact ih.2.2.2.2.2.2.2.2.2.2.2.1 L σ r h H locs ls hP hD hS (lv_sub hl [0, 1, 2, 3, 4, 5, 6, 7, 8] rfl)
        · rw [if_neg c1] at h
          refine lv_aload_n hx hb dX12_name_168 rfl (lv_at hl 0 rfl) ?_
          obtain ⟨r2, hc2, h⟩ := ob_ex h
          refine nc_Vv (As := []) (rest := []) ⟨hx, hb, hml, hown, hts⟩ (c_x_take l dC dI cy a k (fun _ => 0) σ r2 hc2 H.size) (cwV 0 hts g_x_name_take_71 rfl rfl rfl hd_x_take (by show 2 + 1 ≤ 5 + d ∧ 8 + (2 + 11) + 43 ≤ 113 + 31 * d; omega)) hK hG hA hP hD hS rfl hl.1 rfl (Nat.le_of_ble_eq_true rfl) dX12_name_169 ⟨Nat.le_refl _, Nat.le_refl _⟩ (fun H locs hP hD hS => ?_)
          exact ih.2.2.2.2.2.2.2.2.2.2.2.1 L r2.2 r h H locs ls hP hD hS (lv_sub hl [0, 1, 2, 3, 4, 5, 6, 7, 8] rfl)
      · intro L σ r h H locs ls hP hD hS hl
        rw [x_GE_6, s_name_11] at h
        refine lv_aload_n hx hb dX12_name_172 rfl (lv_at hl 0 rfl) ?_
        obtain ⟨e1, he1, h⟩ := od_ex h
        obtain ⟨r1, hc1, h⟩ := ob_ex h
        refine nc_Vi (As := []) (rest := []) ⟨hx, hb, hml, hown, hts⟩ ((IH k (by omega)).2.2.2.1 e1 (fun _ => 0) σ r1 hc1 H.size) (cwV 0 hts g_x_name_exp_209 rfl rfl rfl hd_x_exp (by show (5 + e1) + 1 ≤ 5 + d ∧ 8 + (2 + 11) + (113 + 31 * e1) ≤ 113 + 31 * d; omega)) hK hG hA hP hD hS rfl hl.1 rfl (Nat.le_of_ble_eq_true rfl) dX12_name_173 ⟨Nat.le_refl _, Nat.le_refl _⟩ (fun H locs hP hD hS => ?_)
        refine lv_istore (lv' := [(9, .int r1.1), (0, .ref (a 0)), (1, .int (L 1)), (2, .int (L 2)), (3, .int (L 3)), (4, .int (L 4)), (5, .int (L 5)), (6, .int (L 6)), (7, .int (L 7)), (8, .int (L 8))]) hx hb dX12_name_176 hl (by decide) rfl (fun ls hl => ?_)
        refine lv_iload hx hb dX12_name_178 (lv_at hl 9 rfl) ?_
        refine lv_if_ne (tgt := 188) hx hb dX12_name_180 (by decide) (fun c2 => ?_) (fun c2 => ?_)
        · rw [if_neg c2] at h
          exact ih.2.2.2.2.2.2.2.2.2.2.2.2.1 (upd L 9 r1.1) r1.2 r h H locs ls hP hD hS (lv_sub hl [1, 2, 3, 4, 5, 6, 7, 8, 9, 0] rfl)
        · rw [if_pos c2] at h
          refine lv_iload hx hb dX12_name_183 (lv_at hl 0 rfl) ?_
          refine lv_goto (tgt := 190) hx hb dX12_name_185 (by decide) ?_
          exact ih.2.2.2.2.2.2.2.2.2.2.2.2.2.1 (upd (upd L 9 r1.1) 100 r1.1) r1.2 r h H locs ls hP hD hS (lv_sub hl [1, 2, 3, 4, 5, 6, 7, 8, 9, 0] rfl)
      · intro L σ r h H locs ls hP hD hS hl
        rw [x_GE_6, s_name_12] at h
        refine lv_iload hx hb dX12_name_188 (lv_at hl 6 rfl) ?_
        exact ih.2.2.2.2.2.2.2.2.2.2.2.2.2.1 (upd L 100 ((L 6))) σ r h H locs ls hP hD hS (lv_sub hl [0, 1, 2, 3, 4, 5, 6, 7, 8, 9] rfl)
      · intro L σ r h H locs ls hP hD hS hl
        rw [x_GE_6, s_name_13] at h
        refine lv_istore (lv' := [(6, .int (L 100)), (0, .ref (a 0)), (1, .int (L 1)), (2, .int (L 2)), (3, .int (L 3)), (4, .int (L 4)), (5, .int (L 5)), (7, .int (L 7)), (8, .int (L 8)), (9, .int (L 9))]) hx hb dX12_name_190 hl (by decide) rfl (fun ls hl => ?_)
        refine lv_iload hx hb dX12_name_192 (lv_at hl 8 rfl) ?_
        refine lv_if_le (tgt := 206) hx hb dX12_name_194 (by decide) (fun c1 => ?_) (fun c1 => ?_)
        · rw [if_pos c1] at h
          exact ih.2.2.2.2.2.2.2.2.2.2.2.2.2.2.1 (upd L 6 ((L 100))) σ r h H locs ls hP hD hS (lv_sub hl [1, 2, 3, 4, 5, 6, 0, 7, 8, 9] rfl)
        · rw [if_neg c1] at h
          refine lv_aload_n hx hb dX12_name_197 rfl (lv_at hl 1 rfl) ?_
          refine ng_19 hx hb hts in_x_name hown hK hP (hts _ (List.mem_cons_of_mem _ (List.mem_append_left _ (List.mem_append_left _ (List.mem_of_getElem? (i := 54) rfl))))) dX12_name_198 ?_
          refine lv_iload hx hb dX12_name_201 (lv_at hl 7 rfl) ?_
          refine lv_iload hx hb dX12_name_203 (lv_at hl 9 rfl) ?_
          obtain ⟨q2, h⟩ := nb_ite1 h
          refine ns_9 hx hb hK hP hD hS q2 dX12_name_205 (fun H locs hP hD hS => ?_)
          exact ih.2.2.2.2.2.2.2.2.2.2.2.2.2.2.1 (upd L 6 ((L 100))) (σ.1, σ.2.1, updG σ.2.2 9 (upd (σ.2.2 9) ((L 7)).toNatClampNeg ((L 9)))) r h H locs ls hP hD hS (lv_sub hl [1, 2, 3, 4, 5, 6, 0, 7, 8, 9] rfl)
      · intro L σ r h H locs ls hP hD hS hl
        rw [x_GE_6, s_name_14] at h
        refine lv_iload hx hb dX12_name_206 (lv_at hl 9 rfl) ?_
        refine lv_istore (lv' := [(7, .int (L 9)), (0, .ref (a 0)), (1, .int (L 1)), (2, .int (L 2)), (3, .int (L 3)), (4, .int (L 4)), (5, .int (L 5)), (6, .int (L 6)), (8, .int (L 8)), (9, .int (L 9))]) hx hb dX12_name_208 hl (by decide) rfl (fun ls hl => ?_)
        refine lv_iinc (v := ((L 8)) + 1) (lv' := [(8, .int (((L 8)) + 1)), (7, .int (L 9)), (0, .ref (a 0)), (1, .int (L 1)), (2, .int (L 2)), (3, .int (L 3)), (4, .int (L 4)), (5, .int (L 5)), (6, .int (L 6)), (9, .int (L 9))]) hx hb dX12_name_210 hl (k := 8) rfl rfl (by decide) rfl (fun ls hl => ?_)
        refine lv_goto (tgt := 128) hx hb dX12_name_213 (by decide) ?_
        exact ih.2.2.2.2.2.2.2.2.1 (upd (upd L 7 ((L 9))) 8 (((L 8)) + 1)) σ r h H locs ls hP hD hS (lv_sub hl [2, 3, 4, 5, 6, 7, 8, 1, 0] rfl)
      · intro L σ r h H locs ls hP hD hS hl
        rw [x_GE_6, s_name_15] at h
        refine lv_aload_n hx hb dX12_name_216 rfl (lv_at hl 0 rfl) ?_
        refine ng_10 hx hb hts in_x_name hown hK hP (hts _ (List.mem_cons_of_mem _ (List.mem_append_left _ (List.mem_append_left _ (List.mem_of_getElem? (i := 24) rfl))))) dX12_name_217 ?_
        refine lv_if_ne (tgt := 236) hx hb dX12_name_220 (by decide) (fun c1 => ?_) (fun c1 => ?_)
        · rw [if_neg c1] at h
          exact ih.2.2.2.2.2.2.2.2.2.2.2.2.2.2.2.2.1 L σ r h H locs ls hP hD hS (lv_sub hl [0, 1, 2, 3, 4, 5, 6, 7, 8] rfl)
        · rw [if_pos c1] at h
          refine lv_aload_n hx hb dX12_name_223 rfl (lv_at hl 0 rfl) ?_
          refine lv_bipush (v := 7) hx hb dX12_name_224 (by decide) ?_
          obtain ⟨r2, hc2, h⟩ := ob_ex h
          refine nc_Vi (As := [.int 7]) (rest := []) ⟨hx, hb, hml, hown, hts⟩ (c_x_isSign l dC dI cy a k (upd (fun _ => 0) 1 7) σ r2 hc2 H.size) (cwV 1 hts g_x_name_isSign_65 rfl rfl rfl hd_x_isSign (by show 0 + 1 ≤ 5 + d ∧ 8 + (2 + 11) + 0 ≤ 113 + 31 * d; omega)) hK hG hA hP hD hS rfl hl.1 rfl (Nat.le_of_ble_eq_true rfl) dX12_name_226 ⟨Nat.le_refl _, Nat.le_refl _⟩ (fun H locs hP hD hS => ?_)
          refine lv_if_ne (tgt := 236) hx hb dX12_name_229 (by decide) (fun c3 => ?_) (fun c3 => ?_)
          · rw [if_neg c3] at h
            exact ih.2.2.2.2.2.2.2.2.2.2.2.2.2.2.2.2.1 L r2.2 r h H locs ls hP hD hS (lv_sub hl [0, 1, 2, 3, 4, 5, 6, 7, 8] rfl)
          · rw [if_pos c3] at h
            refine lv_aload_n hx hb dX12_name_232 rfl (lv_at hl 0 rfl) ?_
            obtain ⟨r4, hc4, h⟩ := ob_ex h
            refine nc_Vv (As := []) (rest := []) ⟨hx, hb, hml, hown, hts⟩ (c_x_cannot l dC dI cy a k (fun _ => 0) r2.2 r4 hc4 H.size) (cwV 0 hts g_x_name_cannot_68 rfl rfl rfl hd_x_cannot (by show 1 + 1 ≤ 5 + d ∧ 8 + (1 + 11) + 22 ≤ 113 + 31 * d; omega)) hK hG hA hP hD hS rfl hl.1 rfl (Nat.le_of_ble_eq_true rfl) dX12_name_233 ⟨Nat.le_refl _, Nat.le_refl _⟩ (fun H locs hP hD hS => ?_)
            exact ih.2.2.2.2.2.2.2.2.2.2.2.2.2.2.2.2.1 L r4.2 r h H locs ls hP hD hS (lv_sub hl [0, 1, 2, 3, 4, 5, 6, 7, 8] rfl)
      · intro L σ r h H locs ls hP hD hS hl
        rw [x_GE_6, s_name_16] at h
        refine lv_aload_n hx hb dX12_name_236 rfl (lv_at hl 0 rfl) ?_
        refine ng_10 hx hb hts in_x_name hown hK hP (hts _ (List.mem_cons_of_mem _ (List.mem_append_left _ (List.mem_append_left _ (List.mem_of_getElem? (i := 24) rfl))))) dX12_name_237 ?_
        refine lv_if_ne (tgt := 264) hx hb dX12_name_240 (by decide) (fun c1 => ?_) (fun c1 => ?_)
        · rw [if_neg c1] at h
          exact ih.2.2.2.2.2.2.2.2.2.2.2.2.2.2.2.2.2.1 L σ r h H locs ls hP hD hS (lv_sub hl [0, 1, 2, 3, 4, 5, 6, 7, 8] rfl)
        · rw [if_pos c1] at h
          refine lv_iload hx hb dX12_name_243 (lv_at hl 8 rfl) ?_
          refine lv_aload_n hx hb dX12_name_245 rfl (lv_at hl 0 rfl) ?_
          refine ng_33 hx hb hts in_x_name hown hK hP (hts _ (List.mem_cons_of_mem _ (List.mem_append_left _ (List.mem_append_left _ (List.mem_of_getElem? (i := 93) rfl))))) dX12_name_246 ?_
          refine lv_iload_n hx hb dX12_name_249 rfl (lv_at hl 3 rfl) ?_
          obtain ⟨q2, h⟩ := nb_ite1 h
          refine nl_18 hx hb hK hP q2 dX12_name_250 ?_
          refine lv_icmp_eq (tgt := 264) hx hb dX12_name_251 (by decide) (fun c3 => ?_) (fun c3 => ?_)
          · rw [if_pos c3] at h
            exact ih.2.2.2.2.2.2.2.2.2.2.2.2.2.2.2.2.2.1 L σ r h H locs ls hP hD hS (lv_sub hl [0, 1, 2, 3, 4, 5, 6, 7, 8] rfl)
          · rw [if_neg c3] at h
            refine lv_aload_n hx hb dX12_name_254 rfl (lv_at hl 0 rfl) ?_
            refine lv_bipush (v := 6) hx hb dX12_name_255 (by decide) ?_
            refine lv_aload_n hx hb dX12_name_257 rfl (lv_at hl 0 rfl) ?_
            refine ng_8 hx hb hts in_x_name hown hK hP (hts _ (List.mem_cons_of_mem _ (List.mem_append_left _ (List.mem_append_left _ (List.mem_of_getElem? (i := 80) rfl))))) dX12_name_258 ?_
            obtain ⟨r4, hc4, h⟩ := ob_ex h
            refine nc_Vv (As := [.int 6, .int (σ.1 8)]) (rest := []) ⟨hx, hb, hml, hown, hts⟩ (c_x_fault l dC dI cy a k (upd (upd (fun _ => 0) 1 6) 2 ((σ.1 8))) σ r4 hc4 H.size) (cwV 2 hts g_x_name_fault_58 rfl rfl rfl hd_x_fault (by show 0 + 1 ≤ 5 + d ∧ 8 + (3 + 11) + 0 ≤ 113 + 31 * d; omega)) hK hG hA hP hD hS rfl hl.1 rfl (Nat.le_of_ble_eq_true rfl) dX12_name_261 ⟨Nat.le_refl _, Nat.le_refl _⟩ (fun H locs hP hD hS => ?_)
            exact ih.2.2.2.2.2.2.2.2.2.2.2.2.2.2.2.2.2.1 L r4.2 r h H locs ls hP hD hS (lv_sub hl [0, 1, 2, 3, 4, 5, 6, 7, 8] rfl)
      · intro L σ r h H locs ls hP hD hS hl
        rw [x_GE_6, s_name_17] at h
        refine lv_aload_n hx hb dX12_name_264 rfl (lv_at hl 0 rfl) ?_
        refine ng_10 hx hb hts in_x_name hown hK hP (hts _ (List.mem_cons_of_mem _ (List.mem_append_left _ (List.mem_append_left _ (List.mem_of_getElem? (i := 24) rfl))))) dX12_name_265 ?_
        refine lv_if_ne (tgt := 275) hx hb dX12_name_268 (by decide) (fun c1 => ?_) (fun c1 => ?_)
        · rw [if_neg c1] at h
          exact ih.2.2.2.2.2.2.2.2.2.2.2.2.2.2.2.2.2.2.1 L σ r h H locs ls hP hD hS (lv_sub hl [0, 1, 2, 3, 4, 5, 6, 7, 8] rfl)
        · rw [if_pos c1] at h
          refine lv_aload_n hx hb dX12_name_271 rfl (lv_at hl 0 rfl) ?_
          obtain ⟨r2, hc2, h⟩ := ob_ex h
          refine nc_Vv (As := []) (rest := []) ⟨hx, hb, hml, hown, hts⟩ (c_x_take l dC dI cy a k (fun _ => 0) σ r2 hc2 H.size) (cwV 0 hts g_x_name_take_71 rfl rfl rfl hd_x_take (by show 2 + 1 ≤ 5 + d ∧ 8 + (2 + 11) + 43 ≤ 113 + 31 * d; omega)) hK hG hA hP hD hS rfl hl.1 rfl (Nat.le_of_ble_eq_true rfl) dX12_name_272 ⟨Nat.le_refl _, Nat.le_refl _⟩ (fun H locs hP hD hS => ?_)
          exact ih.2.2.2.2.2.2.2.2.2.2.2.2.2.2.2.2.2.2.1 L r2.2 r h H locs ls hP hD hS (lv_sub hl [0, 1, 2, 3, 4, 5, 6, 7, 8] rfl)
      · intro L σ r h H locs ls hP hD hS hl
        rw [x_GE_6, s_name_18] at h
        refine lv_aload_n hx hb dX12_name_275 rfl (lv_at hl 0 rfl) ?_
        refine lv_dup hx hb dX12_name_276 rfl ?_
        refine ng_13 hx hb hts in_x_name hown hK hP (hts _ (List.mem_cons_of_mem _ (List.mem_append_left _ (List.mem_append_left _ (List.mem_of_getElem? (i := 50) rfl))))) dX12_name_277 ?_
        refine lv_iconst (v := 1) hx hb dX12_name_280 (by decide) ?_
        refine lv_isub hx hb dX12_name_281 ?_
        refine np_13 hx hb hts in_x_name hown hK hP hD hS (hts _ (List.mem_cons_of_mem _ (List.mem_append_left _ (List.mem_append_left _ (List.mem_of_getElem? (i := 50) rfl))))) dX12_name_282 (fun H locs hP hD hS => ?_)
        exact ih.2.2.2.2.2.2.2.2.2.2.2.2.2.2.2.2.2.2.2 L (upd σ.1 13 ((((σ.1 13)) - 1)), σ.2.1, σ.2.2) r h H locs ls hP hD hS (lv_sub hl [0, 1, 2, 3, 4, 5, 6, 7, 8] rfl)
      · intro L σ r h H locs ls hP hD hS hl
        rw [x_GE_6, s_name_19] at h
        refine lv_aload_n hx hb dX12_name_285 rfl (lv_at hl 0 rfl) ?_
        refine lv_bipush (v := 8) hx hb dX12_name_286 (by decide) ?_
        refine lv_iload_n hx hb dX12_name_288 rfl (lv_at hl 3 rfl) ?_
        refine lv_iload hx hb dX12_name_289 (lv_at hl 6 rfl) ?_
        refine lv_iload hx hb dX12_name_291 (lv_at hl 8 rfl) ?_
        refine lv_iload hx hb dX12_name_293 (lv_at hl 5 rfl) ?_
        obtain ⟨r1, hc1, h⟩ := ob_ex h
        refine nc_Vi (As := [.int 8, .int (L 3), .int (L 6), .int (L 8), .int (L 5)]) (rest := []) ⟨hx, hb, hml, hown, hts⟩ (c_x_wrapped l dC dI cy a k (upd (upd (upd (upd (upd (fun _ => 0) 1 8) 2 ((L 3))) 3 ((L 6))) 4 ((L 8))) 5 ((L 5))) σ r1 hc1 H.size) (cwV 5 hts g_x_name_wrapped_242 rfl rfl rfl hd_x_wrapped (by show 1 + 1 ≤ 5 + d ∧ 8 + (7 + 11) + 25 ≤ 113 + 31 * d; omega)) hK hG hA hP hD hS rfl hl.1 rfl (Nat.le_of_ble_eq_true rfl) dX12_name_295 ⟨Nat.le_refl _, Nat.le_refl _⟩ (fun H locs hP hD hS => ?_)
        cases h
        exact W.iret (v := r1.1) hx hb hr (fun t ht hW => ⟨⟨r1.1, (), rfl, rfl, by rw [ht]; exact hP, va_K.moved hW.alike hK, hD⟩, hS.F ht⟩) hS.2.2 dX12_name_298
  exact (blk k0 (Nat.le_refl _)).1 L0 σ0 r0 h0 s.heap [] ls hP hD hS hl
theorem gg_x_negation_isWord : GoodIn w_x_negation w_x_isWord := goodIn_sub (fun w h => (List.mem_cons.mp h).elim (fun e => (List.mem_cons_of_mem _ (List.mem_append_left _ (List.mem_append_right _ (List.mem_append_right _ (List.mem_append_right _ (List.mem_append_right _ (List.mem_append_right _ (List.mem_append_left _ (List.mem_cons.mpr (Or.inl e))))))))))) (fun h => (List.mem_append.mp h).elim (fun h => (List.mem_cons_of_mem _ (List.mem_append_left _ (List.mem_append_right _ (List.mem_append_right _ (List.mem_append_right _ (List.mem_append_right _ (List.mem_append_right _ (List.mem_append_left _ (List.mem_cons_of_mem _ h)))))))))) (fun h => List.mem_cons_of_mem _ (List.mem_append_right _ h)))) w_x_isWord_good
theorem g_x_negation_isWord_74 : GoodIn w_x_negation (wsV RX12 74 RX12 yX12_isWord w_x_isWord) := goodIn_app (nb_g4 (List.mem_cons_of_mem _ (List.mem_append_left _ (List.mem_append_left _ (List.mem_of_getElem? (i := 31) rfl)))) (List.mem_cons_of_mem _ (List.mem_append_left _ (List.mem_append_left _ (List.mem_of_getElem? (i := 32) rfl)))) (List.mem_cons_of_mem _ (List.mem_append_left _ (List.mem_append_left _ (List.mem_of_getElem? (i := 33) rfl)))) (List.mem_cons_of_mem _ (List.mem_append_left _ (List.mem_append_left _ (List.mem_of_getElem? (i := 20) rfl)))) (by decide +kernel)) gg_x_negation_isWord
theorem gg_x_negation_negation : GoodIn w_x_negation w_x_negation := goodIn_sub (fun w h => (List.mem_cons.mp h).elim (fun e => e ▸ (List.mem_cons_of_mem _ (List.mem_append_left _ (List.mem_append_left _ (List.mem_of_getElem? (i := 7) rfl))))) (fun h => List.mem_cons_of_mem _ h)) w_x_negation_good
theorem g_x_negation_negation_171 : GoodIn w_x_negation (wsV RX12 171 RX12 yX12_negation w_x_negation) := goodIn_app (nb_g4 (List.mem_cons_of_mem _ (List.mem_append_left _ (List.mem_append_left _ (List.mem_of_getElem? (i := 55) rfl)))) (List.mem_cons_of_mem _ (List.mem_append_left _ (List.mem_append_left _ (List.mem_of_getElem? (i := 56) rfl)))) (List.mem_cons_of_mem _ (List.mem_append_left _ (List.mem_append_left _ (List.mem_of_getElem? (i := 57) rfl)))) (List.mem_cons_of_mem _ (List.mem_append_left _ (List.mem_append_left _ (List.mem_of_getElem? (i := 20) rfl)))) (by decide +kernel)) gg_x_negation_negation
theorem gg_x_negation_node : GoodIn w_x_negation w_x_node := goodIn_sub (fun w h => (List.mem_cons.mp h).elim (fun e => (List.mem_cons_of_mem _ (List.mem_append_left _ (List.mem_append_right _ (List.mem_append_right _ (List.mem_append_right _ (List.mem_append_right _ (List.mem_append_left _ (List.mem_cons.mpr (Or.inl e)))))))))) (fun h => (List.mem_append.mp h).elim (fun h => (List.mem_cons_of_mem _ (List.mem_append_left _ (List.mem_append_right _ (List.mem_append_right _ (List.mem_append_right _ (List.mem_append_right _ (List.mem_append_left _ (List.mem_cons_of_mem _ h))))))))) (fun h => List.mem_cons_of_mem _ (List.mem_append_right _ h)))) w_x_node_good
theorem g_x_negation_node_101 : GoodIn w_x_negation (wsV RX12 101 RX12 yX12_node w_x_node) := goodIn_app (nb_g4 (List.mem_cons_of_mem _ (List.mem_append_left _ (List.mem_append_left _ (List.mem_of_getElem? (i := 28) rfl)))) (List.mem_cons_of_mem _ (List.mem_append_left _ (List.mem_append_left _ (List.mem_of_getElem? (i := 29) rfl)))) (List.mem_cons_of_mem _ (List.mem_append_left _ (List.mem_append_left _ (List.mem_of_getElem? (i := 30) rfl)))) (List.mem_cons_of_mem _ (List.mem_append_left _ (List.mem_append_left _ (List.mem_of_getElem? (i := 20) rfl)))) (by decide +kernel)) gg_x_negation_node
theorem gg_x_negation_open : GoodIn w_x_negation w_x_open := goodIn_sub (fun w h => (List.mem_cons.mp h).elim (fun e => (List.mem_cons_of_mem _ (List.mem_append_left _ (List.mem_append_right _ (List.mem_append_right _ (List.mem_append_left _ (List.mem_cons.mpr (Or.inl e)))))))) (fun h => (List.mem_append.mp h).elim (fun h => (List.mem_cons_of_mem _ (List.mem_append_left _ (List.mem_append_right _ (List.mem_append_right _ (List.mem_append_left _ (List.mem_cons_of_mem _ h))))))) (fun h => List.mem_cons_of_mem _ (List.mem_append_right _ h)))) w_x_open_good
theorem g_x_negation_open_177 : GoodIn w_x_negation (wsV RX12 177 RX12 yX12_open w_x_open) := goodIn_app (nb_g4 (List.mem_cons_of_mem _ (List.mem_append_left _ (List.mem_append_left _ (List.mem_of_getElem? (i := 21) rfl)))) (List.mem_cons_of_mem _ (List.mem_append_left _ (List.mem_append_left _ (List.mem_of_getElem? (i := 22) rfl)))) (List.mem_cons_of_mem _ (List.mem_append_left _ (List.mem_append_left _ (List.mem_of_getElem? (i := 23) rfl)))) (List.mem_cons_of_mem _ (List.mem_append_left _ (List.mem_append_left _ (List.mem_of_getElem? (i := 20) rfl)))) (by decide +kernel)) gg_x_negation_open
theorem gg_x_negation_relation : GoodIn w_x_negation w_x_relation := goodIn_sub (fun w h => (List.mem_cons.mp h).elim (fun e => e ▸ (List.mem_cons_of_mem _ (List.mem_append_left _ (List.mem_append_left _ (List.mem_of_getElem? (i := 13) rfl))))) (fun h => List.mem_cons_of_mem _ h)) w_x_relation_good
theorem g_x_negation_relation_174 : GoodIn w_x_negation (wsV RX12 174 RX12 yX12_relation w_x_relation) := goodIn_app (nb_g4 (List.mem_cons_of_mem _ (List.mem_append_left _ (List.mem_append_left _ (List.mem_of_getElem? (i := 94) rfl)))) (List.mem_cons_of_mem _ (List.mem_append_left _ (List.mem_append_left _ (List.mem_of_getElem? (i := 95) rfl)))) (List.mem_cons_of_mem _ (List.mem_append_left _ (List.mem_append_left _ (List.mem_of_getElem? (i := 96) rfl)))) (List.mem_cons_of_mem _ (List.mem_append_left _ (List.mem_append_left _ (List.mem_of_getElem? (i := 20) rfl)))) (by decide +kernel)) gg_x_negation_relation
theorem gg_x_negation_take : GoodIn w_x_negation w_x_take := goodIn_sub (fun w h => (List.mem_cons.mp h).elim (fun e => (List.mem_cons_of_mem _ (List.mem_append_left _ (List.mem_append_right _ (List.mem_append_right _ (List.mem_append_right _ (List.mem_append_left _ (List.mem_cons.mpr (Or.inl e))))))))) (fun h => (List.mem_append.mp h).elim (fun h => (List.mem_cons_of_mem _ (List.mem_append_left _ (List.mem_append_right _ (List.mem_append_right _ (List.mem_append_right _ (List.mem_append_left _ (List.mem_cons_of_mem _ h)))))))) (fun h => List.mem_cons_of_mem _ (List.mem_append_right _ h)))) w_x_take_good
theorem g_x_negation_take_71 : GoodIn w_x_negation (wsV RX12 71 RX12 yX12_take w_x_take) := goodIn_app (nb_g4 (List.mem_cons_of_mem _ (List.mem_append_left _ (List.mem_append_left _ (List.mem_of_getElem? (i := 25) rfl)))) (List.mem_cons_of_mem _ (List.mem_append_left _ (List.mem_append_left _ (List.mem_of_getElem? (i := 26) rfl)))) (List.mem_cons_of_mem _ (List.mem_append_left _ (List.mem_append_left _ (List.mem_of_getElem? (i := 27) rfl)))) (List.mem_cons_of_mem _ (List.mem_append_left _ (List.mem_append_left _ (List.mem_of_getElem? (i := 20) rfl)))) (by decide +kernel)) gg_x_negation_take
set_option maxHeartbeats 40000000 in
set_option maxRecDepth 100000 in
theorem c_s_negation (l : Launch) (dC : Nat → ClassId) (dI : Nat → Nat → Nat) (cy : Nat → ClassId) (a : Nat → Nat) (k0 : Nat) (IH : ∀ j : Nat, j < k0 → P_GE l dC dI cy a j) (d : Nat) (L0 : Nat → Int32) (σ0 : MS) (r0 : Int32 × MS) (h0 : x_GE k0 d 7 0 L0 σ0 = some r0) (sz : Nat) : Met l yX12_negation w_x_negation ({ frames := 5 + d, cells := 0, slots := 0, locals := 113 + 31 * d }) (va_Pc [.ref (a 0)] (nIn (dC, dI) cy sz (vM cy a σ0))) (va_Qi (fun (z : Int32) (_ : Unit) => z = r0.1) (fun _ t => nOut (dC, dI) cy (va_A (vM cy a σ0) sz) (vM cy a r0.2) t) (va_A (vM cy a σ0) sz)) 0 0 (va_A (vM cy a σ0) sz) := by
  refine Met.ofW (cc := cX12_negation) (maxL := 2) (ret := (some .int)) (by decide) rfl ?_
  intro p e s m args below meth c s₁ B hml hv
  obtain ⟨rfl, hsz, hP, hK, hD0, hG⟩ := hv
  have hx := B.exec
  have hb := B.bytes
  have hr := B.returns
  have hts := atoms_spec (ws := w_x_negation) B.pre
  have hown : s.vm.findClass RX12 = some m.cls := findClass_of_methodNamed B.named
  have hlocks := B.notSynchronized
  subst hsz
  have hD := hD0.self (sz := s.heap.size)
  generalize hAe : va_A (vM cy a σ0) s.heap.size = A at hD ⊢
  have hA : ∀ q : Nat, s.heap.size ≤ q → A q := fun q h => by rw [← hAe]; exact Or.inr h
  have hS : va_S A s.heap s.heap [] := va_S.rf
  have hl := lv_entry ([.ref (a 0)]) (n := 2) (Nat.le_of_ble_eq_true rfl)
  rw [lg_entry_eq]
  generalize (lg_sl ([.ref (a 0)]) ++ List.replicate (2 - (lg_sl ([.ref (a 0)])).length) Slot.unset).toArray = ls at hl ⊢
  have hl : lv_has ls 2 [(0, .ref (a 0))] := hl
  have blk : ∀ k : Nat, k ≤ k0 → (bT p l e (headSpec w_x_negation ({ frames := 5 + d, cells := 0, slots := 0, locals := 113 + 31 * d })).room s m #[.ref (a 0)] below meth c dC dI cy a A (qI dC dI cy a A below #[.ref (a 0)] s) 2 (x_GE k d 7 0) (fun L => [(0, .ref (a 0))]) 0 (fun L => [])) ∧ (bT p l e (headSpec w_x_negation ({ frames := 5 + d, cells := 0, slots := 0, locals := 113 + 31 * d })).room s m #[.ref (a 0)] below meth c dC dI cy a A (qI dC dI cy a A below #[.ref (a 0)] s) 2 (x_GE k d 7 1) (fun L => [(0, .ref (a 0))]) 16 (fun L => [])) ∧ (bT p l e (headSpec w_x_negation ({ frames := 5 + d, cells := 0, slots := 0, locals := 113 + 31 * d })).room s m #[.ref (a 0)] below meth c dC dI cy a A (qI dC dI cy a A below #[.ref (a 0)] s) 2 (x_GE k d 7 2) (fun L => [(0, .ref (a 0))]) 21 (fun L => [])) ∧ (bT p l e (headSpec w_x_negation ({ frames := 5 + d, cells := 0, slots := 0, locals := 113 + 31 * d })).room s m #[.ref (a 0)] below meth c dC dI cy a A (qI dC dI cy a A below #[.ref (a 0)] s) 2 (x_GE k d 7 3) (fun L => [(0, .ref (a 0))]) 36 (fun L => [])) ∧ (bT p l e (headSpec w_x_negation ({ frames := 5 + d, cells := 0, slots := 0, locals := 113 + 31 * d })).room s m #[.ref (a 0)] below meth c dC dI cy a A (qI dC dI cy a A below #[.ref (a 0)] s) 2 (x_GE k d 7 4) (fun L => [(0, .ref (a 0)), (1, .int (L 1))]) 51 (fun L => [])) := by
    intro k
    induction k with
    | zero => exact fun _ => ⟨fun L σ r h => (by cases h), fun L σ r h => (by cases h), fun L σ r h => (by cases h), fun L σ r h => (by cases h), fun L σ r h => (by cases h)⟩
    | succ k ih =>
      intro hk
      replace ih := ih (by omega)
      refine ⟨?_, ?_, ?_, ?_, ?_⟩
      · intro L σ r h H locs ls hP hD hS hl
        rw [x_GE_7, s_negation_0] at h
        refine lv_aload_n hx hb dX12_negation_0 rfl (lv_at hl 0 rfl) ?_
        refine ng_10 hx hb hts in_x_negation hown hK hP (hts _ (List.mem_cons_of_mem _ (List.mem_append_left _ (List.mem_append_left _ (List.mem_of_getElem? (i := 24) rfl))))) dX12_negation_1 ?_
        refine lv_if_ne (tgt := 16) hx hb dX12_negation_4 (by decide) (fun c1 => ?_) (fun c1 => ?_)
        · rw [if_neg c1] at h
          exact ih.2.1 L σ r h H locs ls hP hD hS (lv_sub hl [0] rfl)
        · rw [if_pos c1] at h
          refine lv_aload_n hx hb dX12_negation_7 rfl (lv_at hl 0 rfl) ?_
          refine lv_bipush (v := 34) hx hb dX12_negation_8 (by decide) ?_
          obtain ⟨r2, hc2, h⟩ := ob_ex h
          refine nc_Vi (As := [.int 34]) (rest := []) ⟨hx, hb, hml, hown, hts⟩ (c_x_isWord l dC dI cy a k (upd (fun _ => 0) 1 34) σ r2 hc2 H.size) (cwV 1 hts g_x_negation_isWord_74 rfl rfl rfl hd_x_isWord (by show 0 + 1 ≤ 5 + d ∧ 8 + (2 + 11) + 0 ≤ 113 + 31 * d; omega)) hK hG hA hP hD hS rfl hl.1 rfl (Nat.le_of_ble_eq_true rfl) dX12_negation_10 ⟨Nat.le_refl _, Nat.le_refl _⟩ (fun H locs hP hD hS => ?_)
          refine lv_if_ne (tgt := 21) hx hb dX12_negation_13 (by decide) (fun c3 => ?_) (fun c3 => ?_)
          · rw [if_neg c3] at h
            exact ih.2.2.1 L r2.2 r h H locs ls hP hD hS (lv_sub hl [0] rfl)
          · rw [if_pos c3] at h
            exact ih.2.1 L r2.2 r h H locs ls hP hD hS (lv_sub hl [0] rfl)
      · intro L σ r h H locs ls hP hD hS hl
        rw [x_GE_7, s_negation_1] at h
        refine lv_aload_n hx hb dX12_negation_16 rfl (lv_at hl 0 rfl) ?_
        obtain ⟨e1, he1, h⟩ := od_ex h
        obtain ⟨r1, hc1, h⟩ := ob_ex h
        refine nc_Vi (As := []) (rest := []) ⟨hx, hb, hml, hown, hts⟩ ((IH k (by omega)).2.2.2.2.2.2.2.2.2.2.2.2.2.1 e1 (fun _ => 0) σ r1 hc1 H.size) (cwV 0 hts g_x_negation_relation_174 rfl rfl rfl hd_x_relation (by show (5 + e1) + 1 ≤ 5 + d ∧ 8 + (3 + 11) + (113 + 31 * e1) ≤ 113 + 31 * d; omega)) hK hG hA hP hD hS rfl hl.1 rfl (Nat.le_of_ble_eq_true rfl) dX12_negation_17 ⟨Nat.le_refl _, Nat.le_refl _⟩ (fun H locs hP hD hS => ?_)
        cases h
        exact W.iret (v := r1.1) hx hb hr (fun t ht hW => ⟨⟨r1.1, (), rfl, rfl, by rw [ht]; exact hP, va_K.moved hW.alike hK, hD⟩, hS.F ht⟩) hS.2.2 dX12_negation_20
      · intro L σ r h H locs ls hP hD hS hl
        rw [x_GE_7, s_negation_2] at h
        refine lv_aload_n hx hb dX12_negation_21 rfl (lv_at hl 0 rfl) ?_
        obtain ⟨r1, hc1, h⟩ := ob_ex h
        refine nc_Vv (As := []) (rest := []) ⟨hx, hb, hml, hown, hts⟩ (c_x_open l dC dI cy a k (fun _ => 0) σ r1 hc1 H.size) (cwV 0 hts g_x_negation_open_177 rfl rfl rfl hd_x_open (by show 1 + 1 ≤ 5 + d ∧ 8 + (1 + 11) + 22 ≤ 113 + 31 * d; omega)) hK hG hA hP hD hS rfl hl.1 rfl (Nat.le_of_ble_eq_true rfl) dX12_negation_22 ⟨Nat.le_refl _, Nat.le_refl _⟩ (fun H locs hP hD hS => ?_)
        refine lv_aload_n hx hb dX12_negation_25 rfl (lv_at hl 0 rfl) ?_
        refine ng_10 hx hb hts in_x_negation hown hK hP (hts _ (List.mem_cons_of_mem _ (List.mem_append_left _ (List.mem_append_left _ (List.mem_of_getElem? (i := 24) rfl))))) dX12_negation_26 ?_
        refine lv_if_ne (tgt := 36) hx hb dX12_negation_29 (by decide) (fun c2 => ?_) (fun c2 => ?_)
        · rw [if_neg c2] at h
          exact ih.2.2.2.1 L r1.2 r h H locs ls hP hD hS (lv_sub hl [0] rfl)
        · rw [if_pos c2] at h
          refine lv_aload_n hx hb dX12_negation_32 rfl (lv_at hl 0 rfl) ?_
          obtain ⟨r3, hc3, h⟩ := ob_ex h
          refine nc_Vv (As := []) (rest := []) ⟨hx, hb, hml, hown, hts⟩ (c_x_take l dC dI cy a k (fun _ => 0) r1.2 r3 hc3 H.size) (cwV 0 hts g_x_negation_take_71 rfl rfl rfl hd_x_take (by show 2 + 1 ≤ 5 + d ∧ 8 + (2 + 11) + 43 ≤ 113 + 31 * d; omega)) hK hG hA hP hD hS rfl hl.1 rfl (Nat.le_of_ble_eq_true rfl) dX12_negation_33 ⟨Nat.le_refl _, Nat.le_refl _⟩ (fun H locs hP hD hS => ?_)
          exact ih.2.2.2.1 L r3.2 r h H locs ls hP hD hS (lv_sub hl [0] rfl)
      · intro L σ r h H locs ls hP hD hS hl
        rw [x_GE_7, s_negation_3] at h
        refine lv_aload_n hx hb dX12_negation_36 rfl (lv_at hl 0 rfl) ?_
        obtain ⟨e1, he1, h⟩ := od_ex h
        obtain ⟨r1, hc1, h⟩ := ob_ex h
        refine nc_Vi (As := []) (rest := []) ⟨hx, hb, hml, hown, hts⟩ ((IH k (by omega)).2.2.2.2.2.2.2.1 e1 (fun _ => 0) σ r1 hc1 H.size) (cwV 0 hts g_x_negation_negation_171 rfl rfl rfl hd_x_negation (by show (5 + e1) + 1 ≤ 5 + d ∧ 8 + (2 + 11) + (113 + 31 * e1) ≤ 113 + 31 * d; omega)) hK hG hA hP hD hS rfl hl.1 rfl (Nat.le_of_ble_eq_true rfl) dX12_negation_37 ⟨Nat.le_refl _, Nat.le_refl _⟩ (fun H locs hP hD hS => ?_)
        refine lv_istore_n (lv' := [(1, .int r1.1), (0, .ref (a 0))]) hx hb dX12_negation_40 rfl hl (by decide) rfl (fun ls hl => ?_)
        refine lv_aload_n hx hb dX12_negation_41 rfl (lv_at hl 1 rfl) ?_
        refine lv_dup hx hb dX12_negation_42 rfl ?_
        refine ng_13 hx hb hts in_x_negation hown hK hP (hts _ (List.mem_cons_of_mem _ (List.mem_append_left _ (List.mem_append_left _ (List.mem_of_getElem? (i := 50) rfl))))) dX12_negation_43 ?_
        refine lv_iconst (v := 1) hx hb dX12_negation_46 (by decide) ?_
        refine lv_isub hx hb dX12_negation_47 ?_
        refine np_13 hx hb hts in_x_negation hown hK hP hD hS (hts _ (List.mem_cons_of_mem _ (List.mem_append_left _ (List.mem_append_left _ (List.mem_of_getElem? (i := 50) rfl))))) dX12_negation_48 (fun H locs hP hD hS => ?_)
        exact ih.2.2.2.2 (upd L 1 r1.1) (upd r1.2.1 13 ((((r1.2.1 13)) - 1)), r1.2.2.1, r1.2.2.2) r h H locs ls hP hD hS (lv_sub hl [1, 0] rfl)
      · intro L σ r h H locs ls hP hD hS hl
        rw [x_GE_7, s_negation_4] at h
        refine lv_aload_n hx hb dX12_negation_51 rfl (lv_at hl 0 rfl) ?_
        refine lv_bipush (v := 19) hx hb dX12_negation_52 (by decide) ?_
        refine lv_iconst (v := 0) hx hb dX12_negation_54 (by decide) ?_
        refine lv_iload_n hx hb dX12_negation_55 rfl (lv_at hl 1 rfl) ?_
        refine lv_iconst (v := 0) hx hb dX12_negation_56 (by decide) ?_
        obtain ⟨r1, hc1, h⟩ := ob_ex h
        refine nc_Vi (As := [.int 19, .int 0, .int (L 1), .int 0]) (rest := []) ⟨hx, hb, hml, hown, hts⟩ (c_x_node l dC dI cy a k (upd (upd (upd (upd (fun _ => 0) 1 19) 2 0) 3 ((L 1))) 4 0) σ r1 hc1 H.size) (cwV 4 hts g_x_negation_node_101 rfl rfl rfl hd_x_node (by show 0 + 1 ≤ 5 + d ∧ 8 + (6 + 11) + 0 ≤ 113 + 31 * d; omega)) hK hG hA hP hD hS rfl hl.1 rfl (Nat.le_of_ble_eq_true rfl) dX12_negation_57 ⟨Nat.le_refl _, Nat.le_refl _⟩ (fun H locs hP hD hS => ?_)
        cases h
        exact W.iret (v := r1.1) hx hb hr (fun t ht hW => ⟨⟨r1.1, (), rfl, rfl, by rw [ht]; exact hP, va_K.moved hW.alike hK, hD⟩, hS.F ht⟩) hS.2.2 dX12_negation_60
  exact (blk k0 (Nat.le_refl _)).1 L0 σ0 r0 h0 s.heap [] ls hP hD hS hl
theorem gg_x_parts_exp : GoodIn w_x_parts w_x_exp := goodIn_sub (fun w h => (List.mem_cons.mp h).elim (fun e => e ▸ (List.mem_cons_of_mem _ (List.mem_append_left _ (List.mem_append_left _ (List.mem_of_getElem? (i := 3) rfl))))) (fun h => List.mem_cons_of_mem _ h)) w_x_exp_good
theorem g_x_parts_exp_209 : GoodIn w_x_parts (wsV RX12 209 RX12 yX12_exp w_x_exp) := goodIn_app (nb_g4 (List.mem_cons_of_mem _ (List.mem_append_left _ (List.mem_append_left _ (List.mem_of_getElem? (i := 38) rfl)))) (List.mem_cons_of_mem _ (List.mem_append_left _ (List.mem_append_left _ (List.mem_of_getElem? (i := 39) rfl)))) (List.mem_cons_of_mem _ (List.mem_append_left _ (List.mem_append_left _ (List.mem_of_getElem? (i := 40) rfl)))) (List.mem_cons_of_mem _ (List.mem_append_left _ (List.mem_append_left _ (List.mem_of_getElem? (i := 20) rfl)))) (by decide +kernel)) gg_x_parts_exp
theorem gg_x_parts_isSign : GoodIn w_x_parts w_x_isSign := goodIn_sub (fun w h => (List.mem_cons.mp h).elim (fun e => (List.mem_cons_of_mem _ (List.mem_append_left _ (List.mem_append_right _ (List.mem_append_left _ (List.mem_cons.mpr (Or.inl e))))))) (fun h => (List.mem_append.mp h).elim (fun h => (List.mem_cons_of_mem _ (List.mem_append_left _ (List.mem_append_right _ (List.mem_append_left _ (List.mem_cons_of_mem _ h)))))) (fun h => List.mem_cons_of_mem _ (List.mem_append_right _ h)))) w_x_isSign_good
theorem g_x_parts_isSign_65 : GoodIn w_x_parts (wsV RX12 65 RX12 yX12_isSign w_x_isSign) := goodIn_app (nb_g4 (List.mem_cons_of_mem _ (List.mem_append_left _ (List.mem_append_left _ (List.mem_of_getElem? (i := 17) rfl)))) (List.mem_cons_of_mem _ (List.mem_append_left _ (List.mem_append_left _ (List.mem_of_getElem? (i := 18) rfl)))) (List.mem_cons_of_mem _ (List.mem_append_left _ (List.mem_append_left _ (List.mem_of_getElem? (i := 19) rfl)))) (List.mem_cons_of_mem _ (List.mem_append_left _ (List.mem_append_left _ (List.mem_of_getElem? (i := 20) rfl)))) (by decide +kernel)) gg_x_parts_isSign
theorem gg_x_parts_open : GoodIn w_x_parts w_x_open := goodIn_sub (fun w h => (List.mem_cons.mp h).elim (fun e => (List.mem_cons_of_mem _ (List.mem_append_left _ (List.mem_append_right _ (List.mem_append_right _ (List.mem_append_left _ (List.mem_cons.mpr (Or.inl e)))))))) (fun h => (List.mem_append.mp h).elim (fun h => (List.mem_cons_of_mem _ (List.mem_append_left _ (List.mem_append_right _ (List.mem_append_right _ (List.mem_append_left _ (List.mem_cons_of_mem _ h))))))) (fun h => List.mem_cons_of_mem _ (List.mem_append_right _ h)))) w_x_open_good
theorem g_x_parts_open_177 : GoodIn w_x_parts (wsV RX12 177 RX12 yX12_open w_x_open) := goodIn_app (nb_g4 (List.mem_cons_of_mem _ (List.mem_append_left _ (List.mem_append_left _ (List.mem_of_getElem? (i := 21) rfl)))) (List.mem_cons_of_mem _ (List.mem_append_left _ (List.mem_append_left _ (List.mem_of_getElem? (i := 22) rfl)))) (List.mem_cons_of_mem _ (List.mem_append_left _ (List.mem_append_left _ (List.mem_of_getElem? (i := 23) rfl)))) (List.mem_cons_of_mem _ (List.mem_append_left _ (List.mem_append_left _ (List.mem_of_getElem? (i := 20) rfl)))) (by decide +kernel)) gg_x_parts_open
theorem gg_x_parts_over : GoodIn w_x_parts w_x_over := goodIn_sub (fun w h => (List.mem_cons.mp h).elim (fun e => (List.mem_cons_of_mem _ (List.mem_append_left _ (List.mem_append_right _ (List.mem_append_right _ (List.mem_append_right _ (List.mem_append_right _ (List.mem_append_right _ (List.mem_append_right _ (List.mem_append_right _ (List.mem_append_right _ (List.mem_append_right _ (List.mem_append_left _ (List.mem_cons.mpr (Or.inl e))))))))))))))) (fun h => (List.mem_append.mp h).elim (fun h => (List.mem_cons_of_mem _ (List.mem_append_left _ (List.mem_append_right _ (List.mem_append_right _ (List.mem_append_right _ (List.mem_append_right _ (List.mem_append_right _ (List.mem_append_right _ (List.mem_append_right _ (List.mem_append_right _ (List.mem_append_right _ (List.mem_append_left _ (List.mem_cons_of_mem _ h)))))))))))))) (fun h => List.mem_cons_of_mem _ (List.mem_append_right _ h)))) w_x_over_good
theorem g_x_parts_over_168 : GoodIn w_x_parts (wsV RX12 168 RX12 yX12_over w_x_over) := goodIn_app (nb_g4 (List.mem_cons_of_mem _ (List.mem_append_left _ (List.mem_append_left _ (List.mem_of_getElem? (i := 58) rfl)))) (List.mem_cons_of_mem _ (List.mem_append_left _ (List.mem_append_left _ (List.mem_of_getElem? (i := 59) rfl)))) (List.mem_cons_of_mem _ (List.mem_append_left _ (List.mem_append_left _ (List.mem_of_getElem? (i := 60) rfl)))) (List.mem_cons_of_mem _ (List.mem_append_left _ (List.mem_append_left _ (List.mem_of_getElem? (i := 20) rfl)))) (by decide +kernel)) gg_x_parts_over
theorem gg_x_parts_take : GoodIn w_x_parts w_x_take := goodIn_sub (fun w h => (List.mem_cons.mp h).elim (fun e => (List.mem_cons_of_mem _ (List.mem_append_left _ (List.mem_append_right _ (List.mem_append_right _ (List.mem_append_right _ (List.mem_append_left _ (List.mem_cons.mpr (Or.inl e))))))))) (fun h => (List.mem_append.mp h).elim (fun h => (List.mem_cons_of_mem _ (List.mem_append_left _ (List.mem_append_right _ (List.mem_append_right _ (List.mem_append_right _ (List.mem_append_left _ (List.mem_cons_of_mem _ h)))))))) (fun h => List.mem_cons_of_mem _ (List.mem_append_right _ h)))) w_x_take_good
theorem g_x_parts_take_71 : GoodIn w_x_parts (wsV RX12 71 RX12 yX12_take w_x_take) := goodIn_app (nb_g4 (List.mem_cons_of_mem _ (List.mem_append_left _ (List.mem_append_left _ (List.mem_of_getElem? (i := 25) rfl)))) (List.mem_cons_of_mem _ (List.mem_append_left _ (List.mem_append_left _ (List.mem_of_getElem? (i := 26) rfl)))) (List.mem_cons_of_mem _ (List.mem_append_left _ (List.mem_append_left _ (List.mem_of_getElem? (i := 27) rfl)))) (List.mem_cons_of_mem _ (List.mem_append_left _ (List.mem_append_left _ (List.mem_of_getElem? (i := 20) rfl)))) (by decide +kernel)) gg_x_parts_take
theorem gg_x_parts_want : GoodIn w_x_parts w_x_want := goodIn_sub (fun w h => (List.mem_cons.mp h).elim (fun e => (List.mem_cons_of_mem _ (List.mem_append_left _ (List.mem_append_right _ (List.mem_append_right _ (List.mem_append_right _ (List.mem_append_right _ (List.mem_append_right _ (List.mem_append_right _ (List.mem_append_left _ (List.mem_cons.mpr (Or.inl e)))))))))))) (fun h => (List.mem_append.mp h).elim (fun h => (List.mem_cons_of_mem _ (List.mem_append_left _ (List.mem_append_right _ (List.mem_append_right _ (List.mem_append_right _ (List.mem_append_right _ (List.mem_append_right _ (List.mem_append_right _ (List.mem_append_left _ (List.mem_cons_of_mem _ h))))))))))) (fun h => List.mem_cons_of_mem _ (List.mem_append_right _ h)))) w_x_want_good
theorem g_x_parts_want_199 : GoodIn w_x_parts (wsV RX12 199 RX12 yX12_want w_x_want) := goodIn_app (nb_g4 (List.mem_cons_of_mem _ (List.mem_append_left _ (List.mem_append_left _ (List.mem_of_getElem? (i := 41) rfl)))) (List.mem_cons_of_mem _ (List.mem_append_left _ (List.mem_append_left _ (List.mem_of_getElem? (i := 42) rfl)))) (List.mem_cons_of_mem _ (List.mem_append_left _ (List.mem_append_left _ (List.mem_of_getElem? (i := 43) rfl)))) (List.mem_cons_of_mem _ (List.mem_append_left _ (List.mem_append_left _ (List.mem_of_getElem? (i := 20) rfl)))) (by decide +kernel)) gg_x_parts_want
set_option maxHeartbeats 40000000 in
set_option maxRecDepth 100000 in
theorem c_s_parts (l : Launch) (dC : Nat → ClassId) (dI : Nat → Nat → Nat) (cy : Nat → ClassId) (a : Nat → Nat) (k0 : Nat) (IH : ∀ j : Nat, j < k0 → P_GE l dC dI cy a j) (d : Nat) (L0 : Nat → Int32) (σ0 : MS) (r0 : Int32 × MS) (h0 : x_GE k0 d 8 0 L0 σ0 = some r0) (sz : Nat) : Met l yX12_parts w_x_parts ({ frames := 5 + d, cells := 0, slots := 0, locals := 113 + 31 * d }) (va_Pc [.ref (a 0), .int (L0 1)] (nIn (dC, dI) cy sz (vM cy a σ0))) (va_Qi (fun (z : Int32) (_ : Unit) => z = r0.1) (fun _ t => nOut (dC, dI) cy (va_A (vM cy a σ0) sz) (vM cy a r0.2) t) (va_A (vM cy a σ0) sz)) 0 0 (va_A (vM cy a σ0) sz) := by
  refine Met.ofW (cc := cX12_parts) (maxL := 6) (ret := (some .int)) (by decide) rfl ?_
  intro p e s m args below meth c s₁ B hml hv
  obtain ⟨rfl, hsz, hP, hK, hD0, hG⟩ := hv
  have hx := B.exec
  have hb := B.bytes
  have hr := B.returns
  have hts := atoms_spec (ws := w_x_parts) B.pre
  have hown : s.vm.findClass RX12 = some m.cls := findClass_of_methodNamed B.named
  have hlocks := B.notSynchronized
  subst hsz
  have hD := hD0.self (sz := s.heap.size)
  generalize hAe : va_A (vM cy a σ0) s.heap.size = A at hD ⊢
  have hA : ∀ q : Nat, s.heap.size ≤ q → A q := fun q h => by rw [← hAe]; exact Or.inr h
  have hS : va_S A s.heap s.heap [] := va_S.rf
  have hl := lv_entry ([.ref (a 0), .int (L0 1)]) (n := 6) (Nat.le_of_ble_eq_true rfl)
  rw [lg_entry_eq]
  generalize (lg_sl ([.ref (a 0), .int (L0 1)]) ++ List.replicate (6 - (lg_sl ([.ref (a 0), .int (L0 1)])).length) Slot.unset).toArray = ls at hl ⊢
  have hl : lv_has ls 6 [(0, .ref (a 0)), (1, .int (L0 1))] := hl
  have blk : ∀ k : Nat, k ≤ k0 → (bT p l e (headSpec w_x_parts ({ frames := 5 + d, cells := 0, slots := 0, locals := 113 + 31 * d })).room s m #[.ref (a 0), .int (L0 1)] below meth c dC dI cy a A (qI dC dI cy a A below #[.ref (a 0), .int (L0 1)] s) 6 (x_GE k d 8 0) (fun L => [(0, .ref (a 0)), (1, .int (L 1))]) 0 (fun L => [])) ∧ (bT p l e (headSpec w_x_parts ({ frames := 5 + d, cells := 0, slots := 0, locals := 113 + 31 * d })).room s m #[.ref (a 0), .int (L0 1)] below meth c dC dI cy a A (qI dC dI cy a A below #[.ref (a 0), .int (L0 1)] s) 6 (x_GE k d 8 1) (fun L => [(0, .ref (a 0)), (1, .int (L 1)), (2, .int (L 2))]) 2 (fun L => [])) ∧ (bT p l e (headSpec w_x_parts ({ frames := 5 + d, cells := 0, slots := 0, locals := 113 + 31 * d })).room s m #[.ref (a 0), .int (L0 1)] below meth c dC dI cy a A (qI dC dI cy a A below #[.ref (a 0), .int (L0 1)] s) 6 (x_GE k d 8 2) (fun L => [(0, .ref (a 0)), (1, .int (L 1)), (2, .int (L 2))]) 27 (fun L => [])) ∧ (bT p l e (headSpec w_x_parts ({ frames := 5 + d, cells := 0, slots := 0, locals := 113 + 31 * d })).room s m #[.ref (a 0), .int (L0 1)] below meth c dC dI cy a A (qI dC dI cy a A below #[.ref (a 0), .int (L0 1)] s) 6 (x_GE k d 8 3) (fun L => [(0, .ref (a 0)), (1, .int (L 1)), (2, .int (L 2)), (3, .int (L 3))]) 49 (fun L => [])) ∧ (bT p l e (headSpec w_x_parts ({ frames := 5 + d, cells := 0, slots := 0, locals := 113 + 31 * d })).room s m #[.ref (a 0), .int (L0 1)] below meth c dC dI cy a A (qI dC dI cy a A below #[.ref (a 0), .int (L0 1)] s) 6 (x_GE k d 8 4) (fun L => [(0, .ref (a 0)), (1, .int (L 1)), (2, .int (L 2)), (3, .int (L 3)), (4, .int (L 4))]) 107 (fun L => [])) ∧ (bT p l e (headSpec w_x_parts ({ frames := 5 + d, cells := 0, slots := 0, locals := 113 + 31 * d })).room s m #[.ref (a 0), .int (L0 1)] below meth c dC dI cy a A (qI dC dI cy a A below #[.ref (a 0), .int (L0 1)] s) 6 (x_GE k d 8 5) (fun L => [(0, .ref (a 0)), (1, .int (L 1)), (2, .int (L 2)), (3, .int (L 3)), (4, .int (L 4))]) 117 (fun L => [.ref (a 0)])) ∧ (bT p l e (headSpec w_x_parts ({ frames := 5 + d, cells := 0, slots := 0, locals := 113 + 31 * d })).room s m #[.ref (a 0), .int (L0 1)] below meth c dC dI cy a A (qI dC dI cy a A below #[.ref (a 0), .int (L0 1)] s) 6 (x_GE k d 8 6) (fun L => [(0, .ref (a 0)), (1, .int (L 1)), (2, .int (L 2)), (3, .int (L 3)), (4, .int (L 4))]) 119 (fun L => [.int (L 100), .ref (a 0)])) ∧ (bT p l e (headSpec w_x_parts ({ frames := 5 + d, cells := 0, slots := 0, locals := 113 + 31 * d })).room s m #[.ref (a 0), .int (L0 1)] below meth c dC dI cy a A (qI dC dI cy a A below #[.ref (a 0), .int (L0 1)] s) 6 (x_GE k d 8 7) (fun L => [(0, .ref (a 0)), (1, .int (L 1)), (2, .int (L 2)), (3, .int (L 3)), (4, .int (L 4))]) 127 (fun L => [])) ∧ (bT p l e (headSpec w_x_parts ({ frames := 5 + d, cells := 0, slots := 0, locals := 113 + 31 * d })).room s m #[.ref (a 0), .int (L0 1)] below meth c dC dI cy a A (qI dC dI cy a A below #[.ref (a 0), .int (L0 1)] s) 6 (x_GE k d 8 8) (fun L => [(0, .ref (a 0)), (1, .int (L 1)), (2, .int (L 2)), (3, .int (L 3)), (4, .int (L 4))]) 137 (fun L => [.ref (a 0)])) ∧ (bT p l e (headSpec w_x_parts ({ frames := 5 + d, cells := 0, slots := 0, locals := 113 + 31 * d })).room s m #[.ref (a 0), .int (L0 1)] below meth c dC dI cy a A (qI dC dI cy a A below #[.ref (a 0), .int (L0 1)] s) 6 (x_GE k d 8 9) (fun L => [(0, .ref (a 0)), (1, .int (L 1)), (2, .int (L 2)), (3, .int (L 3)), (4, .int (L 4))]) 139 (fun L => [.int (L 100), .ref (a 0)])) ∧ (bT p l e (headSpec w_x_parts ({ frames := 5 + d, cells := 0, slots := 0, locals := 113 + 31 * d })).room s m #[.ref (a 0), .int (L0 1)] below meth c dC dI cy a A (qI dC dI cy a A below #[.ref (a 0), .int (L0 1)] s) 6 (x_GE k d 8 10) (fun L => [(0, .ref (a 0)), (1, .int (L 1)), (2, .int (L 2))]) 155 (fun L => [])) := by
    intro k
    induction k with
    | zero => exact fun _ => ⟨fun L σ r h => (by cases h), fun L σ r h => (by cases h), fun L σ r h => (by cases h), fun L σ r h => (by cases h), fun L σ r h => (by cases h), fun L σ r h => (by cases h), fun L σ r h => (by cases h), fun L σ r h => (by cases h), fun L σ r h => (by cases h), fun L σ r h => (by cases h), fun L σ r h => (by cases h)⟩
    | succ k ih =>
      intro hk
      replace ih := ih (by omega)
      refine ⟨?_, ?_, ?_, ?_, ?_, ?_, ?_, ?_, ?_, ?_, ?_⟩
      · intro L σ r h H locs ls hP hD hS hl
        rw [x_GE_8, s_parts_0] at h
        refine lv_iload_n hx hb dX12_parts_0 rfl (lv_at hl 1 rfl) ?_
        refine lv_istore_n (lv' := [(2, .int (L 1)), (0, .ref (a 0)), (1, .int (L 1))]) hx hb dX12_parts_1 rfl hl (by decide) rfl (fun ls hl => ?_)
        exact ih.2.1 (upd L 2 ((L 1))) σ r h H locs ls hP hD hS (lv_sub hl [1, 2, 0] rfl)
      · intro L σ r h H locs ls hP hD hS hl
        rw [x_GE_8, s_parts_1] at h
        refine lv_aload_n hx hb dX12_parts_2 rfl (lv_at hl 0 rfl) ?_
        refine ng_10 hx hb hts in_x_parts hown hK hP (hts _ (List.mem_cons_of_mem _ (List.mem_append_left _ (List.mem_append_left _ (List.mem_of_getElem? (i := 24) rfl))))) dX12_parts_3 ?_
        refine lv_if_ne (tgt := 155) hx hb dX12_parts_6 (by decide) (fun c1 => ?_) (fun c1 => ?_)
        · rw [if_neg c1] at h
          exact ih.2.2.2.2.2.2.2.2.2.2 L σ r h H locs ls hP hD hS (lv_sub hl [0, 1, 2] rfl)
        · rw [if_pos c1] at h
          refine lv_aload_n hx hb dX12_parts_9 rfl (lv_at hl 0 rfl) ?_
          refine lv_bipush (v := 6) hx hb dX12_parts_10 (by decide) ?_
          obtain ⟨r2, hc2, h⟩ := ob_ex h
          refine nc_Vi (As := [.int 6]) (rest := []) ⟨hx, hb, hml, hown, hts⟩ (c_x_isSign l dC dI cy a k (upd (fun _ => 0) 1 6) σ r2 hc2 H.size) (cwV 1 hts g_x_parts_isSign_65 rfl rfl rfl hd_x_isSign (by show 0 + 1 ≤ 5 + d ∧ 8 + (2 + 11) + 0 ≤ 113 + 31 * d; omega)) hK hG hA hP hD hS rfl hl.1 rfl (Nat.le_of_ble_eq_true rfl) dX12_parts_12 ⟨Nat.le_refl _, Nat.le_refl _⟩ (fun H locs hP hD hS => ?_)
          refine lv_if_ne (tgt := 27) hx hb dX12_parts_15 (by decide) (fun c3 => ?_) (fun c3 => ?_)
          · rw [if_neg c3] at h
            exact ih.2.2.1 L r2.2 r h H locs ls hP hD hS (lv_sub hl [0, 1, 2] rfl)
          · rw [if_pos c3] at h
            refine lv_aload_n hx hb dX12_parts_18 rfl (lv_at hl 0 rfl) ?_
            refine lv_bipush (v := 8) hx hb dX12_parts_19 (by decide) ?_
            obtain ⟨r4, hc4, h⟩ := ob_ex h
            refine nc_Vi (As := [.int 8]) (rest := []) ⟨hx, hb, hml, hown, hts⟩ (c_x_isSign l dC dI cy a k (upd (fun _ => 0) 1 8) r2.2 r4 hc4 H.size) (cwV 1 hts g_x_parts_isSign_65 rfl rfl rfl hd_x_isSign (by show 0 + 1 ≤ 5 + d ∧ 8 + (2 + 11) + 0 ≤ 113 + 31 * d; omega)) hK hG hA hP hD hS rfl hl.1 rfl (Nat.le_of_ble_eq_true rfl) dX12_parts_21 ⟨Nat.le_refl _, Nat.le_refl _⟩ (fun H locs hP hD hS => ?_)
            refine lv_if_eq (tgt := 155) hx hb dX12_parts_24 (by decide) (fun c5 => ?_) (fun c5 => ?_)
            · rw [if_pos c5] at h
              exact ih.2.2.2.2.2.2.2.2.2.2 L r4.2 r h H locs ls hP hD hS (lv_sub hl [0, 1, 2] rfl)
            · rw [if_neg c5] at h
              exact ih.2.2.1 L r4.2 r h H locs ls hP hD hS (lv_sub hl [0, 1, 2] rfl)
      · intro L σ r h H locs ls hP hD hS hl
        rw [x_GE_8, s_parts_2] at h
        refine lv_aload_n hx hb dX12_parts_27 rfl (lv_at hl 0 rfl) ?_
        refine lv_bipush (v := 8) hx hb dX12_parts_28 (by decide) ?_
        obtain ⟨r1, hc1, h⟩ := ob_ex h
        refine nc_Vi (As := [.int 8]) (rest := []) ⟨hx, hb, hml, hown, hts⟩ (c_x_isSign l dC dI cy a k (upd (fun _ => 0) 1 8) σ r1 hc1 H.size) (cwV 1 hts g_x_parts_isSign_65 rfl rfl rfl hd_x_isSign (by show 0 + 1 ≤ 5 + d ∧ 8 + (2 + 11) + 0 ≤ 113 + 31 * d; omega)) hK hG hA hP hD hS rfl hl.1 rfl (Nat.le_of_ble_eq_true rfl) dX12_parts_30 ⟨Nat.le_refl _, Nat.le_refl _⟩ (fun H locs hP hD hS => ?_)
        refine lv_istore_n (lv' := [(3, .int r1.1), (0, .ref (a 0)), (1, .int (L 1)), (2, .int (L 2))]) hx hb dX12_parts_33 rfl hl (by decide) rfl (fun ls hl => ?_)
        refine lv_aload_n hx hb dX12_parts_34 rfl (lv_at hl 1 rfl) ?_
        obtain ⟨r2, hc2, h⟩ := ob_ex h
        refine nc_Vv (As := []) (rest := []) ⟨hx, hb, hml, hown, hts⟩ (c_x_open l dC dI cy a k (fun _ => 0) r1.2 r2 hc2 H.size) (cwV 0 hts g_x_parts_open_177 rfl rfl rfl hd_x_open (by show 1 + 1 ≤ 5 + d ∧ 8 + (1 + 11) + 22 ≤ 113 + 31 * d; omega)) hK hG hA hP hD hS rfl hl.1 rfl (Nat.le_of_ble_eq_true rfl) dX12_parts_35 ⟨Nat.le_refl _, Nat.le_refl _⟩ (fun H locs hP hD hS => ?_)
        refine lv_aload_n hx hb dX12_parts_38 rfl (lv_at hl 1 rfl) ?_
        refine ng_10 hx hb hts in_x_parts hown hK hP (hts _ (List.mem_cons_of_mem _ (List.mem_append_left _ (List.mem_append_left _ (List.mem_of_getElem? (i := 24) rfl))))) dX12_parts_39 ?_
        refine lv_if_ne (tgt := 49) hx hb dX12_parts_42 (by decide) (fun c3 => ?_) (fun c3 => ?_)
        · rw [if_neg c3] at h
          exact ih.2.2.2.1 (upd L 3 r1.1) r2.2 r h H locs ls hP hD hS (lv_sub hl [1, 2, 3, 0] rfl)
        · rw [if_pos c3] at h
          refine lv_aload_n hx hb dX12_parts_45 rfl (lv_at hl 1 rfl) ?_
          obtain ⟨r4, hc4, h⟩ := ob_ex h
          refine nc_Vv (As := []) (rest := []) ⟨hx, hb, hml, hown, hts⟩ (c_x_take l dC dI cy a k (fun _ => 0) r2.2 r4 hc4 H.size) (cwV 0 hts g_x_parts_take_71 rfl rfl rfl hd_x_take (by show 2 + 1 ≤ 5 + d ∧ 8 + (2 + 11) + 43 ≤ 113 + 31 * d; omega)) hK hG hA hP hD hS rfl hl.1 rfl (Nat.le_of_ble_eq_true rfl) dX12_parts_46 ⟨Nat.le_refl _, Nat.le_refl _⟩ (fun H locs hP hD hS => ?_)
          exact ih.2.2.2.1 (upd L 3 r1.1) r4.2 r h H locs ls hP hD hS (lv_sub hl [1, 2, 3, 0] rfl)
      · intro L σ r h H locs ls hP hD hS hl
        rw [x_GE_8, s_parts_3] at h
        refine lv_aload_n hx hb dX12_parts_49 rfl (lv_at hl 0 rfl) ?_
        obtain ⟨e1, he1, h⟩ := od_ex h
        obtain ⟨r1, hc1, h⟩ := ob_ex h
        refine nc_Vi (As := []) (rest := []) ⟨hx, hb, hml, hown, hts⟩ ((IH k (by omega)).2.2.2.1 e1 (fun _ => 0) σ r1 hc1 H.size) (cwV 0 hts g_x_parts_exp_209 rfl rfl rfl hd_x_exp (by show (5 + e1) + 1 ≤ 5 + d ∧ 8 + (2 + 11) + (113 + 31 * e1) ≤ 113 + 31 * d; omega)) hK hG hA hP hD hS rfl hl.1 rfl (Nat.le_of_ble_eq_true rfl) dX12_parts_50 ⟨Nat.le_refl _, Nat.le_refl _⟩ (fun H locs hP hD hS => ?_)
        refine lv_istore (lv' := [(4, .int r1.1), (0, .ref (a 0)), (1, .int (L 1)), (2, .int (L 2)), (3, .int (L 3))]) hx hb dX12_parts_53 hl (by decide) rfl (fun ls hl => ?_)
        refine lv_aload_n hx hb dX12_parts_55 rfl (lv_at hl 1 rfl) ?_
        refine ng_10 hx hb hts in_x_parts hown hK hP (hts _ (List.mem_cons_of_mem _ (List.mem_append_left _ (List.mem_append_left _ (List.mem_of_getElem? (i := 24) rfl))))) dX12_parts_56 ?_
        refine lv_if_ne (tgt := 107) hx hb dX12_parts_59 (by decide) (fun c2 => ?_) (fun c2 => ?_)
        · rw [if_neg c2] at h
          exact ih.2.2.2.2.1 (upd L 4 r1.1) r1.2 r h H locs ls hP hD hS (lv_sub hl [1, 2, 3, 4, 0] rfl)
        · rw [if_pos c2] at h
          refine lv_iload_n hx hb dX12_parts_62 rfl (lv_at hl 4 rfl) ?_
          refine lv_if_ne (tgt := 107) hx hb dX12_parts_63 (by decide) (fun c3 => ?_) (fun c3 => ?_)
          · rw [if_neg c3] at h
            exact ih.2.2.2.2.1 (upd L 4 r1.1) r1.2 r h H locs ls hP hD hS (lv_sub hl [1, 2, 3, 4, 0] rfl)
          · rw [if_pos c3] at h
            refine lv_aload_n hx hb dX12_parts_66 rfl (lv_at hl 1 rfl) ?_
            refine lv_bipush (v := 16) hx hb dX12_parts_67 (by decide) ?_
            obtain ⟨r4, hc4, h⟩ := ob_ex h
            refine nc_Vi (As := [.int 16]) (rest := []) ⟨hx, hb, hml, hown, hts⟩ (c_x_isSign l dC dI cy a k (upd (fun _ => 0) 1 16) r1.2 r4 hc4 H.size) (cwV 1 hts g_x_parts_isSign_65 rfl rfl rfl hd_x_isSign (by show 0 + 1 ≤ 5 + d ∧ 8 + (2 + 11) + 0 ≤ 113 + 31 * d; omega)) hK hG hA hP hD hS rfl hl.1 rfl (Nat.le_of_ble_eq_true rfl) dX12_parts_69 ⟨Nat.le_refl _, Nat.le_refl _⟩ (fun H locs hP hD hS => ?_)
            refine lv_if_eq (tgt := 107) hx hb dX12_parts_72 (by decide) (fun c5 => ?_) (fun c5 => ?_)
            · rw [if_pos c5] at h
              exact ih.2.2.2.2.1 (upd L 4 r1.1) r4.2 r h H locs ls hP hD hS (lv_sub hl [1, 2, 3, 4, 0] rfl)
            · rw [if_neg c5] at h
              refine lv_aload_n hx hb dX12_parts_75 rfl (lv_at hl 1 rfl) ?_
              obtain ⟨r6, hc6, h⟩ := ob_ex h
              refine nc_Vv (As := []) (rest := []) ⟨hx, hb, hml, hown, hts⟩ (c_x_take l dC dI cy a k (fun _ => 0) r4.2 r6 hc6 H.size) (cwV 0 hts g_x_parts_take_71 rfl rfl rfl hd_x_take (by show 2 + 1 ≤ 5 + d ∧ 8 + (2 + 11) + 43 ≤ 113 + 31 * d; omega)) hK hG hA hP hD hS rfl hl.1 rfl (Nat.le_of_ble_eq_true rfl) dX12_parts_76 ⟨Nat.le_refl _, Nat.le_refl _⟩ (fun H locs hP hD hS => ?_)
              refine lv_aload_n hx hb dX12_parts_79 rfl (lv_at hl 1 rfl) ?_
              obtain ⟨e7, he7, h⟩ := od_ex h
              obtain ⟨r7, hc7, h⟩ := ob_ex h
              refine nc_Vi (As := []) (rest := []) ⟨hx, hb, hml, hown, hts⟩ ((IH k (by omega)).2.2.2.1 e7 (fun _ => 0) r6.2 r7 hc7 H.size) (cwV 0 hts g_x_parts_exp_209 rfl rfl rfl hd_x_exp (by show (5 + e7) + 1 ≤ 5 + d ∧ 8 + (2 + 11) + (113 + 31 * e7) ≤ 113 + 31 * d; omega)) hK hG hA hP hD hS rfl hl.1 rfl (Nat.le_of_ble_eq_true rfl) dX12_parts_80 ⟨Nat.le_refl _, Nat.le_refl _⟩ (fun H locs hP hD hS => ?_)
              refine lv_istore (lv' := [(5, .int r7.1), (4, .int r1.1), (0, .ref (a 0)), (1, .int (L 1)), (2, .int (L 2)), (3, .int (L 3))]) hx hb dX12_parts_83 hl (by decide) rfl (fun ls hl => ?_)
              refine lv_aload_n hx hb dX12_parts_85 rfl (lv_at hl 2 rfl) ?_
              refine lv_bipush (v := 22) hx hb dX12_parts_86 (by decide) ?_
              refine lv_iconst (v := 0) hx hb dX12_parts_88 (by decide) ?_
              refine lv_iload_n hx hb dX12_parts_89 rfl (lv_at hl 4 rfl) ?_
              refine lv_iload hx hb dX12_parts_90 (lv_at hl 1 rfl) ?_
              obtain ⟨r8, hc8, h⟩ := ob_ex h
              refine nc_Vi (As := [.int 22, .int 0, .int (L 2), .int r1.1]) (rest := []) ⟨hx, hb, hml, hown, hts⟩ (c_x_over l dC dI cy a k (upd (upd (upd (upd (fun _ => 0) 1 22) 2 0) 3 ((L 2))) 4 r1.1) r7.2 r8 hc8 H.size) (cwV 4 hts g_x_parts_over_168 rfl rfl rfl hd_x_over (by show 1 + 1 ≤ 5 + d ∧ 8 + (6 + 11) + 25 ≤ 113 + 31 * d; omega)) hK hG hA hP hD hS rfl hl.1 rfl (Nat.le_of_ble_eq_true rfl) dX12_parts_92 ⟨Nat.le_refl _, Nat.le_refl _⟩ (fun H locs hP hD hS => ?_)
              refine lv_istore_n (lv' := [(2, .int r8.1), (5, .int r7.1), (4, .int r1.1), (0, .ref (a 0)), (1, .int (L 1)), (3, .int (L 3))]) hx hb dX12_parts_95 rfl hl (by decide) rfl (fun ls hl => ?_)
              refine lv_aload_n hx hb dX12_parts_96 rfl (lv_at hl 3 rfl) ?_
              refine ng_18 hx hb hts in_x_parts hown hK hP (hts _ (List.mem_cons_of_mem _ (List.mem_append_left _ (List.mem_append_left _ (List.mem_of_getElem? (i := 97) rfl))))) dX12_parts_97 ?_
              refine lv_iload_n hx hb dX12_parts_100 rfl (lv_at hl 0 rfl) ?_
              refine lv_iload hx hb dX12_parts_101 (lv_at hl 1 rfl) ?_
              obtain ⟨q9, h⟩ := nb_ite1 h
              refine ns_8 hx hb hK hP hD hS q9 dX12_parts_103 (fun H locs hP hD hS => ?_)
              refine lv_goto (tgt := 127) hx hb dX12_parts_104 (by decide) ?_
              exact ih.2.2.2.2.2.2.2.1 (upd (upd (upd L 4 r1.1) 5 r7.1) 2 r8.1) (r8.2.1, r8.2.2.1, updG r8.2.2.2 8 (upd (r8.2.2.2 8) r8.1.toNatClampNeg r7.1)) r h H locs ls hP hD hS (lv_sub hl [3, 4, 0, 5, 2] rfl)
      · intro L σ r h H locs ls hP hD hS hl
        rw [x_GE_8, s_parts_4] at h
        refine lv_aload_n hx hb dX12_parts_107 rfl (lv_at hl 0 rfl) ?_
        refine lv_iload_n hx hb dX12_parts_108 rfl (lv_at hl 3 rfl) ?_
        refine lv_if_eq (tgt := 117) hx hb dX12_parts_109 (by decide) (fun c1 => ?_) (fun c1 => ?_)
        · rw [if_pos c1] at h
          exact ih.2.2.2.2.2.1 L σ r h H locs ls hP hD hS (lv_sub hl [0, 1, 2, 3, 4] rfl)
        · rw [if_neg c1] at h
          refine lv_bipush (v := 23) hx hb dX12_parts_112 (by decide) ?_
          refine lv_goto (tgt := 119) hx hb dX12_parts_114 (by decide) ?_
          exact ih.2.2.2.2.2.2.1 (upd L 100 23) σ r h H locs ls hP hD hS (lv_sub hl [0, 1, 2, 3, 4] rfl)
      · intro L σ r h H locs ls hP hD hS hl
        rw [x_GE_8, s_parts_5] at h
        refine lv_bipush (v := 21) hx hb dX12_parts_117 (by decide) ?_
        exact ih.2.2.2.2.2.2.1 (upd L 100 21) σ r h H locs ls hP hD hS (lv_sub hl [0, 1, 2, 3, 4] rfl)
      · intro L σ r h H locs ls hP hD hS hl
        rw [x_GE_8, s_parts_6] at h
        refine lv_iconst (v := 0) hx hb dX12_parts_119 (by decide) ?_
        refine lv_iload_n hx hb dX12_parts_120 rfl (lv_at hl 2 rfl) ?_
        refine lv_iload hx hb dX12_parts_121 (lv_at hl 4 rfl) ?_
        obtain ⟨r1, hc1, h⟩ := ob_ex h
        refine nc_Vi (As := [.int (L 100), .int 0, .int (L 2), .int (L 4)]) (rest := []) ⟨hx, hb, hml, hown, hts⟩ (c_x_over l dC dI cy a k (upd (upd (upd (upd (fun _ => 0) 1 ((L 100))) 2 0) 3 ((L 2))) 4 ((L 4))) σ r1 hc1 H.size) (cwV 4 hts g_x_parts_over_168 rfl rfl rfl hd_x_over (by show 1 + 1 ≤ 5 + d ∧ 8 + (6 + 11) + 25 ≤ 113 + 31 * d; omega)) hK hG hA hP hD hS rfl hl.1 rfl (Nat.le_of_ble_eq_true rfl) dX12_parts_123 ⟨Nat.le_refl _, Nat.le_refl _⟩ (fun H locs hP hD hS => ?_)
        refine lv_istore_n (lv' := [(2, .int r1.1), (0, .ref (a 0)), (1, .int (L 1)), (3, .int (L 3)), (4, .int (L 4))]) hx hb dX12_parts_126 rfl hl (by decide) rfl (fun ls hl => ?_)
        exact ih.2.2.2.2.2.2.2.1 (upd L 2 r1.1) r1.2 r h H locs ls hP hD hS (lv_sub hl [1, 2, 0, 3, 4] rfl)
      · intro L σ r h H locs ls hP hD hS hl
        rw [x_GE_8, s_parts_7] at h
        refine lv_aload_n hx hb dX12_parts_127 rfl (lv_at hl 0 rfl) ?_
        refine lv_iload_n hx hb dX12_parts_128 rfl (lv_at hl 3 rfl) ?_
        refine lv_if_eq (tgt := 137) hx hb dX12_parts_129 (by decide) (fun c1 => ?_) (fun c1 => ?_)
        · rw [if_pos c1] at h
          exact ih.2.2.2.2.2.2.2.2.1 L σ r h H locs ls hP hD hS (lv_sub hl [0, 1, 2, 3, 4] rfl)
        · rw [if_neg c1] at h
          refine lv_bipush (v := 9) hx hb dX12_parts_132 (by decide) ?_
          refine lv_goto (tgt := 139) hx hb dX12_parts_134 (by decide) ?_
          exact ih.2.2.2.2.2.2.2.2.2.1 (upd L 100 9) σ r h H locs ls hP hD hS (lv_sub hl [0, 1, 2, 3, 4] rfl)
      · intro L σ r h H locs ls hP hD hS hl
        rw [x_GE_8, s_parts_8] at h
        refine lv_bipush (v := 7) hx hb dX12_parts_137 (by decide) ?_
        exact ih.2.2.2.2.2.2.2.2.2.1 (upd L 100 7) σ r h H locs ls hP hD hS (lv_sub hl [0, 1, 2, 3, 4] rfl)
      · intro L σ r h H locs ls hP hD hS hl
        rw [x_GE_8, s_parts_9] at h
        obtain ⟨r1, hc1, h⟩ := ob_ex h
        refine nc_Vv (As := [.int (L 100)]) (rest := []) ⟨hx, hb, hml, hown, hts⟩ (c_x_want l dC dI cy a k (upd (fun _ => 0) 1 ((L 100))) σ r1 hc1 H.size) (cwV 1 hts g_x_parts_want_199 rfl rfl rfl hd_x_want (by show 3 + 1 ≤ 5 + d ∧ 8 + (2 + 11) + 64 ≤ 113 + 31 * d; omega)) hK hG hA hP hD hS rfl hl.1 rfl (Nat.le_of_ble_eq_true rfl) dX12_parts_139 ⟨Nat.le_refl _, Nat.le_refl _⟩ (fun H locs hP hD hS => ?_)
        refine lv_aload_n hx hb dX12_parts_142 rfl (lv_at hl 0 rfl) ?_
        refine lv_dup hx hb dX12_parts_143 rfl ?_
        refine ng_13 hx hb hts in_x_parts hown hK hP (hts _ (List.mem_cons_of_mem _ (List.mem_append_left _ (List.mem_append_left _ (List.mem_of_getElem? (i := 50) rfl))))) dX12_parts_144 ?_
        refine lv_iconst (v := 1) hx hb dX12_parts_147 (by decide) ?_
        refine lv_isub hx hb dX12_parts_148 ?_
        refine np_13 hx hb hts in_x_parts hown hK hP hD hS (hts _ (List.mem_cons_of_mem _ (List.mem_append_left _ (List.mem_append_left _ (List.mem_of_getElem? (i := 50) rfl))))) dX12_parts_149 (fun H locs hP hD hS => ?_)
        refine lv_goto (tgt := 2) hx hb dX12_parts_152 (by decide) ?_
        exact ih.2.1 L (upd r1.2.1 13 ((((r1.2.1 13)) - 1)), r1.2.2.1, r1.2.2.2) r h H locs ls hP hD hS (lv_sub hl [0, 1, 2] rfl)
      · intro L σ r h H locs ls hP hD hS hl
        rw [x_GE_8, s_parts_10] at h
        refine lv_iload_n hx hb dX12_parts_155 rfl (lv_at hl 2 rfl) ?_
        cases h
        exact W.iret (v := (L 2)) hx hb hr (fun t ht hW => ⟨⟨(L 2), (), rfl, rfl, by rw [ht]; exact hP, va_K.moved hW.alike hK, hD⟩, hS.F ht⟩) hS.2.2 dX12_parts_156
  exact (blk k0 (Nat.le_refl _)).1 L0 σ0 r0 h0 s.heap [] ls hP hD hS hl
theorem gg_x_power_isSign : GoodIn w_x_power w_x_isSign := goodIn_sub (fun w h => (List.mem_cons.mp h).elim (fun e => (List.mem_cons_of_mem _ (List.mem_append_left _ (List.mem_append_right _ (List.mem_append_left _ (List.mem_cons.mpr (Or.inl e))))))) (fun h => (List.mem_append.mp h).elim (fun h => (List.mem_cons_of_mem _ (List.mem_append_left _ (List.mem_append_right _ (List.mem_append_left _ (List.mem_cons_of_mem _ h)))))) (fun h => List.mem_cons_of_mem _ (List.mem_append_right _ h)))) w_x_isSign_good
theorem g_x_power_isSign_65 : GoodIn w_x_power (wsV RX12 65 RX12 yX12_isSign w_x_isSign) := goodIn_app (nb_g4 (List.mem_cons_of_mem _ (List.mem_append_left _ (List.mem_append_left _ (List.mem_of_getElem? (i := 17) rfl)))) (List.mem_cons_of_mem _ (List.mem_append_left _ (List.mem_append_left _ (List.mem_of_getElem? (i := 18) rfl)))) (List.mem_cons_of_mem _ (List.mem_append_left _ (List.mem_append_left _ (List.mem_of_getElem? (i := 19) rfl)))) (List.mem_cons_of_mem _ (List.mem_append_left _ (List.mem_append_left _ (List.mem_of_getElem? (i := 20) rfl)))) (by decide +kernel)) gg_x_power_isSign
theorem gg_x_power_open : GoodIn w_x_power w_x_open := goodIn_sub (fun w h => (List.mem_cons.mp h).elim (fun e => (List.mem_cons_of_mem _ (List.mem_append_left _ (List.mem_append_right _ (List.mem_append_right _ (List.mem_append_left _ (List.mem_cons.mpr (Or.inl e)))))))) (fun h => (List.mem_append.mp h).elim (fun h => (List.mem_cons_of_mem _ (List.mem_append_left _ (List.mem_append_right _ (List.mem_append_right _ (List.mem_append_left _ (List.mem_cons_of_mem _ h))))))) (fun h => List.mem_cons_of_mem _ (List.mem_append_right _ h)))) w_x_open_good
theorem g_x_power_open_177 : GoodIn w_x_power (wsV RX12 177 RX12 yX12_open w_x_open) := goodIn_app (nb_g4 (List.mem_cons_of_mem _ (List.mem_append_left _ (List.mem_append_left _ (List.mem_of_getElem? (i := 21) rfl)))) (List.mem_cons_of_mem _ (List.mem_append_left _ (List.mem_append_left _ (List.mem_of_getElem? (i := 22) rfl)))) (List.mem_cons_of_mem _ (List.mem_append_left _ (List.mem_append_left _ (List.mem_of_getElem? (i := 23) rfl)))) (List.mem_cons_of_mem _ (List.mem_append_left _ (List.mem_append_left _ (List.mem_of_getElem? (i := 20) rfl)))) (by decide +kernel)) gg_x_power_open
theorem gg_x_power_over : GoodIn w_x_power w_x_over := goodIn_sub (fun w h => (List.mem_cons.mp h).elim (fun e => (List.mem_cons_of_mem _ (List.mem_append_left _ (List.mem_append_right _ (List.mem_append_right _ (List.mem_append_right _ (List.mem_append_right _ (List.mem_append_right _ (List.mem_append_right _ (List.mem_append_right _ (List.mem_append_right _ (List.mem_append_right _ (List.mem_append_left _ (List.mem_cons.mpr (Or.inl e))))))))))))))) (fun h => (List.mem_append.mp h).elim (fun h => (List.mem_cons_of_mem _ (List.mem_append_left _ (List.mem_append_right _ (List.mem_append_right _ (List.mem_append_right _ (List.mem_append_right _ (List.mem_append_right _ (List.mem_append_right _ (List.mem_append_right _ (List.mem_append_right _ (List.mem_append_right _ (List.mem_append_left _ (List.mem_cons_of_mem _ h)))))))))))))) (fun h => List.mem_cons_of_mem _ (List.mem_append_right _ h)))) w_x_over_good
theorem g_x_power_over_168 : GoodIn w_x_power (wsV RX12 168 RX12 yX12_over w_x_over) := goodIn_app (nb_g4 (List.mem_cons_of_mem _ (List.mem_append_left _ (List.mem_append_left _ (List.mem_of_getElem? (i := 58) rfl)))) (List.mem_cons_of_mem _ (List.mem_append_left _ (List.mem_append_left _ (List.mem_of_getElem? (i := 59) rfl)))) (List.mem_cons_of_mem _ (List.mem_append_left _ (List.mem_append_left _ (List.mem_of_getElem? (i := 60) rfl)))) (List.mem_cons_of_mem _ (List.mem_append_left _ (List.mem_append_left _ (List.mem_of_getElem? (i := 20) rfl)))) (by decide +kernel)) gg_x_power_over
theorem gg_x_power_power : GoodIn w_x_power w_x_power := goodIn_sub (fun w h => (List.mem_cons.mp h).elim (fun e => e ▸ (List.mem_cons_of_mem _ (List.mem_append_left _ (List.mem_append_left _ (List.mem_of_getElem? (i := 9) rfl))))) (fun h => List.mem_cons_of_mem _ h)) w_x_power_good
theorem g_x_power_power_193 : GoodIn w_x_power (wsV RX12 193 RX12 yX12_power w_x_power) := goodIn_app (nb_g4 (List.mem_cons_of_mem _ (List.mem_append_left _ (List.mem_append_left _ (List.mem_of_getElem? (i := 101) rfl)))) (List.mem_cons_of_mem _ (List.mem_append_left _ (List.mem_append_left _ (List.mem_of_getElem? (i := 102) rfl)))) (List.mem_cons_of_mem _ (List.mem_append_left _ (List.mem_append_left _ (List.mem_of_getElem? (i := 103) rfl)))) (List.mem_cons_of_mem _ (List.mem_append_left _ (List.mem_append_left _ (List.mem_of_getElem? (i := 20) rfl)))) (by decide +kernel)) gg_x_power_power
theorem gg_x_power_prefix : GoodIn w_x_power w_x_prefix := goodIn_sub (fun w h => (List.mem_cons.mp h).elim (fun e => e ▸ (List.mem_cons_of_mem _ (List.mem_append_left _ (List.mem_append_left _ (List.mem_of_getElem? (i := 10) rfl))))) (fun h => List.mem_cons_of_mem _ h)) w_x_prefix_good
theorem g_x_power_prefix_196 : GoodIn w_x_power (wsV RX12 196 RX12 yX12_prefix w_x_prefix) := goodIn_app (nb_g4 (List.mem_cons_of_mem _ (List.mem_append_left _ (List.mem_append_left _ (List.mem_of_getElem? (i := 98) rfl)))) (List.mem_cons_of_mem _ (List.mem_append_left _ (List.mem_append_left _ (List.mem_of_getElem? (i := 99) rfl)))) (List.mem_cons_of_mem _ (List.mem_append_left _ (List.mem_append_left _ (List.mem_of_getElem? (i := 100) rfl)))) (List.mem_cons_of_mem _ (List.mem_append_left _ (List.mem_append_left _ (List.mem_of_getElem? (i := 20) rfl)))) (by decide +kernel)) gg_x_power_prefix
theorem gg_x_power_take : GoodIn w_x_power w_x_take := goodIn_sub (fun w h => (List.mem_cons.mp h).elim (fun e => (List.mem_cons_of_mem _ (List.mem_append_left _ (List.mem_append_right _ (List.mem_append_right _ (List.mem_append_right _ (List.mem_append_left _ (List.mem_cons.mpr (Or.inl e))))))))) (fun h => (List.mem_append.mp h).elim (fun h => (List.mem_cons_of_mem _ (List.mem_append_left _ (List.mem_append_right _ (List.mem_append_right _ (List.mem_append_right _ (List.mem_append_left _ (List.mem_cons_of_mem _ h)))))))) (fun h => List.mem_cons_of_mem _ (List.mem_append_right _ h)))) w_x_take_good
theorem g_x_power_take_71 : GoodIn w_x_power (wsV RX12 71 RX12 yX12_take w_x_take) := goodIn_app (nb_g4 (List.mem_cons_of_mem _ (List.mem_append_left _ (List.mem_append_left _ (List.mem_of_getElem? (i := 25) rfl)))) (List.mem_cons_of_mem _ (List.mem_append_left _ (List.mem_append_left _ (List.mem_of_getElem? (i := 26) rfl)))) (List.mem_cons_of_mem _ (List.mem_append_left _ (List.mem_append_left _ (List.mem_of_getElem? (i := 27) rfl)))) (List.mem_cons_of_mem _ (List.mem_append_left _ (List.mem_append_left _ (List.mem_of_getElem? (i := 20) rfl)))) (by decide +kernel)) gg_x_power_take
set_option maxHeartbeats 40000000 in
set_option maxRecDepth 100000 in
theorem c_s_power (l : Launch) (dC : Nat → ClassId) (dI : Nat → Nat → Nat) (cy : Nat → ClassId) (a : Nat → Nat) (k0 : Nat) (IH : ∀ j : Nat, j < k0 → P_GE l dC dI cy a j) (d : Nat) (L0 : Nat → Int32) (σ0 : MS) (r0 : Int32 × MS) (h0 : x_GE k0 d 9 0 L0 σ0 = some r0) (sz : Nat) : Met l yX12_power w_x_power ({ frames := 5 + d, cells := 0, slots := 0, locals := 113 + 31 * d }) (va_Pc [.ref (a 0)] (nIn (dC, dI) cy sz (vM cy a σ0))) (va_Qi (fun (z : Int32) (_ : Unit) => z = r0.1) (fun _ t => nOut (dC, dI) cy (va_A (vM cy a σ0) sz) (vM cy a r0.2) t) (va_A (vM cy a σ0) sz)) 0 0 (va_A (vM cy a σ0) sz) := by
  refine Met.ofW (cc := cX12_power) (maxL := 3) (ret := (some .int)) (by decide) rfl ?_
  intro p e s m args below meth c s₁ B hml hv
  obtain ⟨rfl, hsz, hP, hK, hD0, hG⟩ := hv
  have hx := B.exec
  have hb := B.bytes
  have hr := B.returns
  have hts := atoms_spec (ws := w_x_power) B.pre
  have hown : s.vm.findClass RX12 = some m.cls := findClass_of_methodNamed B.named
  have hlocks := B.notSynchronized
  subst hsz
  have hD := hD0.self (sz := s.heap.size)
  generalize hAe : va_A (vM cy a σ0) s.heap.size = A at hD ⊢
  have hA : ∀ q : Nat, s.heap.size ≤ q → A q := fun q h => by rw [← hAe]; exact Or.inr h
  have hS : va_S A s.heap s.heap [] := va_S.rf
  have hl := lv_entry ([.ref (a 0)]) (n := 3) (Nat.le_of_ble_eq_true rfl)
  rw [lg_entry_eq]
  generalize (lg_sl ([.ref (a 0)]) ++ List.replicate (3 - (lg_sl ([.ref (a 0)])).length) Slot.unset).toArray = ls at hl ⊢
  have hl : lv_has ls 3 [(0, .ref (a 0))] := hl
  have blk : ∀ k : Nat, k ≤ k0 → (bT p l e (headSpec w_x_power ({ frames := 5 + d, cells := 0, slots := 0, locals := 113 + 31 * d })).room s m #[.ref (a 0)] below meth c dC dI cy a A (qI dC dI cy a A below #[.ref (a 0)] s) 3 (x_GE k d 9 0) (fun L => [(0, .ref (a 0))]) 0 (fun L => [])) ∧ (bT p l e (headSpec w_x_power ({ frames := 5 + d, cells := 0, slots := 0, locals := 113 + 31 * d })).room s m #[.ref (a 0)] below meth c dC dI cy a A (qI dC dI cy a A below #[.ref (a 0)] s) 3 (x_GE k d 9 1) (fun L => [(0, .ref (a 0)), (1, .int (L 1))]) 20 (fun L => [])) ∧ (bT p l e (headSpec w_x_power ({ frames := 5 + d, cells := 0, slots := 0, locals := 113 + 31 * d })).room s m #[.ref (a 0)] below meth c dC dI cy a A (qI dC dI cy a A below #[.ref (a 0)] s) 3 (x_GE k d 9 2) (fun L => [(0, .ref (a 0)), (1, .int (L 1))]) 22 (fun L => [])) ∧ (bT p l e (headSpec w_x_power ({ frames := 5 + d, cells := 0, slots := 0, locals := 113 + 31 * d })).room s m #[.ref (a 0)] below meth c dC dI cy a A (qI dC dI cy a A below #[.ref (a 0)] s) 3 (x_GE k d 9 3) (fun L => [(0, .ref (a 0)), (1, .int (L 1))]) 37 (fun L => [])) ∧ (bT p l e (headSpec w_x_power ({ frames := 5 + d, cells := 0, slots := 0, locals := 113 + 31 * d })).room s m #[.ref (a 0)] below meth c dC dI cy a A (qI dC dI cy a A below #[.ref (a 0)] s) 3 (x_GE k d 9 4) (fun L => [(0, .ref (a 0)), (1, .int (L 1)), (2, .int (L 2))]) 52 (fun L => [])) := by
    intro k
    induction k with
    | zero => exact fun _ => ⟨fun L σ r h => (by cases h), fun L σ r h => (by cases h), fun L σ r h => (by cases h), fun L σ r h => (by cases h), fun L σ r h => (by cases h)⟩
    | succ k ih =>
      intro hk
      replace ih := ih (by omega)
      refine ⟨?_, ?_, ?_, ?_, ?_⟩
      · intro L σ r h H locs ls hP hD hS hl
        rw [x_GE_9, s_power_0] at h
        refine lv_aload_n hx hb dX12_power_0 rfl (lv_at hl 0 rfl) ?_
        obtain ⟨e1, he1, h⟩ := od_ex h
        obtain ⟨r1, hc1, h⟩ := ob_ex h
        refine nc_Vi (As := []) (rest := []) ⟨hx, hb, hml, hown, hts⟩ ((IH k (by omega)).2.2.2.2.2.2.2.2.2.2.1 e1 (fun _ => 0) σ r1 hc1 H.size) (cwV 0 hts g_x_power_prefix_196 rfl rfl rfl hd_x_prefix (by show (5 + e1) + 1 ≤ 5 + d ∧ 8 + (3 + 11) + (113 + 31 * e1) ≤ 113 + 31 * d; omega)) hK hG hA hP hD hS rfl hl.1 rfl (Nat.le_of_ble_eq_true rfl) dX12_power_1 ⟨Nat.le_refl _, Nat.le_refl _⟩ (fun H locs hP hD hS => ?_)
        refine lv_istore_n (lv' := [(1, .int r1.1), (0, .ref (a 0))]) hx hb dX12_power_4 rfl hl (by decide) rfl (fun ls hl => ?_)
        refine lv_aload_n hx hb dX12_power_5 rfl (lv_at hl 1 rfl) ?_
        refine ng_10 hx hb hts in_x_power hown hK hP (hts _ (List.mem_cons_of_mem _ (List.mem_append_left _ (List.mem_append_left _ (List.mem_of_getElem? (i := 24) rfl))))) dX12_power_6 ?_
        refine lv_if_ne (tgt := 20) hx hb dX12_power_9 (by decide) (fun c2 => ?_) (fun c2 => ?_)
        · rw [if_neg c2] at h
          exact ih.2.1 (upd L 1 r1.1) r1.2 r h H locs ls hP hD hS (lv_sub hl [1, 0] rfl)
        · rw [if_pos c2] at h
          refine lv_aload_n hx hb dX12_power_12 rfl (lv_at hl 1 rfl) ?_
          refine lv_iconst (v := 5) hx hb dX12_power_13 (by decide) ?_
          obtain ⟨r3, hc3, h⟩ := ob_ex h
          refine nc_Vi (As := [.int 5]) (rest := []) ⟨hx, hb, hml, hown, hts⟩ (c_x_isSign l dC dI cy a k (upd (fun _ => 0) 1 5) r1.2 r3 hc3 H.size) (cwV 1 hts g_x_power_isSign_65 rfl rfl rfl hd_x_isSign (by show 0 + 1 ≤ 5 + d ∧ 8 + (2 + 11) + 0 ≤ 113 + 31 * d; omega)) hK hG hA hP hD hS rfl hl.1 rfl (Nat.le_of_ble_eq_true rfl) dX12_power_14 ⟨Nat.le_refl _, Nat.le_refl _⟩ (fun H locs hP hD hS => ?_)
          refine lv_if_ne (tgt := 22) hx hb dX12_power_17 (by decide) (fun c4 => ?_) (fun c4 => ?_)
          · rw [if_neg c4] at h
            exact ih.2.2.1 (upd L 1 r1.1) r3.2 r h H locs ls hP hD hS (lv_sub hl [1, 0] rfl)
          · rw [if_pos c4] at h
            exact ih.2.1 (upd L 1 r1.1) r3.2 r h H locs ls hP hD hS (lv_sub hl [1, 0] rfl)
      · intro L σ r h H locs ls hP hD hS hl
        rw [x_GE_9, s_power_1] at h
        refine lv_iload_n hx hb dX12_power_20 rfl (lv_at hl 1 rfl) ?_
        cases h
        exact W.iret (v := (L 1)) hx hb hr (fun t ht hW => ⟨⟨(L 1), (), rfl, rfl, by rw [ht]; exact hP, va_K.moved hW.alike hK, hD⟩, hS.F ht⟩) hS.2.2 dX12_power_21
      · intro L σ r h H locs ls hP hD hS hl
        rw [x_GE_9, s_power_2] at h
        refine lv_aload_n hx hb dX12_power_22 rfl (lv_at hl 0 rfl) ?_
        obtain ⟨r1, hc1, h⟩ := ob_ex h
        refine nc_Vv (As := []) (rest := []) ⟨hx, hb, hml, hown, hts⟩ (c_x_open l dC dI cy a k (fun _ => 0) σ r1 hc1 H.size) (cwV 0 hts g_x_power_open_177 rfl rfl rfl hd_x_open (by show 1 + 1 ≤ 5 + d ∧ 8 + (1 + 11) + 22 ≤ 113 + 31 * d; omega)) hK hG hA hP hD hS rfl hl.1 rfl (Nat.le_of_ble_eq_true rfl) dX12_power_23 ⟨Nat.le_refl _, Nat.le_refl _⟩ (fun H locs hP hD hS => ?_)
        refine lv_aload_n hx hb dX12_power_26 rfl (lv_at hl 0 rfl) ?_
        refine ng_10 hx hb hts in_x_power hown hK hP (hts _ (List.mem_cons_of_mem _ (List.mem_append_left _ (List.mem_append_left _ (List.mem_of_getElem? (i := 24) rfl))))) dX12_power_27 ?_
        refine lv_if_ne (tgt := 37) hx hb dX12_power_30 (by decide) (fun c2 => ?_) (fun c2 => ?_)
        · rw [if_neg c2] at h
          exact ih.2.2.2.1 L r1.2 r h H locs ls hP hD hS (lv_sub hl [0, 1] rfl)
        · rw [if_pos c2] at h
          refine lv_aload_n hx hb dX12_power_33 rfl (lv_at hl 0 rfl) ?_
          obtain ⟨r3, hc3, h⟩ := ob_ex h
          refine nc_Vv (As := []) (rest := []) ⟨hx, hb, hml, hown, hts⟩ (c_x_take l dC dI cy a k (fun _ => 0) r1.2 r3 hc3 H.size) (cwV 0 hts g_x_power_take_71 rfl rfl rfl hd_x_take (by show 2 + 1 ≤ 5 + d ∧ 8 + (2 + 11) + 43 ≤ 113 + 31 * d; omega)) hK hG hA hP hD hS rfl hl.1 rfl (Nat.le_of_ble_eq_true rfl) dX12_power_34 ⟨Nat.le_refl _, Nat.le_refl _⟩ (fun H locs hP hD hS => ?_)
          exact ih.2.2.2.1 L r3.2 r h H locs ls hP hD hS (lv_sub hl [0, 1] rfl)
      · intro L σ r h H locs ls hP hD hS hl
        rw [x_GE_9, s_power_3] at h
        refine lv_aload_n hx hb dX12_power_37 rfl (lv_at hl 0 rfl) ?_
        obtain ⟨e1, he1, h⟩ := od_ex h
        obtain ⟨r1, hc1, h⟩ := ob_ex h
        refine nc_Vi (As := []) (rest := []) ⟨hx, hb, hml, hown, hts⟩ ((IH k (by omega)).2.2.2.2.2.2.2.2.2.1 e1 (fun _ => 0) σ r1 hc1 H.size) (cwV 0 hts g_x_power_power_193 rfl rfl rfl hd_x_power (by show (5 + e1) + 1 ≤ 5 + d ∧ 8 + (3 + 11) + (113 + 31 * e1) ≤ 113 + 31 * d; omega)) hK hG hA hP hD hS rfl hl.1 rfl (Nat.le_of_ble_eq_true rfl) dX12_power_38 ⟨Nat.le_refl _, Nat.le_refl _⟩ (fun H locs hP hD hS => ?_)
        refine lv_istore_n (lv' := [(2, .int r1.1), (0, .ref (a 0)), (1, .int (L 1))]) hx hb dX12_power_41 rfl hl (by decide) rfl (fun ls hl => ?_)
        refine lv_aload_n hx hb dX12_power_42 rfl (lv_at hl 1 rfl) ?_
        refine lv_dup hx hb dX12_power_43 rfl ?_
        refine ng_13 hx hb hts in_x_power hown hK hP (hts _ (List.mem_cons_of_mem _ (List.mem_append_left _ (List.mem_append_left _ (List.mem_of_getElem? (i := 50) rfl))))) dX12_power_44 ?_
        refine lv_iconst (v := 1) hx hb dX12_power_47 (by decide) ?_
        refine lv_isub hx hb dX12_power_48 ?_
        refine np_13 hx hb hts in_x_power hown hK hP hD hS (hts _ (List.mem_cons_of_mem _ (List.mem_append_left _ (List.mem_append_left _ (List.mem_of_getElem? (i := 50) rfl))))) dX12_power_49 (fun H locs hP hD hS => ?_)
        exact ih.2.2.2.2 (upd L 2 r1.1) (upd r1.2.1 13 ((((r1.2.1 13)) - 1)), r1.2.2.1, r1.2.2.2) r h H locs ls hP hD hS (lv_sub hl [1, 2, 0] rfl)
      · intro L σ r h H locs ls hP hD hS hl
        rw [x_GE_9, s_power_4] at h
        refine lv_aload_n hx hb dX12_power_52 rfl (lv_at hl 0 rfl) ?_
        refine lv_bipush (v := 16) hx hb dX12_power_53 (by decide) ?_
        refine lv_iconst (v := 5) hx hb dX12_power_55 (by decide) ?_
        refine lv_iload_n hx hb dX12_power_56 rfl (lv_at hl 1 rfl) ?_
        refine lv_iload_n hx hb dX12_power_57 rfl (lv_at hl 2 rfl) ?_
        obtain ⟨r1, hc1, h⟩ := ob_ex h
        refine nc_Vi (As := [.int 16, .int 5, .int (L 1), .int (L 2)]) (rest := []) ⟨hx, hb, hml, hown, hts⟩ (c_x_over l dC dI cy a k (upd (upd (upd (upd (fun _ => 0) 1 16) 2 5) 3 ((L 1))) 4 ((L 2))) σ r1 hc1 H.size) (cwV 4 hts g_x_power_over_168 rfl rfl rfl hd_x_over (by show 1 + 1 ≤ 5 + d ∧ 8 + (6 + 11) + 25 ≤ 113 + 31 * d; omega)) hK hG hA hP hD hS rfl hl.1 rfl (Nat.le_of_ble_eq_true rfl) dX12_power_58 ⟨Nat.le_refl _, Nat.le_refl _⟩ (fun H locs hP hD hS => ?_)
        cases h
        exact W.iret (v := r1.1) hx hb hr (fun t ht hW => ⟨⟨r1.1, (), rfl, rfl, by rw [ht]; exact hP, va_K.moved hW.alike hK, hD⟩, hS.F ht⟩) hS.2.2 dX12_power_61
  exact (blk k0 (Nat.le_refl _)).1 L0 σ0 r0 h0 s.heap [] ls hP hD hS hl
theorem gg_x_prefix_isSign : GoodIn w_x_prefix w_x_isSign := goodIn_sub (fun w h => (List.mem_cons.mp h).elim (fun e => (List.mem_cons_of_mem _ (List.mem_append_left _ (List.mem_append_right _ (List.mem_append_left _ (List.mem_cons.mpr (Or.inl e))))))) (fun h => (List.mem_append.mp h).elim (fun h => (List.mem_cons_of_mem _ (List.mem_append_left _ (List.mem_append_right _ (List.mem_append_left _ (List.mem_cons_of_mem _ h)))))) (fun h => List.mem_cons_of_mem _ (List.mem_append_right _ h)))) w_x_isSign_good
theorem g_x_prefix_isSign_65 : GoodIn w_x_prefix (wsV RX12 65 RX12 yX12_isSign w_x_isSign) := goodIn_app (nb_g4 (List.mem_cons_of_mem _ (List.mem_append_left _ (List.mem_append_left _ (List.mem_of_getElem? (i := 17) rfl)))) (List.mem_cons_of_mem _ (List.mem_append_left _ (List.mem_append_left _ (List.mem_of_getElem? (i := 18) rfl)))) (List.mem_cons_of_mem _ (List.mem_append_left _ (List.mem_append_left _ (List.mem_of_getElem? (i := 19) rfl)))) (List.mem_cons_of_mem _ (List.mem_append_left _ (List.mem_append_left _ (List.mem_of_getElem? (i := 20) rfl)))) (by decide +kernel)) gg_x_prefix_isSign
theorem gg_x_prefix_isWord : GoodIn w_x_prefix w_x_isWord := goodIn_sub (fun w h => (List.mem_cons.mp h).elim (fun e => (List.mem_cons_of_mem _ (List.mem_append_left _ (List.mem_append_right _ (List.mem_append_right _ (List.mem_append_right _ (List.mem_append_right _ (List.mem_append_right _ (List.mem_append_left _ (List.mem_cons.mpr (Or.inl e))))))))))) (fun h => (List.mem_append.mp h).elim (fun h => (List.mem_cons_of_mem _ (List.mem_append_left _ (List.mem_append_right _ (List.mem_append_right _ (List.mem_append_right _ (List.mem_append_right _ (List.mem_append_right _ (List.mem_append_left _ (List.mem_cons_of_mem _ h)))))))))) (fun h => List.mem_cons_of_mem _ (List.mem_append_right _ h)))) w_x_isWord_good
theorem g_x_prefix_isWord_74 : GoodIn w_x_prefix (wsV RX12 74 RX12 yX12_isWord w_x_isWord) := goodIn_app (nb_g4 (List.mem_cons_of_mem _ (List.mem_append_left _ (List.mem_append_left _ (List.mem_of_getElem? (i := 31) rfl)))) (List.mem_cons_of_mem _ (List.mem_append_left _ (List.mem_append_left _ (List.mem_of_getElem? (i := 32) rfl)))) (List.mem_cons_of_mem _ (List.mem_append_left _ (List.mem_append_left _ (List.mem_of_getElem? (i := 33) rfl)))) (List.mem_cons_of_mem _ (List.mem_append_left _ (List.mem_append_left _ (List.mem_of_getElem? (i := 20) rfl)))) (by decide +kernel)) gg_x_prefix_isWord
theorem gg_x_prefix_node : GoodIn w_x_prefix w_x_node := goodIn_sub (fun w h => (List.mem_cons.mp h).elim (fun e => (List.mem_cons_of_mem _ (List.mem_append_left _ (List.mem_append_right _ (List.mem_append_right _ (List.mem_append_right _ (List.mem_append_right _ (List.mem_append_left _ (List.mem_cons.mpr (Or.inl e)))))))))) (fun h => (List.mem_append.mp h).elim (fun h => (List.mem_cons_of_mem _ (List.mem_append_left _ (List.mem_append_right _ (List.mem_append_right _ (List.mem_append_right _ (List.mem_append_right _ (List.mem_append_left _ (List.mem_cons_of_mem _ h))))))))) (fun h => List.mem_cons_of_mem _ (List.mem_append_right _ h)))) w_x_node_good
theorem g_x_prefix_node_101 : GoodIn w_x_prefix (wsV RX12 101 RX12 yX12_node w_x_node) := goodIn_app (nb_g4 (List.mem_cons_of_mem _ (List.mem_append_left _ (List.mem_append_left _ (List.mem_of_getElem? (i := 28) rfl)))) (List.mem_cons_of_mem _ (List.mem_append_left _ (List.mem_append_left _ (List.mem_of_getElem? (i := 29) rfl)))) (List.mem_cons_of_mem _ (List.mem_append_left _ (List.mem_append_left _ (List.mem_of_getElem? (i := 30) rfl)))) (List.mem_cons_of_mem _ (List.mem_append_left _ (List.mem_append_left _ (List.mem_of_getElem? (i := 20) rfl)))) (by decide +kernel)) gg_x_prefix_node
theorem gg_x_prefix_open : GoodIn w_x_prefix w_x_open := goodIn_sub (fun w h => (List.mem_cons.mp h).elim (fun e => (List.mem_cons_of_mem _ (List.mem_append_left _ (List.mem_append_right _ (List.mem_append_right _ (List.mem_append_left _ (List.mem_cons.mpr (Or.inl e)))))))) (fun h => (List.mem_append.mp h).elim (fun h => (List.mem_cons_of_mem _ (List.mem_append_left _ (List.mem_append_right _ (List.mem_append_right _ (List.mem_append_left _ (List.mem_cons_of_mem _ h))))))) (fun h => List.mem_cons_of_mem _ (List.mem_append_right _ h)))) w_x_open_good
theorem g_x_prefix_open_177 : GoodIn w_x_prefix (wsV RX12 177 RX12 yX12_open w_x_open) := goodIn_app (nb_g4 (List.mem_cons_of_mem _ (List.mem_append_left _ (List.mem_append_left _ (List.mem_of_getElem? (i := 21) rfl)))) (List.mem_cons_of_mem _ (List.mem_append_left _ (List.mem_append_left _ (List.mem_of_getElem? (i := 22) rfl)))) (List.mem_cons_of_mem _ (List.mem_append_left _ (List.mem_append_left _ (List.mem_of_getElem? (i := 23) rfl)))) (List.mem_cons_of_mem _ (List.mem_append_left _ (List.mem_append_left _ (List.mem_of_getElem? (i := 20) rfl)))) (by decide +kernel)) gg_x_prefix_open
theorem gg_x_prefix_operator : GoodIn w_x_prefix w_x_operator := goodIn_sub (fun w h => (List.mem_cons.mp h).elim (fun e => (List.mem_cons_of_mem _ (List.mem_append_left _ (List.mem_append_right _ (List.mem_append_right _ (List.mem_append_right _ (List.mem_append_right _ (List.mem_append_right _ (List.mem_append_right _ (List.mem_append_right _ (List.mem_append_right _ (List.mem_append_right _ (List.mem_append_right _ (List.mem_append_right _ (List.mem_append_right _ (List.mem_append_right _ (List.mem_append_right _ (List.mem_append_right _ (List.mem_append_right _ (List.mem_append_left _ (List.mem_cons.mpr (Or.inl e)))))))))))))))))))))) (fun h => (List.mem_append.mp h).elim (fun h => (List.mem_cons_of_mem _ (List.mem_append_left _ (List.mem_append_right _ (List.mem_append_right _ (List.mem_append_right _ (List.mem_append_right _ (List.mem_append_right _ (List.mem_append_right _ (List.mem_append_right _ (List.mem_append_right _ (List.mem_append_right _ (List.mem_append_right _ (List.mem_append_right _ (List.mem_append_right _ (List.mem_append_right _ (List.mem_append_right _ (List.mem_append_right _ (List.mem_append_right _ (List.mem_append_left _ (List.mem_cons_of_mem _ h))))))))))))))))))))) (fun h => List.mem_cons_of_mem _ (List.mem_append_right _ h)))) w_x_operator_good
theorem g_x_prefix_operator_187 : GoodIn w_x_prefix (wsV RX12 187 RX12 yX12_operator w_x_operator) := goodIn_app (nb_g4 (List.mem_cons_of_mem _ (List.mem_append_left _ (List.mem_append_left _ (List.mem_of_getElem? (i := 104) rfl)))) (List.mem_cons_of_mem _ (List.mem_append_left _ (List.mem_append_left _ (List.mem_of_getElem? (i := 105) rfl)))) (List.mem_cons_of_mem _ (List.mem_append_left _ (List.mem_append_left _ (List.mem_of_getElem? (i := 106) rfl)))) (List.mem_cons_of_mem _ (List.mem_append_left _ (List.mem_append_left _ (List.mem_of_getElem? (i := 20) rfl)))) (by decide +kernel)) gg_x_prefix_operator
theorem gg_x_prefix_parts : GoodIn w_x_prefix w_x_parts := goodIn_sub (fun w h => (List.mem_cons.mp h).elim (fun e => e ▸ (List.mem_cons_of_mem _ (List.mem_append_left _ (List.mem_append_left _ (List.mem_of_getElem? (i := 8) rfl))))) (fun h => List.mem_cons_of_mem _ h)) w_x_parts_good
theorem g_x_prefix_parts_206 : GoodIn w_x_prefix (wsV RX12 206 RX12 yX12_parts w_x_parts) := goodIn_app (nb_g4 (List.mem_cons_of_mem _ (List.mem_append_left _ (List.mem_append_left _ (List.mem_of_getElem? (i := 110) rfl)))) (List.mem_cons_of_mem _ (List.mem_append_left _ (List.mem_append_left _ (List.mem_of_getElem? (i := 111) rfl)))) (List.mem_cons_of_mem _ (List.mem_append_left _ (List.mem_append_left _ (List.mem_of_getElem? (i := 112) rfl)))) (List.mem_cons_of_mem _ (List.mem_append_left _ (List.mem_append_left _ (List.mem_of_getElem? (i := 20) rfl)))) (by decide +kernel)) gg_x_prefix_parts
theorem gg_x_prefix_prefix : GoodIn w_x_prefix w_x_prefix := goodIn_sub (fun w h => (List.mem_cons.mp h).elim (fun e => e ▸ (List.mem_cons_of_mem _ (List.mem_append_left _ (List.mem_append_left _ (List.mem_of_getElem? (i := 10) rfl))))) (fun h => List.mem_cons_of_mem _ h)) w_x_prefix_good
theorem g_x_prefix_prefix_196 : GoodIn w_x_prefix (wsV RX12 196 RX12 yX12_prefix w_x_prefix) := goodIn_app (nb_g4 (List.mem_cons_of_mem _ (List.mem_append_left _ (List.mem_append_left _ (List.mem_of_getElem? (i := 98) rfl)))) (List.mem_cons_of_mem _ (List.mem_append_left _ (List.mem_append_left _ (List.mem_of_getElem? (i := 99) rfl)))) (List.mem_cons_of_mem _ (List.mem_append_left _ (List.mem_append_left _ (List.mem_of_getElem? (i := 100) rfl)))) (List.mem_cons_of_mem _ (List.mem_append_left _ (List.mem_append_left _ (List.mem_of_getElem? (i := 20) rfl)))) (by decide +kernel)) gg_x_prefix_prefix
theorem gg_x_prefix_primary : GoodIn w_x_prefix w_x_primary := goodIn_sub (fun w h => (List.mem_cons.mp h).elim (fun e => e ▸ (List.mem_cons_of_mem _ (List.mem_append_left _ (List.mem_append_left _ (List.mem_of_getElem? (i := 11) rfl))))) (fun h => List.mem_cons_of_mem _ h)) w_x_primary_good
theorem g_x_prefix_primary_203 : GoodIn w_x_prefix (wsV RX12 203 RX12 yX12_primary w_x_primary) := goodIn_app (nb_g4 (List.mem_cons_of_mem _ (List.mem_append_left _ (List.mem_append_left _ (List.mem_of_getElem? (i := 107) rfl)))) (List.mem_cons_of_mem _ (List.mem_append_left _ (List.mem_append_left _ (List.mem_of_getElem? (i := 108) rfl)))) (List.mem_cons_of_mem _ (List.mem_append_left _ (List.mem_append_left _ (List.mem_of_getElem? (i := 109) rfl)))) (List.mem_cons_of_mem _ (List.mem_append_left _ (List.mem_append_left _ (List.mem_of_getElem? (i := 20) rfl)))) (by decide +kernel)) gg_x_prefix_primary
theorem gg_x_prefix_take : GoodIn w_x_prefix w_x_take := goodIn_sub (fun w h => (List.mem_cons.mp h).elim (fun e => (List.mem_cons_of_mem _ (List.mem_append_left _ (List.mem_append_right _ (List.mem_append_right _ (List.mem_append_right _ (List.mem_append_left _ (List.mem_cons.mpr (Or.inl e))))))))) (fun h => (List.mem_append.mp h).elim (fun h => (List.mem_cons_of_mem _ (List.mem_append_left _ (List.mem_append_right _ (List.mem_append_right _ (List.mem_append_right _ (List.mem_append_left _ (List.mem_cons_of_mem _ h)))))))) (fun h => List.mem_cons_of_mem _ (List.mem_append_right _ h)))) w_x_take_good
theorem g_x_prefix_take_71 : GoodIn w_x_prefix (wsV RX12 71 RX12 yX12_take w_x_take) := goodIn_app (nb_g4 (List.mem_cons_of_mem _ (List.mem_append_left _ (List.mem_append_left _ (List.mem_of_getElem? (i := 25) rfl)))) (List.mem_cons_of_mem _ (List.mem_append_left _ (List.mem_append_left _ (List.mem_of_getElem? (i := 26) rfl)))) (List.mem_cons_of_mem _ (List.mem_append_left _ (List.mem_append_left _ (List.mem_of_getElem? (i := 27) rfl)))) (List.mem_cons_of_mem _ (List.mem_append_left _ (List.mem_append_left _ (List.mem_of_getElem? (i := 20) rfl)))) (by decide +kernel)) gg_x_prefix_take
theorem gg_x_prefix_want : GoodIn w_x_prefix w_x_want := goodIn_sub (fun w h => (List.mem_cons.mp h).elim (fun e => (List.mem_cons_of_mem _ (List.mem_append_left _ (List.mem_append_right _ (List.mem_append_right _ (List.mem_append_right _ (List.mem_append_right _ (List.mem_append_right _ (List.mem_append_right _ (List.mem_append_left _ (List.mem_cons.mpr (Or.inl e)))))))))))) (fun h => (List.mem_append.mp h).elim (fun h => (List.mem_cons_of_mem _ (List.mem_append_left _ (List.mem_append_right _ (List.mem_append_right _ (List.mem_append_right _ (List.mem_append_right _ (List.mem_append_right _ (List.mem_append_right _ (List.mem_append_left _ (List.mem_cons_of_mem _ h))))))))))) (fun h => List.mem_cons_of_mem _ (List.mem_append_right _ h)))) w_x_want_good
theorem g_x_prefix_want_199 : GoodIn w_x_prefix (wsV RX12 199 RX12 yX12_want w_x_want) := goodIn_app (nb_g4 (List.mem_cons_of_mem _ (List.mem_append_left _ (List.mem_append_left _ (List.mem_of_getElem? (i := 41) rfl)))) (List.mem_cons_of_mem _ (List.mem_append_left _ (List.mem_append_left _ (List.mem_of_getElem? (i := 42) rfl)))) (List.mem_cons_of_mem _ (List.mem_append_left _ (List.mem_append_left _ (List.mem_of_getElem? (i := 43) rfl)))) (List.mem_cons_of_mem _ (List.mem_append_left _ (List.mem_append_left _ (List.mem_of_getElem? (i := 20) rfl)))) (by decide +kernel)) gg_x_prefix_want
set_option maxHeartbeats 40000000 in
set_option maxRecDepth 100000 in
theorem c_s_prefix (l : Launch) (dC : Nat → ClassId) (dI : Nat → Nat → Nat) (cy : Nat → ClassId) (a : Nat → Nat) (k0 : Nat) (IH : ∀ j : Nat, j < k0 → P_GE l dC dI cy a j) (d : Nat) (L0 : Nat → Int32) (σ0 : MS) (r0 : Int32 × MS) (h0 : x_GE k0 d 10 0 L0 σ0 = some r0) (sz : Nat) : Met l yX12_prefix w_x_prefix ({ frames := 5 + d, cells := 0, slots := 0, locals := 113 + 31 * d }) (va_Pc [.ref (a 0)] (nIn (dC, dI) cy sz (vM cy a σ0))) (va_Qi (fun (z : Int32) (_ : Unit) => z = r0.1) (fun _ t => nOut (dC, dI) cy (va_A (vM cy a σ0) sz) (vM cy a r0.2) t) (va_A (vM cy a σ0) sz)) 0 0 (va_A (vM cy a σ0) sz) := by
  refine Met.ofW (cc := cX12_prefix) (maxL := 3) (ret := (some .int)) (by decide) rfl ?_
  intro p e s m args below meth c s₁ B hml hv
  obtain ⟨rfl, hsz, hP, hK, hD0, hG⟩ := hv
  have hx := B.exec
  have hb := B.bytes
  have hr := B.returns
  have hts := atoms_spec (ws := w_x_prefix) B.pre
  have hown : s.vm.findClass RX12 = some m.cls := findClass_of_methodNamed B.named
  have hlocks := B.notSynchronized
  subst hsz
  have hD := hD0.self (sz := s.heap.size)
  generalize hAe : va_A (vM cy a σ0) s.heap.size = A at hD ⊢
  have hA : ∀ q : Nat, s.heap.size ≤ q → A q := fun q h => by rw [← hAe]; exact Or.inr h
  have hS : va_S A s.heap s.heap [] := va_S.rf
  have hl := lv_entry ([.ref (a 0)]) (n := 3) (Nat.le_of_ble_eq_true rfl)
  rw [lg_entry_eq]
  generalize (lg_sl ([.ref (a 0)]) ++ List.replicate (3 - (lg_sl ([.ref (a 0)])).length) Slot.unset).toArray = ls at hl ⊢
  have hl : lv_has ls 3 [(0, .ref (a 0))] := hl
  have blk : ∀ k : Nat, k ≤ k0 → (bT p l e (headSpec w_x_prefix ({ frames := 5 + d, cells := 0, slots := 0, locals := 113 + 31 * d })).room s m #[.ref (a 0)] below meth c dC dI cy a A (qI dC dI cy a A below #[.ref (a 0)] s) 3 (x_GE k d 10 0) (fun L => [(0, .ref (a 0))]) 0 (fun L => [])) ∧ (bT p l e (headSpec w_x_prefix ({ frames := 5 + d, cells := 0, slots := 0, locals := 113 + 31 * d })).room s m #[.ref (a 0)] below meth c dC dI cy a A (qI dC dI cy a A below #[.ref (a 0)] s) 3 (x_GE k d 10 1) (fun L => [(0, .ref (a 0))]) 9 (fun L => [])) ∧ (bT p l e (headSpec w_x_prefix ({ frames := 5 + d, cells := 0, slots := 0, locals := 113 + 31 * d })).room s m #[.ref (a 0)] below meth c dC dI cy a A (qI dC dI cy a A below #[.ref (a 0)] s) 3 (x_GE k d 10 2) (fun L => [(0, .ref (a 0))]) 26 (fun L => [])) ∧ (bT p l e (headSpec w_x_prefix ({ frames := 5 + d, cells := 0, slots := 0, locals := 113 + 31 * d })).room s m #[.ref (a 0)] below meth c dC dI cy a A (qI dC dI cy a A below #[.ref (a 0)] s) 3 (x_GE k d 10 3) (fun L => [(0, .ref (a 0))]) 39 (fun L => [])) ∧ (bT p l e (headSpec w_x_prefix ({ frames := 5 + d, cells := 0, slots := 0, locals := 113 + 31 * d })).room s m #[.ref (a 0)] below meth c dC dI cy a A (qI dC dI cy a A below #[.ref (a 0)] s) 3 (x_GE k d 10 4) (fun L => [(0, .ref (a 0))]) 41 (fun L => [.int (L 100)])) ∧ (bT p l e (headSpec w_x_prefix ({ frames := 5 + d, cells := 0, slots := 0, locals := 113 + 31 * d })).room s m #[.ref (a 0)] below meth c dC dI cy a A (qI dC dI cy a A below #[.ref (a 0)] s) 3 (x_GE k d 10 5) (fun L => [(0, .ref (a 0)), (1, .int (L 1))]) 57 (fun L => [])) ∧ (bT p l e (headSpec w_x_prefix ({ frames := 5 + d, cells := 0, slots := 0, locals := 113 + 31 * d })).room s m #[.ref (a 0)] below meth c dC dI cy a A (qI dC dI cy a A below #[.ref (a 0)] s) 3 (x_GE k d 10 6) (fun L => [(0, .ref (a 0)), (1, .int (L 1)), (2, .int (L 2))]) 72 (fun L => [])) ∧ (bT p l e (headSpec w_x_prefix ({ frames := 5 + d, cells := 0, slots := 0, locals := 113 + 31 * d })).room s m #[.ref (a 0)] below meth c dC dI cy a A (qI dC dI cy a A below #[.ref (a 0)] s) 3 (x_GE k d 10 7) (fun L => [(0, .ref (a 0))]) 81 (fun L => [])) ∧ (bT p l e (headSpec w_x_prefix ({ frames := 5 + d, cells := 0, slots := 0, locals := 113 + 31 * d })).room s m #[.ref (a 0)] below meth c dC dI cy a A (qI dC dI cy a A below #[.ref (a 0)] s) 3 (x_GE k d 10 8) (fun L => [(0, .ref (a 0))]) 115 (fun L => [])) ∧ (bT p l e (headSpec w_x_prefix ({ frames := 5 + d, cells := 0, slots := 0, locals := 113 + 31 * d })).room s m #[.ref (a 0)] below meth c dC dI cy a A (qI dC dI cy a A below #[.ref (a 0)] s) 3 (x_GE k d 10 9) (fun L => [(0, .ref (a 0)), (1, .int (L 1))]) 135 (fun L => [])) ∧ (bT p l e (headSpec w_x_prefix ({ frames := 5 + d, cells := 0, slots := 0, locals := 113 + 31 * d })).room s m #[.ref (a 0)] below meth c dC dI cy a A (qI dC dI cy a A below #[.ref (a 0)] s) 3 (x_GE k d 10 10) (fun L => [(0, .ref (a 0)), (1, .int (L 1)), (2, .int (L 2))]) 156 (fun L => [])) ∧ (bT p l e (headSpec w_x_prefix ({ frames := 5 + d, cells := 0, slots := 0, locals := 113 + 31 * d })).room s m #[.ref (a 0)] below meth c dC dI cy a A (qI dC dI cy a A below #[.ref (a 0)] s) 3 (x_GE k d 10 11) (fun L => [(0, .ref (a 0))]) 166 (fun L => [])) := by
    intro k
    induction k with
    | zero => exact fun _ => ⟨fun L σ r h => (by cases h), fun L σ r h => (by cases h), fun L σ r h => (by cases h), fun L σ r h => (by cases h), fun L σ r h => (by cases h), fun L σ r h => (by cases h), fun L σ r h => (by cases h), fun L σ r h => (by cases h), fun L σ r h => (by cases h), fun L σ r h => (by cases h), fun L σ r h => (by cases h), fun L σ r h => (by cases h)⟩
    | succ k ih =>
      intro hk
      replace ih := ih (by omega)
      refine ⟨?_, ?_, ?_, ?_, ?_, ?_, ?_, ?_, ?_, ?_, ?_, ?_⟩
      · intro L σ r h H locs ls hP hD hS hl
        rw [x_GE_10, s_prefix_0] at h
        refine lv_aload_n hx hb dX12_prefix_0 rfl (lv_at hl 0 rfl) ?_
        refine ng_10 hx hb hts in_x_prefix hown hK hP (hts _ (List.mem_cons_of_mem _ (List.mem_append_left _ (List.mem_append_left _ (List.mem_of_getElem? (i := 24) rfl))))) dX12_prefix_1 ?_
        refine lv_if_eq (tgt := 9) hx hb dX12_prefix_4 (by decide) (fun c1 => ?_) (fun c1 => ?_)
        · rw [if_pos c1] at h
          exact ih.2.1 L σ r h H locs ls hP hD hS (lv_sub hl [0] rfl)
        · rw [if_neg c1] at h
          refine lv_iconst (v := 0) hx hb dX12_prefix_7 (by decide) ?_
          cases h
          exact W.iret (v := 0) hx hb hr (fun t ht hW => ⟨⟨0, (), rfl, rfl, by rw [ht]; exact hP, va_K.moved hW.alike hK, hD⟩, hS.F ht⟩) hS.2.2 dX12_prefix_8
      · intro L σ r h H locs ls hP hD hS hl
        rw [x_GE_10, s_prefix_1] at h
        refine lv_aload_n hx hb dX12_prefix_9 rfl (lv_at hl 0 rfl) ?_
        refine lv_iconst (v := 3) hx hb dX12_prefix_10 (by decide) ?_
        obtain ⟨r1, hc1, h⟩ := ob_ex h
        refine nc_Vi (As := [.int 3]) (rest := []) ⟨hx, hb, hml, hown, hts⟩ (c_x_isSign l dC dI cy a k (upd (fun _ => 0) 1 3) σ r1 hc1 H.size) (cwV 1 hts g_x_prefix_isSign_65 rfl rfl rfl hd_x_isSign (by show 0 + 1 ≤ 5 + d ∧ 8 + (2 + 11) + 0 ≤ 113 + 31 * d; omega)) hK hG hA hP hD hS rfl hl.1 rfl (Nat.le_of_ble_eq_true rfl) dX12_prefix_11 ⟨Nat.le_refl _, Nat.le_refl _⟩ (fun H locs hP hD hS => ?_)
        refine lv_if_ne (tgt := 26) hx hb dX12_prefix_14 (by decide) (fun c2 => ?_) (fun c2 => ?_)
        · rw [if_neg c2] at h
          exact ih.2.2.1 L r1.2 r h H locs ls hP hD hS (lv_sub hl [0] rfl)
        · rw [if_pos c2] at h
          refine lv_aload_n hx hb dX12_prefix_17 rfl (lv_at hl 0 rfl) ?_
          refine lv_bipush (v := 23) hx hb dX12_prefix_18 (by decide) ?_
          obtain ⟨r3, hc3, h⟩ := ob_ex h
          refine nc_Vi (As := [.int 23]) (rest := []) ⟨hx, hb, hml, hown, hts⟩ (c_x_isSign l dC dI cy a k (upd (fun _ => 0) 1 23) r1.2 r3 hc3 H.size) (cwV 1 hts g_x_prefix_isSign_65 rfl rfl rfl hd_x_isSign (by show 0 + 1 ≤ 5 + d ∧ 8 + (2 + 11) + 0 ≤ 113 + 31 * d; omega)) hK hG hA hP hD hS rfl hl.1 rfl (Nat.le_of_ble_eq_true rfl) dX12_prefix_20 ⟨Nat.le_refl _, Nat.le_refl _⟩ (fun H locs hP hD hS => ?_)
          refine lv_if_eq (tgt := 81) hx hb dX12_prefix_23 (by decide) (fun c4 => ?_) (fun c4 => ?_)
          · rw [if_pos c4] at h
            exact ih.2.2.2.2.2.2.2.1 L r3.2 r h H locs ls hP hD hS (lv_sub hl [0] rfl)
          · rw [if_neg c4] at h
            exact ih.2.2.1 L r3.2 r h H locs ls hP hD hS (lv_sub hl [0] rfl)
      · intro L σ r h H locs ls hP hD hS hl
        rw [x_GE_10, s_prefix_2] at h
        refine lv_aload_n hx hb dX12_prefix_26 rfl (lv_at hl 0 rfl) ?_
        refine lv_iconst (v := 3) hx hb dX12_prefix_27 (by decide) ?_
        obtain ⟨r1, hc1, h⟩ := ob_ex h
        refine nc_Vi (As := [.int 3]) (rest := []) ⟨hx, hb, hml, hown, hts⟩ (c_x_isSign l dC dI cy a k (upd (fun _ => 0) 1 3) σ r1 hc1 H.size) (cwV 1 hts g_x_prefix_isSign_65 rfl rfl rfl hd_x_isSign (by show 0 + 1 ≤ 5 + d ∧ 8 + (2 + 11) + 0 ≤ 113 + 31 * d; omega)) hK hG hA hP hD hS rfl hl.1 rfl (Nat.le_of_ble_eq_true rfl) dX12_prefix_28 ⟨Nat.le_refl _, Nat.le_refl _⟩ (fun H locs hP hD hS => ?_)
        refine lv_if_eq (tgt := 39) hx hb dX12_prefix_31 (by decide) (fun c2 => ?_) (fun c2 => ?_)
        · rw [if_pos c2] at h
          exact ih.2.2.2.1 L r1.2 r h H locs ls hP hD hS (lv_sub hl [0] rfl)
        · rw [if_neg c2] at h
          refine lv_bipush (v := 17) hx hb dX12_prefix_34 (by decide) ?_
          refine lv_goto (tgt := 41) hx hb dX12_prefix_36 (by decide) ?_
          exact ih.2.2.2.2.1 (upd L 100 17) r1.2 r h H locs ls hP hD hS (lv_sub hl [0] rfl)
      · intro L σ r h H locs ls hP hD hS hl
        rw [x_GE_10, s_prefix_3] at h
        refine lv_bipush (v := 18) hx hb dX12_prefix_39 (by decide) ?_
        exact ih.2.2.2.2.1 (upd L 100 18) σ r h H locs ls hP hD hS (lv_sub hl [0] rfl)
      · intro L σ r h H locs ls hP hD hS hl
        rw [x_GE_10, s_prefix_4] at h
        refine lv_istore_n (lv' := [(1, .int (L 100)), (0, .ref (a 0))]) hx hb dX12_prefix_41 rfl hl (by decide) rfl (fun ls hl => ?_)
        refine lv_aload_n hx hb dX12_prefix_42 rfl (lv_at hl 1 rfl) ?_
        obtain ⟨r1, hc1, h⟩ := ob_ex h
        refine nc_Vv (As := []) (rest := []) ⟨hx, hb, hml, hown, hts⟩ (c_x_open l dC dI cy a k (fun _ => 0) σ r1 hc1 H.size) (cwV 0 hts g_x_prefix_open_177 rfl rfl rfl hd_x_open (by show 1 + 1 ≤ 5 + d ∧ 8 + (1 + 11) + 22 ≤ 113 + 31 * d; omega)) hK hG hA hP hD hS rfl hl.1 rfl (Nat.le_of_ble_eq_true rfl) dX12_prefix_43 ⟨Nat.le_refl _, Nat.le_refl _⟩ (fun H locs hP hD hS => ?_)
        refine lv_aload_n hx hb dX12_prefix_46 rfl (lv_at hl 1 rfl) ?_
        refine ng_10 hx hb hts in_x_prefix hown hK hP (hts _ (List.mem_cons_of_mem _ (List.mem_append_left _ (List.mem_append_left _ (List.mem_of_getElem? (i := 24) rfl))))) dX12_prefix_47 ?_
        refine lv_if_ne (tgt := 57) hx hb dX12_prefix_50 (by decide) (fun c2 => ?_) (fun c2 => ?_)
        · rw [if_neg c2] at h
          exact ih.2.2.2.2.2.1 (upd L 1 ((L 100))) r1.2 r h H locs ls hP hD hS (lv_sub hl [1, 0] rfl)
        · rw [if_pos c2] at h
          refine lv_aload_n hx hb dX12_prefix_53 rfl (lv_at hl 1 rfl) ?_
          obtain ⟨r3, hc3, h⟩ := ob_ex h
          refine nc_Vv (As := []) (rest := []) ⟨hx, hb, hml, hown, hts⟩ (c_x_take l dC dI cy a k (fun _ => 0) r1.2 r3 hc3 H.size) (cwV 0 hts g_x_prefix_take_71 rfl rfl rfl hd_x_take (by show 2 + 1 ≤ 5 + d ∧ 8 + (2 + 11) + 43 ≤ 113 + 31 * d; omega)) hK hG hA hP hD hS rfl hl.1 rfl (Nat.le_of_ble_eq_true rfl) dX12_prefix_54 ⟨Nat.le_refl _, Nat.le_refl _⟩ (fun H locs hP hD hS => ?_)
          exact ih.2.2.2.2.2.1 (upd L 1 ((L 100))) r3.2 r h H locs ls hP hD hS (lv_sub hl [1, 0] rfl)
      · intro L σ r h H locs ls hP hD hS hl
        rw [x_GE_10, s_prefix_5] at h
        refine lv_aload_n hx hb dX12_prefix_57 rfl (lv_at hl 0 rfl) ?_
        obtain ⟨e1, he1, h⟩ := od_ex h
        obtain ⟨r1, hc1, h⟩ := ob_ex h
        refine nc_Vi (As := []) (rest := []) ⟨hx, hb, hml, hown, hts⟩ ((IH k (by omega)).2.2.2.2.2.2.2.2.2.2.1 e1 (fun _ => 0) σ r1 hc1 H.size) (cwV 0 hts g_x_prefix_prefix_196 rfl rfl rfl hd_x_prefix (by show (5 + e1) + 1 ≤ 5 + d ∧ 8 + (3 + 11) + (113 + 31 * e1) ≤ 113 + 31 * d; omega)) hK hG hA hP hD hS rfl hl.1 rfl (Nat.le_of_ble_eq_true rfl) dX12_prefix_58 ⟨Nat.le_refl _, Nat.le_refl _⟩ (fun H locs hP hD hS => ?_)
        refine lv_istore_n (lv' := [(2, .int r1.1), (0, .ref (a 0)), (1, .int (L 1))]) hx hb dX12_prefix_61 rfl hl (by decide) rfl (fun ls hl => ?_)
        refine lv_aload_n hx hb dX12_prefix_62 rfl (lv_at hl 1 rfl) ?_
        refine lv_dup hx hb dX12_prefix_63 rfl ?_
        refine ng_13 hx hb hts in_x_prefix hown hK hP (hts _ (List.mem_cons_of_mem _ (List.mem_append_left _ (List.mem_append_left _ (List.mem_of_getElem? (i := 50) rfl))))) dX12_prefix_64 ?_
        refine lv_iconst (v := 1) hx hb dX12_prefix_67 (by decide) ?_
        refine lv_isub hx hb dX12_prefix_68 ?_
        refine np_13 hx hb hts in_x_prefix hown hK hP hD hS (hts _ (List.mem_cons_of_mem _ (List.mem_append_left _ (List.mem_append_left _ (List.mem_of_getElem? (i := 50) rfl))))) dX12_prefix_69 (fun H locs hP hD hS => ?_)
        exact ih.2.2.2.2.2.2.1 (upd L 2 r1.1) (upd r1.2.1 13 ((((r1.2.1 13)) - 1)), r1.2.2.1, r1.2.2.2) r h H locs ls hP hD hS (lv_sub hl [1, 2, 0] rfl)
      · intro L σ r h H locs ls hP hD hS hl
        rw [x_GE_10, s_prefix_6] at h
        refine lv_aload_n hx hb dX12_prefix_72 rfl (lv_at hl 0 rfl) ?_
        refine lv_iload_n hx hb dX12_prefix_73 rfl (lv_at hl 1 rfl) ?_
        refine lv_iconst (v := 0) hx hb dX12_prefix_74 (by decide) ?_
        refine lv_iload_n hx hb dX12_prefix_75 rfl (lv_at hl 2 rfl) ?_
        refine lv_iconst (v := 0) hx hb dX12_prefix_76 (by decide) ?_
        obtain ⟨r1, hc1, h⟩ := ob_ex h
        refine nc_Vi (As := [.int (L 1), .int 0, .int (L 2), .int 0]) (rest := []) ⟨hx, hb, hml, hown, hts⟩ (c_x_node l dC dI cy a k (upd (upd (upd (upd (fun _ => 0) 1 ((L 1))) 2 0) 3 ((L 2))) 4 0) σ r1 hc1 H.size) (cwV 4 hts g_x_prefix_node_101 rfl rfl rfl hd_x_node (by show 0 + 1 ≤ 5 + d ∧ 8 + (6 + 11) + 0 ≤ 113 + 31 * d; omega)) hK hG hA hP hD hS rfl hl.1 rfl (Nat.le_of_ble_eq_true rfl) dX12_prefix_77 ⟨Nat.le_refl _, Nat.le_refl _⟩ (fun H locs hP hD hS => ?_)
        cases h
        exact W.iret (v := r1.1) hx hb hr (fun t ht hW => ⟨⟨r1.1, (), rfl, rfl, by rw [ht]; exact hP, va_K.moved hW.alike hK, hD⟩, hS.F ht⟩) hS.2.2 dX12_prefix_80
      · intro L σ r h H locs ls hP hD hS hl
        rw [x_GE_10, s_prefix_7] at h
        refine lv_aload_n hx hb dX12_prefix_81 rfl (lv_at hl 0 rfl) ?_
        refine lv_iconst (v := 2) hx hb dX12_prefix_82 (by decide) ?_
        obtain ⟨r1, hc1, h⟩ := ob_ex h
        refine nc_Vi (As := [.int 2]) (rest := []) ⟨hx, hb, hml, hown, hts⟩ (c_x_isSign l dC dI cy a k (upd (fun _ => 0) 1 2) σ r1 hc1 H.size) (cwV 1 hts g_x_prefix_isSign_65 rfl rfl rfl hd_x_isSign (by show 0 + 1 ≤ 5 + d ∧ 8 + (2 + 11) + 0 ≤ 113 + 31 * d; omega)) hK hG hA hP hD hS rfl hl.1 rfl (Nat.le_of_ble_eq_true rfl) dX12_prefix_83 ⟨Nat.le_refl _, Nat.le_refl _⟩ (fun H locs hP hD hS => ?_)
        refine lv_if_ne (tgt := 115) hx hb dX12_prefix_86 (by decide) (fun c2 => ?_) (fun c2 => ?_)
        · rw [if_neg c2] at h
          exact ih.2.2.2.2.2.2.2.2.1 L r1.2 r h H locs ls hP hD hS (lv_sub hl [0] rfl)
        · rw [if_pos c2] at h
          refine lv_aload_n hx hb dX12_prefix_89 rfl (lv_at hl 0 rfl) ?_
          refine lv_iconst (v := 4) hx hb dX12_prefix_90 (by decide) ?_
          obtain ⟨r3, hc3, h⟩ := ob_ex h
          refine nc_Vi (As := [.int 4]) (rest := []) ⟨hx, hb, hml, hown, hts⟩ (c_x_isSign l dC dI cy a k (upd (fun _ => 0) 1 4) r1.2 r3 hc3 H.size) (cwV 1 hts g_x_prefix_isSign_65 rfl rfl rfl hd_x_isSign (by show 0 + 1 ≤ 5 + d ∧ 8 + (2 + 11) + 0 ≤ 113 + 31 * d; omega)) hK hG hA hP hD hS rfl hl.1 rfl (Nat.le_of_ble_eq_true rfl) dX12_prefix_91 ⟨Nat.le_refl _, Nat.le_refl _⟩ (fun H locs hP hD hS => ?_)
          refine lv_if_ne (tgt := 115) hx hb dX12_prefix_94 (by decide) (fun c4 => ?_) (fun c4 => ?_)
          · rw [if_neg c4] at h
            exact ih.2.2.2.2.2.2.2.2.1 L r3.2 r h H locs ls hP hD hS (lv_sub hl [0] rfl)
          · rw [if_pos c4] at h
            refine lv_aload_n hx hb dX12_prefix_97 rfl (lv_at hl 0 rfl) ?_
            refine lv_bipush (v := 49) hx hb dX12_prefix_98 (by decide) ?_
            obtain ⟨r5, hc5, h⟩ := ob_ex h
            refine nc_Vi (As := [.int 49]) (rest := []) ⟨hx, hb, hml, hown, hts⟩ (c_x_isWord l dC dI cy a k (upd (fun _ => 0) 1 49) r3.2 r5 hc5 H.size) (cwV 1 hts g_x_prefix_isWord_74 rfl rfl rfl hd_x_isWord (by show 0 + 1 ≤ 5 + d ∧ 8 + (2 + 11) + 0 ≤ 113 + 31 * d; omega)) hK hG hA hP hD hS rfl hl.1 rfl (Nat.le_of_ble_eq_true rfl) dX12_prefix_100 ⟨Nat.le_refl _, Nat.le_refl _⟩ (fun H locs hP hD hS => ?_)
            refine lv_if_ne (tgt := 115) hx hb dX12_prefix_103 (by decide) (fun c6 => ?_) (fun c6 => ?_)
            · rw [if_neg c6] at h
              exact ih.2.2.2.2.2.2.2.2.1 L r5.2 r h H locs ls hP hD hS (lv_sub hl [0] rfl)
            · rw [if_pos c6] at h
              refine lv_aload_n hx hb dX12_prefix_106 rfl (lv_at hl 0 rfl) ?_
              refine lv_bipush (v := 48) hx hb dX12_prefix_107 (by decide) ?_
              obtain ⟨r7, hc7, h⟩ := ob_ex h
              refine nc_Vi (As := [.int 48]) (rest := []) ⟨hx, hb, hml, hown, hts⟩ (c_x_isWord l dC dI cy a k (upd (fun _ => 0) 1 48) r5.2 r7 hc7 H.size) (cwV 1 hts g_x_prefix_isWord_74 rfl rfl rfl hd_x_isWord (by show 0 + 1 ≤ 5 + d ∧ 8 + (2 + 11) + 0 ≤ 113 + 31 * d; omega)) hK hG hA hP hD hS rfl hl.1 rfl (Nat.le_of_ble_eq_true rfl) dX12_prefix_109 ⟨Nat.le_refl _, Nat.le_refl _⟩ (fun H locs hP hD hS => ?_)
              refine lv_if_eq (tgt := 166) hx hb dX12_prefix_112 (by decide) (fun c8 => ?_) (fun c8 => ?_)
              · rw [if_pos c8] at h
                exact ih.2.2.2.2.2.2.2.2.2.2.2 L r7.2 r h H locs ls hP hD hS (lv_sub hl [0] rfl)
              · rw [if_neg c8] at h
                exact ih.2.2.2.2.2.2.2.2.1 L r7.2 r h H locs ls hP hD hS (lv_sub hl [0] rfl)
      · intro L σ r h H locs ls hP hD hS hl
        rw [x_GE_10, s_prefix_8] at h
        refine lv_aload_n hx hb dX12_prefix_115 rfl (lv_at hl 0 rfl) ?_
        obtain ⟨r1, hc1, h⟩ := ob_ex h
        refine nc_Vi (As := []) (rest := []) ⟨hx, hb, hml, hown, hts⟩ (c_x_operator l dC dI cy a k (fun _ => 0) σ r1 hc1 H.size) (cwV 0 hts g_x_prefix_operator_187 rfl rfl rfl hd_x_operator (by show 0 + 1 ≤ 5 + d ∧ 8 + (1 + 11) + 0 ≤ 113 + 31 * d; omega)) hK hG hA hP hD hS rfl hl.1 rfl (Nat.le_of_ble_eq_true rfl) dX12_prefix_116 ⟨Nat.le_refl _, Nat.le_refl _⟩ (fun H locs hP hD hS => ?_)
        refine lv_istore_n (lv' := [(1, .int r1.1), (0, .ref (a 0))]) hx hb dX12_prefix_119 rfl hl (by decide) rfl (fun ls hl => ?_)
        refine lv_aload_n hx hb dX12_prefix_120 rfl (lv_at hl 1 rfl) ?_
        obtain ⟨r2, hc2, h⟩ := ob_ex h
        refine nc_Vv (As := []) (rest := []) ⟨hx, hb, hml, hown, hts⟩ (c_x_open l dC dI cy a k (fun _ => 0) r1.2 r2 hc2 H.size) (cwV 0 hts g_x_prefix_open_177 rfl rfl rfl hd_x_open (by show 1 + 1 ≤ 5 + d ∧ 8 + (1 + 11) + 22 ≤ 113 + 31 * d; omega)) hK hG hA hP hD hS rfl hl.1 rfl (Nat.le_of_ble_eq_true rfl) dX12_prefix_121 ⟨Nat.le_refl _, Nat.le_refl _⟩ (fun H locs hP hD hS => ?_)
        refine lv_aload_n hx hb dX12_prefix_124 rfl (lv_at hl 1 rfl) ?_
        refine ng_10 hx hb hts in_x_prefix hown hK hP (hts _ (List.mem_cons_of_mem _ (List.mem_append_left _ (List.mem_append_left _ (List.mem_of_getElem? (i := 24) rfl))))) dX12_prefix_125 ?_
        refine lv_if_ne (tgt := 135) hx hb dX12_prefix_128 (by decide) (fun c3 => ?_) (fun c3 => ?_)
        · rw [if_neg c3] at h
          exact ih.2.2.2.2.2.2.2.2.2.1 (upd L 1 r1.1) r2.2 r h H locs ls hP hD hS (lv_sub hl [1, 0] rfl)
        · rw [if_pos c3] at h
          refine lv_aload_n hx hb dX12_prefix_131 rfl (lv_at hl 1 rfl) ?_
          obtain ⟨r4, hc4, h⟩ := ob_ex h
          refine nc_Vv (As := []) (rest := []) ⟨hx, hb, hml, hown, hts⟩ (c_x_take l dC dI cy a k (fun _ => 0) r2.2 r4 hc4 H.size) (cwV 0 hts g_x_prefix_take_71 rfl rfl rfl hd_x_take (by show 2 + 1 ≤ 5 + d ∧ 8 + (2 + 11) + 43 ≤ 113 + 31 * d; omega)) hK hG hA hP hD hS rfl hl.1 rfl (Nat.le_of_ble_eq_true rfl) dX12_prefix_132 ⟨Nat.le_refl _, Nat.le_refl _⟩ (fun H locs hP hD hS => ?_)
          exact ih.2.2.2.2.2.2.2.2.2.1 (upd L 1 r1.1) r4.2 r h H locs ls hP hD hS (lv_sub hl [1, 0] rfl)
      · intro L σ r h H locs ls hP hD hS hl
        rw [x_GE_10, s_prefix_9] at h
        refine lv_aload_n hx hb dX12_prefix_135 rfl (lv_at hl 0 rfl) ?_
        refine lv_bipush (v := 24) hx hb dX12_prefix_136 (by decide) ?_
        obtain ⟨r1, hc1, h⟩ := ob_ex h
        refine nc_Vv (As := [.int 24]) (rest := []) ⟨hx, hb, hml, hown, hts⟩ (c_x_want l dC dI cy a k (upd (fun _ => 0) 1 24) σ r1 hc1 H.size) (cwV 1 hts g_x_prefix_want_199 rfl rfl rfl hd_x_want (by show 3 + 1 ≤ 5 + d ∧ 8 + (2 + 11) + 64 ≤ 113 + 31 * d; omega)) hK hG hA hP hD hS rfl hl.1 rfl (Nat.le_of_ble_eq_true rfl) dX12_prefix_138 ⟨Nat.le_refl _, Nat.le_refl _⟩ (fun H locs hP hD hS => ?_)
        refine lv_aload_n hx hb dX12_prefix_141 rfl (lv_at hl 0 rfl) ?_
        obtain ⟨e2, he2, h⟩ := od_ex h
        obtain ⟨r2, hc2, h⟩ := ob_ex h
        refine nc_Vi (As := []) (rest := []) ⟨hx, hb, hml, hown, hts⟩ ((IH k (by omega)).2.2.2.2.2.2.2.2.2.2.1 e2 (fun _ => 0) r1.2 r2 hc2 H.size) (cwV 0 hts g_x_prefix_prefix_196 rfl rfl rfl hd_x_prefix (by show (5 + e2) + 1 ≤ 5 + d ∧ 8 + (3 + 11) + (113 + 31 * e2) ≤ 113 + 31 * d; omega)) hK hG hA hP hD hS rfl hl.1 rfl (Nat.le_of_ble_eq_true rfl) dX12_prefix_142 ⟨Nat.le_refl _, Nat.le_refl _⟩ (fun H locs hP hD hS => ?_)
        refine lv_istore_n (lv' := [(2, .int r2.1), (0, .ref (a 0)), (1, .int (L 1))]) hx hb dX12_prefix_145 rfl hl (by decide) rfl (fun ls hl => ?_)
        refine lv_aload_n hx hb dX12_prefix_146 rfl (lv_at hl 1 rfl) ?_
        refine lv_dup hx hb dX12_prefix_147 rfl ?_
        refine ng_13 hx hb hts in_x_prefix hown hK hP (hts _ (List.mem_cons_of_mem _ (List.mem_append_left _ (List.mem_append_left _ (List.mem_of_getElem? (i := 50) rfl))))) dX12_prefix_148 ?_
        refine lv_iconst (v := 1) hx hb dX12_prefix_151 (by decide) ?_
        refine lv_isub hx hb dX12_prefix_152 ?_
        refine np_13 hx hb hts in_x_prefix hown hK hP hD hS (hts _ (List.mem_cons_of_mem _ (List.mem_append_left _ (List.mem_append_left _ (List.mem_of_getElem? (i := 50) rfl))))) dX12_prefix_153 (fun H locs hP hD hS => ?_)
        exact ih.2.2.2.2.2.2.2.2.2.2.1 (upd L 2 r2.1) (upd r2.2.1 13 ((((r2.2.1 13)) - 1)), r2.2.2.1, r2.2.2.2) r h H locs ls hP hD hS (lv_sub hl [1, 2, 0] rfl)
      · intro L σ r h H locs ls hP hD hS hl
        rw [x_GE_10, s_prefix_10] at h
        refine lv_aload_n hx hb dX12_prefix_156 rfl (lv_at hl 0 rfl) ?_
        refine lv_bipush (v := 20) hx hb dX12_prefix_157 (by decide) ?_
        refine lv_iload_n hx hb dX12_prefix_159 rfl (lv_at hl 1 rfl) ?_
        refine lv_iload_n hx hb dX12_prefix_160 rfl (lv_at hl 2 rfl) ?_
        refine lv_iconst (v := 0) hx hb dX12_prefix_161 (by decide) ?_
        obtain ⟨r1, hc1, h⟩ := ob_ex h
        refine nc_Vi (As := [.int 20, .int (L 1), .int (L 2), .int 0]) (rest := []) ⟨hx, hb, hml, hown, hts⟩ (c_x_node l dC dI cy a k (upd (upd (upd (upd (fun _ => 0) 1 20) 2 ((L 1))) 3 ((L 2))) 4 0) σ r1 hc1 H.size) (cwV 4 hts g_x_prefix_node_101 rfl rfl rfl hd_x_node (by show 0 + 1 ≤ 5 + d ∧ 8 + (6 + 11) + 0 ≤ 113 + 31 * d; omega)) hK hG hA hP hD hS rfl hl.1 rfl (Nat.le_of_ble_eq_true rfl) dX12_prefix_162 ⟨Nat.le_refl _, Nat.le_refl _⟩ (fun H locs hP hD hS => ?_)
        cases h
        exact W.iret (v := r1.1) hx hb hr (fun t ht hW => ⟨⟨r1.1, (), rfl, rfl, by rw [ht]; exact hP, va_K.moved hW.alike hK, hD⟩, hS.F ht⟩) hS.2.2 dX12_prefix_165
      · intro L σ r h H locs ls hP hD hS hl
        rw [x_GE_10, s_prefix_11] at h
        refine lv_aload_n hx hb dX12_prefix_166 rfl (lv_at hl 0 rfl) ?_
        refine lv_aload_n hx hb dX12_prefix_167 rfl (lv_at hl 0 rfl) ?_
        obtain ⟨e1, he1, h⟩ := od_ex h
        obtain ⟨r1, hc1, h⟩ := ob_ex h
        refine nc_Vi (As := []) (rest := [.ref (a 0)]) ⟨hx, hb, hml, hown, hts⟩ ((IH k (by omega)).2.2.2.2.2.2.2.2.2.2.2.1 e1 (fun _ => 0) σ r1 hc1 H.size) (cwV 0 hts g_x_prefix_primary_203 rfl rfl rfl hd_x_primary (by show (5 + e1) + 1 ≤ 5 + d ∧ 8 + (3 + 11) + (113 + 31 * e1) ≤ 113 + 31 * d; omega)) hK hG hA hP hD hS rfl hl.1 rfl (Nat.le_of_ble_eq_true rfl) dX12_prefix_168 ⟨Nat.le_refl _, Nat.le_refl _⟩ (fun H locs hP hD hS => ?_)
        obtain ⟨e2, he2, h⟩ := od_ex h
        obtain ⟨r2, hc2, h⟩ := ob_ex h
        refine nc_Vi (As := [.int r1.1]) (rest := []) ⟨hx, hb, hml, hown, hts⟩ ((IH k (by omega)).2.2.2.2.2.2.2.2.1 e2 (upd (fun _ => 0) 1 r1.1) r1.2 r2 hc2 H.size) (cwV 1 hts g_x_prefix_parts_206 rfl rfl rfl hd_x_parts (by show (5 + e2) + 1 ≤ 5 + d ∧ 8 + (6 + 11) + (113 + 31 * e2) ≤ 113 + 31 * d; omega)) hK hG hA hP hD hS rfl hl.1 rfl (Nat.le_of_ble_eq_true rfl) dX12_prefix_171 ⟨Nat.le_refl _, Nat.le_refl _⟩ (fun H locs hP hD hS => ?_)
        cases h
        exact W.iret (v := r2.1) hx hb hr (fun t ht hW => ⟨⟨r2.1, (), rfl, rfl, by rw [ht]; exact hP, va_K.moved hW.alike hK, hD⟩, hS.F ht⟩) hS.2.2 dX12_prefix_174
  exact (blk k0 (Nat.le_refl _)).1 L0 σ0 r0 h0 s.heap [] ls hP hD hS hl

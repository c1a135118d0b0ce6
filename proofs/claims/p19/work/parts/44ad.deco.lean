theorem gg_x_brackets_exp : GoodIn w_x_brackets w_x_exp := goodIn_sub (fun w h => (List.mem_cons.mp h).elim (fun e => e ▸ (List.mem_cons_of_mem _ (List.mem_append_left _ (List.mem_append_left _ (List.mem_of_getElem? (i := 3) rfl))))) (fun h => List.mem_cons_of_mem _ h)) w_x_exp_good
theorem g_x_brackets_exp_209 : GoodIn w_x_brackets (wsV RX12 209 RX12 yX12_exp w_x_exp) := goodIn_app (nb_g4 (List.mem_cons_of_mem _ (List.mem_append_left _ (List.mem_append_left _ (List.mem_of_getElem? (i := 38) rfl)))) (List.mem_cons_of_mem _ (List.mem_append_left _ (List.mem_append_left _ (List.mem_of_getElem? (i := 39) rfl)))) (List.mem_cons_of_mem _ (List.mem_append_left _ (List.mem_append_left _ (List.mem_of_getElem? (i := 40) rfl)))) (List.mem_cons_of_mem _ (List.mem_append_left _ (List.mem_append_left _ (List.mem_of_getElem? (i := 20) rfl)))) (by decide +kernel)) gg_x_brackets_exp
theorem gg_x_brackets_isSign : GoodIn w_x_brackets w_x_isSign := goodIn_sub (fun w h => (List.mem_cons.mp h).elim (fun e => (List.mem_cons_of_mem _ (List.mem_append_left _ (List.mem_append_right _ (List.mem_append_left _ (List.mem_cons.mpr (Or.inl e))))))) (fun h => (List.mem_append.mp h).elim (fun h => (List.mem_cons_of_mem _ (List.mem_append_left _ (List.mem_append_right _ (List.mem_append_left _ (List.mem_cons_of_mem _ h)))))) (fun h => List.mem_cons_of_mem _ (List.mem_append_right _ h)))) w_x_isSign_good
theorem g_x_brackets_isSign_65 : GoodIn w_x_brackets (wsV RX12 65 RX12 yX12_isSign w_x_isSign) := goodIn_app (nb_g4 (List.mem_cons_of_mem _ (List.mem_append_left _ (List.mem_append_left _ (List.mem_of_getElem? (i := 17) rfl)))) (List.mem_cons_of_mem _ (List.mem_append_left _ (List.mem_append_left _ (List.mem_of_getElem? (i := 18) rfl)))) (List.mem_cons_of_mem _ (List.mem_append_left _ (List.mem_append_left _ (List.mem_of_getElem? (i := 19) rfl)))) (List.mem_cons_of_mem _ (List.mem_append_left _ (List.mem_append_left _ (List.mem_of_getElem? (i := 20) rfl)))) (by decide +kernel)) gg_x_brackets_isSign
theorem gg_x_brackets_isWord : GoodIn w_x_brackets w_x_isWord := goodIn_sub (fun w h => (List.mem_cons.mp h).elim (fun e => (List.mem_cons_of_mem _ (List.mem_append_left _ (List.mem_append_right _ (List.mem_append_right _ (List.mem_append_right _ (List.mem_append_right _ (List.mem_append_right _ (List.mem_append_left _ (List.mem_cons.mpr (Or.inl e))))))))))) (fun h => (List.mem_append.mp h).elim (fun h => (List.mem_cons_of_mem _ (List.mem_append_left _ (List.mem_append_right _ (List.mem_append_right _ (List.mem_append_right _ (List.mem_append_right _ (List.mem_append_right _ (List.mem_append_left _ (List.mem_cons_of_mem _ h)))))))))) (fun h => List.mem_cons_of_mem _ (List.mem_append_right _ h)))) w_x_isWord_good
theorem g_x_brackets_isWord_74 : GoodIn w_x_brackets (wsV RX12 74 RX12 yX12_isWord w_x_isWord) := goodIn_app (nb_g4 (List.mem_cons_of_mem _ (List.mem_append_left _ (List.mem_append_left _ (List.mem_of_getElem? (i := 31) rfl)))) (List.mem_cons_of_mem _ (List.mem_append_left _ (List.mem_append_left _ (List.mem_of_getElem? (i := 32) rfl)))) (List.mem_cons_of_mem _ (List.mem_append_left _ (List.mem_append_left _ (List.mem_of_getElem? (i := 33) rfl)))) (List.mem_cons_of_mem _ (List.mem_append_left _ (List.mem_append_left _ (List.mem_of_getElem? (i := 20) rfl)))) (by decide +kernel)) gg_x_brackets_isWord
theorem gg_x_brackets_iters : GoodIn w_x_brackets w_x_iters := goodIn_sub (fun w h => (List.mem_cons.mp h).elim (fun e => e ▸ (List.mem_cons_of_mem _ (List.mem_append_left _ (List.mem_append_left _ (List.mem_of_getElem? (i := 4) rfl))))) (fun h => List.mem_cons_of_mem _ h)) w_x_iters_good
theorem g_x_brackets_iters_246 : GoodIn w_x_brackets (wsV RX12 246 RX12 yX12_iters w_x_iters) := goodIn_app (nb_g4 (List.mem_cons_of_mem _ (List.mem_append_left _ (List.mem_append_left _ (List.mem_of_getElem? (i := 35) rfl)))) (List.mem_cons_of_mem _ (List.mem_append_left _ (List.mem_append_left _ (List.mem_of_getElem? (i := 36) rfl)))) (List.mem_cons_of_mem _ (List.mem_append_left _ (List.mem_append_left _ (List.mem_of_getElem? (i := 37) rfl)))) (List.mem_cons_of_mem _ (List.mem_append_left _ (List.mem_append_left _ (List.mem_of_getElem? (i := 20) rfl)))) (by decide +kernel)) gg_x_brackets_iters
theorem gg_x_brackets_listed : GoodIn w_x_brackets w_x_listed := goodIn_sub (fun w h => (List.mem_cons.mp h).elim (fun e => e ▸ (List.mem_cons_of_mem _ (List.mem_append_left _ (List.mem_append_left _ (List.mem_of_getElem? (i := 5) rfl))))) (fun h => List.mem_cons_of_mem _ h)) w_x_listed_good
theorem g_x_brackets_listed_250 : GoodIn w_x_brackets (wsV RX12 250 RX12 yX12_listed w_x_listed) := goodIn_app (nb_g4 (List.mem_cons_of_mem _ (List.mem_append_left _ (List.mem_append_left _ (List.mem_of_getElem? (i := 47) rfl)))) (List.mem_cons_of_mem _ (List.mem_append_left _ (List.mem_append_left _ (List.mem_of_getElem? (i := 48) rfl)))) (List.mem_cons_of_mem _ (List.mem_append_left _ (List.mem_append_left _ (List.mem_of_getElem? (i := 49) rfl)))) (List.mem_cons_of_mem _ (List.mem_append_left _ (List.mem_append_left _ (List.mem_of_getElem? (i := 20) rfl)))) (by decide +kernel)) gg_x_brackets_listed
theorem gg_x_brackets_node : GoodIn w_x_brackets w_x_node := goodIn_sub (fun w h => (List.mem_cons.mp h).elim (fun e => (List.mem_cons_of_mem _ (List.mem_append_left _ (List.mem_append_right _ (List.mem_append_right _ (List.mem_append_right _ (List.mem_append_right _ (List.mem_append_left _ (List.mem_cons.mpr (Or.inl e)))))))))) (fun h => (List.mem_append.mp h).elim (fun h => (List.mem_cons_of_mem _ (List.mem_append_left _ (List.mem_append_right _ (List.mem_append_right _ (List.mem_append_right _ (List.mem_append_right _ (List.mem_append_left _ (List.mem_cons_of_mem _ h))))))))) (fun h => List.mem_cons_of_mem _ (List.mem_append_right _ h)))) w_x_node_good
theorem g_x_brackets_node_101 : GoodIn w_x_brackets (wsV RX12 101 RX12 yX12_node w_x_node) := goodIn_app (nb_g4 (List.mem_cons_of_mem _ (List.mem_append_left _ (List.mem_append_left _ (List.mem_of_getElem? (i := 28) rfl)))) (List.mem_cons_of_mem _ (List.mem_append_left _ (List.mem_append_left _ (List.mem_of_getElem? (i := 29) rfl)))) (List.mem_cons_of_mem _ (List.mem_append_left _ (List.mem_append_left _ (List.mem_of_getElem? (i := 30) rfl)))) (List.mem_cons_of_mem _ (List.mem_append_left _ (List.mem_append_left _ (List.mem_of_getElem? (i := 20) rfl)))) (by decide +kernel)) gg_x_brackets_node
theorem gg_x_brackets_open : GoodIn w_x_brackets w_x_open := goodIn_sub (fun w h => (List.mem_cons.mp h).elim (fun e => (List.mem_cons_of_mem _ (List.mem_append_left _ (List.mem_append_right _ (List.mem_append_right _ (List.mem_append_left _ (List.mem_cons.mpr (Or.inl e)))))))) (fun h => (List.mem_append.mp h).elim (fun h => (List.mem_cons_of_mem _ (List.mem_append_left _ (List.mem_append_right _ (List.mem_append_right _ (List.mem_append_left _ (List.mem_cons_of_mem _ h))))))) (fun h => List.mem_cons_of_mem _ (List.mem_append_right _ h)))) w_x_open_good
theorem g_x_brackets_open_177 : GoodIn w_x_brackets (wsV RX12 177 RX12 yX12_open w_x_open) := goodIn_app (nb_g4 (List.mem_cons_of_mem _ (List.mem_append_left _ (List.mem_append_left _ (List.mem_of_getElem? (i := 21) rfl)))) (List.mem_cons_of_mem _ (List.mem_append_left _ (List.mem_append_left _ (List.mem_of_getElem? (i := 22) rfl)))) (List.mem_cons_of_mem _ (List.mem_append_left _ (List.mem_append_left _ (List.mem_of_getElem? (i := 23) rfl)))) (List.mem_cons_of_mem _ (List.mem_append_left _ (List.mem_append_left _ (List.mem_of_getElem? (i := 20) rfl)))) (by decide +kernel)) gg_x_brackets_open
theorem gg_x_brackets_take : GoodIn w_x_brackets w_x_take := goodIn_sub (fun w h => (List.mem_cons.mp h).elim (fun e => (List.mem_cons_of_mem _ (List.mem_append_left _ (List.mem_append_right _ (List.mem_append_right _ (List.mem_append_right _ (List.mem_append_left _ (List.mem_cons.mpr (Or.inl e))))))))) (fun h => (List.mem_append.mp h).elim (fun h => (List.mem_cons_of_mem _ (List.mem_append_left _ (List.mem_append_right _ (List.mem_append_right _ (List.mem_append_right _ (List.mem_append_left _ (List.mem_cons_of_mem _ h)))))))) (fun h => List.mem_cons_of_mem _ (List.mem_append_right _ h)))) w_x_take_good
theorem g_x_brackets_take_71 : GoodIn w_x_brackets (wsV RX12 71 RX12 yX12_take w_x_take) := goodIn_app (nb_g4 (List.mem_cons_of_mem _ (List.mem_append_left _ (List.mem_append_left _ (List.mem_of_getElem? (i := 25) rfl)))) (List.mem_cons_of_mem _ (List.mem_append_left _ (List.mem_append_left _ (List.mem_of_getElem? (i := 26) rfl)))) (List.mem_cons_of_mem _ (List.mem_append_left _ (List.mem_append_left _ (List.mem_of_getElem? (i := 27) rfl)))) (List.mem_cons_of_mem _ (List.mem_append_left _ (List.mem_append_left _ (List.mem_of_getElem? (i := 20) rfl)))) (by decide +kernel)) gg_x_brackets_take
theorem gg_x_brackets_want : GoodIn w_x_brackets w_x_want := goodIn_sub (fun w h => (List.mem_cons.mp h).elim (fun e => (List.mem_cons_of_mem _ (List.mem_append_left _ (List.mem_append_right _ (List.mem_append_right _ (List.mem_append_right _ (List.mem_append_right _ (List.mem_append_right _ (List.mem_append_right _ (List.mem_append_left _ (List.mem_cons.mpr (Or.inl e)))))))))))) (fun h => (List.mem_append.mp h).elim (fun h => (List.mem_cons_of_mem _ (List.mem_append_left _ (List.mem_append_right _ (List.mem_append_right _ (List.mem_append_right _ (List.mem_append_right _ (List.mem_append_right _ (List.mem_append_right _ (List.mem_append_left _ (List.mem_cons_of_mem _ h))))))))))) (fun h => List.mem_cons_of_mem _ (List.mem_append_right _ h)))) w_x_want_good
theorem g_x_brackets_want_199 : GoodIn w_x_brackets (wsV RX12 199 RX12 yX12_want w_x_want) := goodIn_app (nb_g4 (List.mem_cons_of_mem _ (List.mem_append_left _ (List.mem_append_left _ (List.mem_of_getElem? (i := 41) rfl)))) (List.mem_cons_of_mem _ (List.mem_append_left _ (List.mem_append_left _ (List.mem_of_getElem? (i := 42) rfl)))) (List.mem_cons_of_mem _ (List.mem_append_left _ (List.mem_append_left _ (List.mem_of_getElem? (i := 43) rfl)))) (List.mem_cons_of_mem _ (List.mem_append_left _ (List.mem_append_left _ (List.mem_of_getElem? (i := 20) rfl)))) (by decide +kernel)) gg_x_brackets_want
theorem gg_x_brackets_wrapped : GoodIn w_x_brackets w_x_wrapped := goodIn_sub (fun w h => (List.mem_cons.mp h).elim (fun e => (List.mem_cons_of_mem _ (List.mem_append_left _ (List.mem_append_right _ (List.mem_append_right _ (List.mem_append_right _ (List.mem_append_right _ (List.mem_append_right _ (List.mem_append_right _ (List.mem_append_right _ (List.mem_append_left _ (List.mem_cons.mpr (Or.inl e))))))))))))) (fun h => (List.mem_append.mp h).elim (fun h => (List.mem_cons_of_mem _ (List.mem_append_left _ (List.mem_append_right _ (List.mem_append_right _ (List.mem_append_right _ (List.mem_append_right _ (List.mem_append_right _ (List.mem_append_right _ (List.mem_append_right _ (List.mem_append_left _ (List.mem_cons_of_mem _ h)))))))))))) (fun h => List.mem_cons_of_mem _ (List.mem_append_right _ h)))) w_x_wrapped_good
theorem g_x_brackets_wrapped_242 : GoodIn w_x_brackets (wsV RX12 242 RX12 yX12_wrapped w_x_wrapped) := goodIn_app (nb_g4 (List.mem_cons_of_mem _ (List.mem_append_left _ (List.mem_append_left _ (List.mem_of_getElem? (i := 44) rfl)))) (List.mem_cons_of_mem _ (List.mem_append_left _ (List.mem_append_left _ (List.mem_of_getElem? (i := 45) rfl)))) (List.mem_cons_of_mem _ (List.mem_append_left _ (List.mem_append_left _ (List.mem_of_getElem? (i := 46) rfl)))) (List.mem_cons_of_mem _ (List.mem_append_left _ (List.mem_append_left _ (List.mem_of_getElem? (i := 20) rfl)))) (by decide +kernel)) gg_x_brackets_wrapped
set_option maxHeartbeats 40000000 in
set_option maxRecDepth 100000 in
theorem c_s_brackets (l : Launch) (dC : Nat → ClassId) (dI : Nat → Nat → Nat) (cy : Nat → ClassId) (a : Nat → Nat) (k0 : Nat) (IH : ∀ j : Nat, j < k0 → P_GE l dC dI cy a j) (d : Nat) (L0 : Nat → Int32) (σ0 : MS) (r0 : Int32 × MS) (h0 : x_GE k0 d 0 0 L0 σ0 = some r0) (sz : Nat) : Met l yX12_brackets w_x_brackets ({ frames := 5 + d, cells := 0, slots := 0, locals := 113 + 31 * d }) (va_Pc [.ref (a 0)] (nIn (dC, dI) cy sz (vM cy a σ0))) (va_Qi (fun (z : Int32) (_ : Unit) => z = r0.1) (fun _ t => nOut (dC, dI) cy (va_A (vM cy a σ0) sz) (vM cy a r0.2) t) (va_A (vM cy a σ0) sz)) 0 0 (va_A (vM cy a σ0) sz) := by
  refine Met.ofW (cc := cX12_brackets) (maxL := 8) (ret := (some .int)) (by decide) rfl ?_
  intro p e s m args below meth c s₁ B hml hv
  obtain ⟨rfl, hsz, hP, hK, hD0, hG⟩ := hv
  have hx := B.exec
  have hb := B.bytes
  have hr := B.returns
  have hts := atoms_spec (ws := w_x_brackets) B.pre
  have hown : s.vm.findClass RX12 = some m.cls := findClass_of_methodNamed B.named
  have hlocks := B.notSynchronized
  subst hsz
  have hD := hD0.self (sz := s.heap.size)
  generalize hAe : va_A (vM cy a σ0) s.heap.size = A at hD ⊢
  have hA : ∀ q : Nat, s.heap.size ≤ q → A q := fun q h => by rw [← hAe]; exact Or.inr h
  have hS : va_S A s.heap s.heap [] := va_S.rf
  have hl := lv_entry ([.ref (a 0)]) (n := 8) (Nat.le_of_ble_eq_true rfl)
  rw [lg_entry_eq]
  generalize (lg_sl ([.ref (a 0)]) ++ List.replicate (8 - (lg_sl ([.ref (a 0)])).length) Slot.unset).toArray = ls at hl ⊢
  have hl : lv_has ls 8 [(0, .ref (a 0))] := hl
  have blk : ∀ k : Nat, k ≤ k0 → (bT p l e (headSpec w_x_brackets ({ frames := 5 + d, cells := 0, slots := 0, locals := 113 + 31 * d })).room s m #[.ref (a 0)] below meth c dC dI cy a A (qI dC dI cy a A below #[.ref (a 0)] s) 8 (x_GE k d 0 0) (fun L => [(0, .ref (a 0))]) 0 (fun L => [])) ∧ (bT p l e (headSpec w_x_brackets ({ frames := 5 + d, cells := 0, slots := 0, locals := 113 + 31 * d })).room s m #[.ref (a 0)] below meth c dC dI cy a A (qI dC dI cy a A below #[.ref (a 0)] s) 8 (x_GE k d 0 1) (fun L => [(0, .ref (a 0))]) 13 (fun L => [])) ∧ (bT p l e (headSpec w_x_brackets ({ frames := 5 + d, cells := 0, slots := 0, locals := 113 + 31 * d })).room s m #[.ref (a 0)] below meth c dC dI cy a A (qI dC dI cy a A below #[.ref (a 0)] s) 8 (x_GE k d 0 2) (fun L => [(0, .ref (a 0))]) 14 (fun L => [.int (L 100)])) ∧ (bT p l e (headSpec w_x_brackets ({ frames := 5 + d, cells := 0, slots := 0, locals := 113 + 31 * d })).room s m #[.ref (a 0)] below meth c dC dI cy a A (qI dC dI cy a A below #[.ref (a 0)] s) 8 (x_GE k d 0 3) (fun L => [(0, .ref (a 0)), (1, .int (L 1))]) 25 (fun L => [])) ∧ (bT p l e (headSpec w_x_brackets ({ frames := 5 + d, cells := 0, slots := 0, locals := 113 + 31 * d })).room s m #[.ref (a 0)] below meth c dC dI cy a A (qI dC dI cy a A below #[.ref (a 0)] s) 8 (x_GE k d 0 4) (fun L => [(0, .ref (a 0)), (1, .int (L 1))]) 27 (fun L => [.int (L 100)])) ∧ (bT p l e (headSpec w_x_brackets ({ frames := 5 + d, cells := 0, slots := 0, locals := 113 + 31 * d })).room s m #[.ref (a 0)] below meth c dC dI cy a A (qI dC dI cy a A below #[.ref (a 0)] s) 8 (x_GE k d 0 5) (fun L => [(0, .ref (a 0)), (1, .int (L 1)), (2, .int (L 2))]) 43 (fun L => [])) ∧ (bT p l e (headSpec w_x_brackets ({ frames := 5 + d, cells := 0, slots := 0, locals := 113 + 31 * d })).room s m #[.ref (a 0)] below meth c dC dI cy a A (qI dC dI cy a A below #[.ref (a 0)] s) 8 (x_GE k d 0 6) (fun L => [(0, .ref (a 0)), (1, .int (L 1)), (2, .int (L 2)), (3, .int (L 3))]) 54 (fun L => [])) ∧ (bT p l e (headSpec w_x_brackets ({ frames := 5 + d, cells := 0, slots := 0, locals := 113 + 31 * d })).room s m #[.ref (a 0)] below meth c dC dI cy a A (qI dC dI cy a A below #[.ref (a 0)] s) 8 (x_GE k d 0 7) (fun L => [(0, .ref (a 0)), (1, .int (L 1)), (2, .int (L 2)), (3, .int (L 3))]) 73 (fun L => [.ref (a 0)])) ∧ (bT p l e (headSpec w_x_brackets ({ frames := 5 + d, cells := 0, slots := 0, locals := 113 + 31 * d })).room s m #[.ref (a 0)] below meth c dC dI cy a A (qI dC dI cy a A below #[.ref (a 0)] s) 8 (x_GE k d 0 8) (fun L => [(0, .ref (a 0)), (1, .int (L 1)), (2, .int (L 2)), (3, .int (L 3))]) 75 (fun L => [.int (L 100), .ref (a 0)])) ∧ (bT p l e (headSpec w_x_brackets ({ frames := 5 + d, cells := 0, slots := 0, locals := 113 + 31 * d })).room s m #[.ref (a 0)] below meth c dC dI cy a A (qI dC dI cy a A below #[.ref (a 0)] s) 8 (x_GE k d 0 9) (fun L => [(0, .ref (a 0)), (1, .int (L 1)), (2, .int (L 2)), (3, .int (L 3))]) 85 (fun L => [])) ∧ (bT p l e (headSpec w_x_brackets ({ frames := 5 + d, cells := 0, slots := 0, locals := 113 + 31 * d })).room s m #[.ref (a 0)] below meth c dC dI cy a A (qI dC dI cy a A below #[.ref (a 0)] s) 8 (x_GE k d 0 10) (fun L => [(0, .ref (a 0)), (1, .int (L 1)), (2, .int (L 2)), (3, .int (L 3)), (4, .int (L 4)), (5, .int (L 5)), (6, .int (L 6))]) 140 (fun L => [])) ∧ (bT p l e (headSpec w_x_brackets ({ frames := 5 + d, cells := 0, slots := 0, locals := 113 + 31 * d })).room s m #[.ref (a 0)] below meth c dC dI cy a A (qI dC dI cy a A below #[.ref (a 0)] s) 8 (x_GE k d 0 11) (fun L => [(0, .ref (a 0)), (1, .int (L 1)), (2, .int (L 2)), (3, .int (L 3))]) 175 (fun L => [])) ∧ (bT p l e (headSpec w_x_brackets ({ frames := 5 + d, cells := 0, slots := 0, locals := 113 + 31 * d })).room s m #[.ref (a 0)] below meth c dC dI cy a A (qI dC dI cy a A below #[.ref (a 0)] s) 8 (x_GE k d 0 12) (fun L => [(0, .ref (a 0)), (1, .int (L 1)), (2, .int (L 2)), (3, .int (L 3))]) 181 (fun L => [])) ∧ (bT p l e (headSpec w_x_brackets ({ frames := 5 + d, cells := 0, slots := 0, locals := 113 + 31 * d })).room s m #[.ref (a 0)] below meth c dC dI cy a A (qI dC dI cy a A below #[.ref (a 0)] s) 8 (x_GE k d 0 13) (fun L => [(0, .ref (a 0)), (1, .int (L 1)), (2, .int (L 2)), (3, .int (L 3))]) 196 (fun L => [])) := by
    intro k
    induction k with
    | zero => exact fun _ => ⟨fun L σ r h => (by cases h), fun L σ r h => (by cases h), fun L σ r h => (by cases h), fun L σ r h => (by cases h), fun L σ r h => (by cases h), fun L σ r h => (by cases h), fun L σ r h => (by cases h), fun L σ r h => (by cases h), fun L σ r h => (by cases h), fun L σ r h => (by cases h), fun L σ r h => (by cases h), fun L σ r h => (by cases h), fun L σ r h => (by cases h), fun L σ r h => (by cases h)⟩
    | succ k ih =>
      intro hk
      replace ih := ih (by omega)
      refine ⟨?_, ?_, ?_, ?_, ?_, ?_, ?_, ?_, ?_, ?_, ?_, ?_, ?_, ?_⟩
      · intro L σ r h H locs ls hP hD hS hl
        rw [x_GE_0, s_brackets_0] at h
        refine lv_aload_n hx hb dX12_brackets_0 rfl (lv_at hl 0 rfl) ?_
        refine lv_bipush (v := 8) hx hb dX12_brackets_1 (by decide) ?_
        obtain ⟨r1, hc1, h⟩ := ob_ex h
        refine nc_Vi (As := [.int 8]) (rest := []) ⟨hx, hb, hml, hown, hts⟩ (c_x_isSign l dC dI cy a k (upd (fun _ => 0) 1 8) σ r1 hc1 H.size) (cwV 1 hts g_x_brackets_isSign_65 rfl rfl rfl hd_x_isSign (by show 0 + 1 ≤ 5 + d ∧ 8 + (2 + 11) + 0 ≤ 113 + 31 * d; omega)) hK hG hA hP hD hS rfl hl.1 rfl (Nat.le_of_ble_eq_true rfl) dX12_brackets_3 ⟨Nat.le_refl _, Nat.le_refl _⟩ (fun H locs hP hD hS => ?_)
        refine lv_if_eq (tgt := 13) hx hb dX12_brackets_6 (by decide) (fun c2 => ?_) (fun c2 => ?_)
        · rw [if_pos c2] at h
          exact ih.2.1 L r1.2 r h H locs ls hP hD hS (lv_sub hl [0] rfl)
        · rw [if_neg c2] at h
          refine lv_iconst (v := 1) hx hb dX12_brackets_9 (by decide) ?_
          refine lv_goto (tgt := 14) hx hb dX12_brackets_10 (by decide) ?_
          exact ih.2.2.1 (upd L 100 1) r1.2 r h H locs ls hP hD hS (lv_sub hl [0] rfl)
      · intro L σ r h H locs ls hP hD hS hl
        rw [x_GE_0, s_brackets_1] at h
        refine lv_iconst (v := 0) hx hb dX12_brackets_13 (by decide) ?_
        exact ih.2.2.1 (upd L 100 0) σ r h H locs ls hP hD hS (lv_sub hl [0] rfl)
      · intro L σ r h H locs ls hP hD hS hl
        rw [x_GE_0, s_brackets_2] at h
        refine lv_istore_n (lv' := [(1, .int (L 100)), (0, .ref (a 0))]) hx hb dX12_brackets_14 rfl hl (by decide) rfl (fun ls hl => ?_)
        refine lv_iload_n hx hb dX12_brackets_15 rfl (lv_at hl 0 rfl) ?_
        refine lv_iconst (v := 1) hx hb dX12_brackets_16 (by decide) ?_
        refine lv_icmp_ne (tgt := 25) hx hb dX12_brackets_17 (by decide) (fun c1 => ?_) (fun c1 => ?_)
        · rw [if_neg c1] at h
          exact ih.2.2.2.1 (upd L 1 ((L 100))) σ r h H locs ls hP hD hS (lv_sub hl [1, 0] rfl)
        · rw [if_pos c1] at h
          refine lv_bipush (v := 9) hx hb dX12_brackets_20 (by decide) ?_
          refine lv_goto (tgt := 27) hx hb dX12_brackets_22 (by decide) ?_
          exact ih.2.2.2.2.1 (upd (upd L 1 ((L 100))) 100 9) σ r h H locs ls hP hD hS (lv_sub hl [1, 0] rfl)
      · intro L σ r h H locs ls hP hD hS hl
        rw [x_GE_0, s_brackets_3] at h
        refine lv_bipush (v := 11) hx hb dX12_brackets_25 (by decide) ?_
        exact ih.2.2.2.2.1 (upd L 100 11) σ r h H locs ls hP hD hS (lv_sub hl [0, 1] rfl)
      · intro L σ r h H locs ls hP hD hS hl
        rw [x_GE_0, s_brackets_4] at h
        refine lv_istore_n (lv' := [(2, .int (L 100)), (0, .ref (a 0)), (1, .int (L 1))]) hx hb dX12_brackets_27 rfl hl (by decide) rfl (fun ls hl => ?_)
        refine lv_aload_n hx hb dX12_brackets_28 rfl (lv_at hl 1 rfl) ?_
        obtain ⟨r1, hc1, h⟩ := ob_ex h
        refine nc_Vv (As := []) (rest := []) ⟨hx, hb, hml, hown, hts⟩ (c_x_open l dC dI cy a k (fun _ => 0) σ r1 hc1 H.size) (cwV 0 hts g_x_brackets_open_177 rfl rfl rfl hd_x_open (by show 1 + 1 ≤ 5 + d ∧ 8 + (1 + 11) + 22 ≤ 113 + 31 * d; omega)) hK hG hA hP hD hS rfl hl.1 rfl (Nat.le_of_ble_eq_true rfl) dX12_brackets_29 ⟨Nat.le_refl _, Nat.le_refl _⟩ (fun H locs hP hD hS => ?_)
        refine lv_aload_n hx hb dX12_brackets_32 rfl (lv_at hl 1 rfl) ?_
        refine ng_10 hx hb hts in_x_brackets hown hK hP (hts _ (List.mem_cons_of_mem _ (List.mem_append_left _ (List.mem_append_left _ (List.mem_of_getElem? (i := 24) rfl))))) dX12_brackets_33 ?_
        refine lv_if_ne (tgt := 43) hx hb dX12_brackets_36 (by decide) (fun c2 => ?_) (fun c2 => ?_)
        · rw [if_neg c2] at h
          exact ih.2.2.2.2.2.1 (upd L 2 ((L 100))) r1.2 r h H locs ls hP hD hS (lv_sub hl [1, 2, 0] rfl)
        · rw [if_pos c2] at h
          refine lv_aload_n hx hb dX12_brackets_39 rfl (lv_at hl 1 rfl) ?_
          obtain ⟨r3, hc3, h⟩ := ob_ex h
          refine nc_Vv (As := []) (rest := []) ⟨hx, hb, hml, hown, hts⟩ (c_x_take l dC dI cy a k (fun _ => 0) r1.2 r3 hc3 H.size) (cwV 0 hts g_x_brackets_take_71 rfl rfl rfl hd_x_take (by show 2 + 1 ≤ 5 + d ∧ 8 + (2 + 11) + 43 ≤ 113 + 31 * d; omega)) hK hG hA hP hD hS rfl hl.1 rfl (Nat.le_of_ble_eq_true rfl) dX12_brackets_40 ⟨Nat.le_refl _, Nat.le_refl _⟩ (fun H locs hP hD hS => ?_)
          exact ih.2.2.2.2.2.1 (upd L 2 ((L 100))) r3.2 r h H locs ls hP hD hS (lv_sub hl [1, 2, 0] rfl)
      · intro L σ r h H locs ls hP hD hS hl
        rw [x_GE_0, s_brackets_5] at h
        refine lv_iconst (v := 0) hx hb dX12_brackets_43 (by decide) ?_
        refine lv_istore_n (lv' := [(3, .int 0), (0, .ref (a 0)), (1, .int (L 1)), (2, .int (L 2))]) hx hb dX12_brackets_44 rfl hl (by decide) rfl (fun ls hl => ?_)
        refine lv_aload_n hx hb dX12_brackets_45 rfl (lv_at hl 1 rfl) ?_
        refine ng_10 hx hb hts in_x_brackets hown hK hP (hts _ (List.mem_cons_of_mem _ (List.mem_append_left _ (List.mem_append_left _ (List.mem_of_getElem? (i := 24) rfl))))) dX12_brackets_46 ?_
        refine lv_if_eq (tgt := 54) hx hb dX12_brackets_49 (by decide) (fun c1 => ?_) (fun c1 => ?_)
        · rw [if_pos c1] at h
          exact ih.2.2.2.2.2.2.1 (upd L 3 0) σ r h H locs ls hP hD hS (lv_sub hl [1, 2, 3, 0] rfl)
        · rw [if_neg c1] at h
          refine lv_iconst (v := 0) hx hb dX12_brackets_52 (by decide) ?_
          cases h
          exact W.iret (v := 0) hx hb hr (fun t ht hW => ⟨⟨0, (), rfl, rfl, by rw [ht]; exact hP, va_K.moved hW.alike hK, hD⟩, hS.F ht⟩) hS.2.2 dX12_brackets_53
      · intro L σ r h H locs ls hP hD hS hl
        rw [x_GE_0, s_brackets_6] at h
        refine lv_aload_n hx hb dX12_brackets_54 rfl (lv_at hl 0 rfl) ?_
        refine lv_iload_n hx hb dX12_brackets_55 rfl (lv_at hl 2 rfl) ?_
        obtain ⟨r1, hc1, h⟩ := ob_ex h
        refine nc_Vi (As := [.int (L 2)]) (rest := []) ⟨hx, hb, hml, hown, hts⟩ (c_x_isSign l dC dI cy a k (upd (fun _ => 0) 1 ((L 2))) σ r1 hc1 H.size) (cwV 1 hts g_x_brackets_isSign_65 rfl rfl rfl hd_x_isSign (by show 0 + 1 ≤ 5 + d ∧ 8 + (2 + 11) + 0 ≤ 113 + 31 * d; omega)) hK hG hA hP hD hS rfl hl.1 rfl (Nat.le_of_ble_eq_true rfl) dX12_brackets_56 ⟨Nat.le_refl _, Nat.le_refl _⟩ (fun H locs hP hD hS => ?_)
        refine lv_if_eq (tgt := 85) hx hb dX12_brackets_59 (by decide) (fun c2 => ?_) (fun c2 => ?_)
        · rw [if_pos c2] at h
          exact ih.2.2.2.2.2.2.2.2.2.1 L r1.2 r h H locs ls hP hD hS (lv_sub hl [0, 1, 2, 3] rfl)
        · rw [if_neg c2] at h
          refine lv_aload_n hx hb dX12_brackets_62 rfl (lv_at hl 0 rfl) ?_
          refine lv_iload_n hx hb dX12_brackets_63 rfl (lv_at hl 1 rfl) ?_
          refine lv_iconst (v := 1) hx hb dX12_brackets_64 (by decide) ?_
          refine lv_icmp_ne (tgt := 73) hx hb dX12_brackets_65 (by decide) (fun c3 => ?_) (fun c3 => ?_)
          · rw [if_neg c3] at h
            exact ih.2.2.2.2.2.2.2.1 L r1.2 r h H locs ls hP hD hS (lv_sub hl [0, 1, 2, 3] rfl)
          · rw [if_pos c3] at h
            refine lv_bipush (v := 10) hx hb dX12_brackets_68 (by decide) ?_
            refine lv_goto (tgt := 75) hx hb dX12_brackets_70 (by decide) ?_
            exact ih.2.2.2.2.2.2.2.2.1 (upd L 100 10) r1.2 r h H locs ls hP hD hS (lv_sub hl [0, 1, 2, 3] rfl)
      · intro L σ r h H locs ls hP hD hS hl
        rw [x_GE_0, s_brackets_7] at h
        refine lv_bipush (v := 11) hx hb dX12_brackets_73 (by decide) ?_
        exact ih.2.2.2.2.2.2.2.2.1 (upd L 100 11) σ r h H locs ls hP hD hS (lv_sub hl [0, 1, 2, 3] rfl)
      · intro L σ r h H locs ls hP hD hS hl
        rw [x_GE_0, s_brackets_8] at h
        refine lv_iconst (v := 0) hx hb dX12_brackets_75 (by decide) ?_
        refine lv_iconst (v := (-1)) hx hb dX12_brackets_76 (by decide) ?_
        refine lv_iconst (v := 0) hx hb dX12_brackets_77 (by decide) ?_
        obtain ⟨r1, hc1, h⟩ := ob_ex h
        refine nc_Vi (As := [.int (L 100), .int 0, .int (-1), .int 0]) (rest := []) ⟨hx, hb, hml, hown, hts⟩ (c_x_node l dC dI cy a k (upd (upd (upd (upd (fun _ => 0) 1 ((L 100))) 2 0) 3 ((-1))) 4 0) σ r1 hc1 H.size) (cwV 4 hts g_x_brackets_node_101 rfl rfl rfl hd_x_node (by show 0 + 1 ≤ 5 + d ∧ 8 + (6 + 11) + 0 ≤ 113 + 31 * d; omega)) hK hG hA hP hD hS rfl hl.1 rfl (Nat.le_of_ble_eq_true rfl) dX12_brackets_78 ⟨Nat.le_refl _, Nat.le_refl _⟩ (fun H locs hP hD hS => ?_)
        refine lv_istore_n (lv' := [(3, .int r1.1), (0, .ref (a 0)), (1, .int (L 1)), (2, .int (L 2))]) hx hb dX12_brackets_81 rfl hl (by decide) rfl (fun ls hl => ?_)
        refine lv_goto (tgt := 181) hx hb dX12_brackets_82 (by decide) ?_
        exact ih.2.2.2.2.2.2.2.2.2.2.2.2.1 (upd L 3 r1.1) r1.2 r h H locs ls hP hD hS (lv_sub hl [1, 2, 3, 0] rfl)
      · intro L σ r h H locs ls hP hD hS hl
        rw [x_GE_0, s_brackets_9] at h
        refine lv_aload_n hx hb dX12_brackets_85 rfl (lv_at hl 0 rfl) ?_
        refine lv_bipush (v := 13) hx hb dX12_brackets_86 (by decide) ?_
        obtain ⟨r1, hc1, h⟩ := ob_ex h
        refine nc_Vi (As := [.int 13]) (rest := []) ⟨hx, hb, hml, hown, hts⟩ (c_x_isWord l dC dI cy a k (upd (fun _ => 0) 1 13) σ r1 hc1 H.size) (cwV 1 hts g_x_brackets_isWord_74 rfl rfl rfl hd_x_isWord (by show 0 + 1 ≤ 5 + d ∧ 8 + (2 + 11) + 0 ≤ 113 + 31 * d; omega)) hK hG hA hP hD hS rfl hl.1 rfl (Nat.le_of_ble_eq_true rfl) dX12_brackets_88 ⟨Nat.le_refl _, Nat.le_refl _⟩ (fun H locs hP hD hS => ?_)
        refine lv_if_eq (tgt := 175) hx hb dX12_brackets_91 (by decide) (fun c2 => ?_) (fun c2 => ?_)
        · rw [if_pos c2] at h
          exact ih.2.2.2.2.2.2.2.2.2.2.2.1 L r1.2 r h H locs ls hP hD hS (lv_sub hl [0, 1, 2, 3] rfl)
        · rw [if_neg c2] at h
          refine lv_aload_n hx hb dX12_brackets_94 rfl (lv_at hl 0 rfl) ?_
          obtain ⟨r3, hc3, h⟩ := ob_ex h
          refine nc_Vv (As := []) (rest := []) ⟨hx, hb, hml, hown, hts⟩ (c_x_take l dC dI cy a k (fun _ => 0) r1.2 r3 hc3 H.size) (cwV 0 hts g_x_brackets_take_71 rfl rfl rfl hd_x_take (by show 2 + 1 ≤ 5 + d ∧ 8 + (2 + 11) + 43 ≤ 113 + 31 * d; omega)) hK hG hA hP hD hS rfl hl.1 rfl (Nat.le_of_ble_eq_true rfl) dX12_brackets_95 ⟨Nat.le_refl _, Nat.le_refl _⟩ (fun H locs hP hD hS => ?_)
          refine lv_aload_n hx hb dX12_brackets_98 rfl (lv_at hl 0 rfl) ?_
          refine ng_38 hx hb hts in_x_brackets hown hK hP (hts _ (List.mem_cons_of_mem _ (List.mem_append_left _ (List.mem_append_left _ (List.mem_of_getElem? (i := 34) rfl))))) dX12_brackets_99 ?_
          refine lv_istore (lv' := [(4, .int (r3.2.1 38)), (0, .ref (a 0)), (1, .int (L 1)), (2, .int (L 2)), (3, .int (L 3))]) hx hb dX12_brackets_102 hl (by decide) rfl (fun ls hl => ?_)
          refine lv_aload_n hx hb dX12_brackets_104 rfl (lv_at hl 1 rfl) ?_
          refine lv_iconst (v := 0) hx hb dX12_brackets_105 (by decide) ?_
          obtain ⟨e4, he4, h⟩ := od_ex h
          obtain ⟨r4, hc4, h⟩ := ob_ex h
          refine nc_Vi (As := [.int 0]) (rest := []) ⟨hx, hb, hml, hown, hts⟩ ((IH k (by omega)).2.2.2.2.1 e4 (upd (fun _ => 0) 1 0) r3.2 r4 hc4 H.size) (cwV 1 hts g_x_brackets_iters_246 rfl rfl rfl hd_x_iters (by show (5 + e4) + 1 ≤ 5 + d ∧ 8 + (12 + 11) + (113 + 31 * e4) ≤ 113 + 31 * d; omega)) hK hG hA hP hD hS rfl hl.1 rfl (Nat.le_of_ble_eq_true rfl) dX12_brackets_106 ⟨Nat.le_refl _, Nat.le_refl _⟩ (fun H locs hP hD hS => ?_)
          refine lv_istore (lv' := [(5, .int r4.1), (4, .int (r3.2.1 38)), (0, .ref (a 0)), (1, .int (L 1)), (2, .int (L 2)), (3, .int (L 3))]) hx hb dX12_brackets_109 hl (by decide) rfl (fun ls hl => ?_)
          refine lv_iconst (v := (-1)) hx hb dX12_brackets_111 (by decide) ?_
          refine lv_istore (lv' := [(6, .int (-1)), (5, .int r4.1), (4, .int (r3.2.1 38)), (0, .ref (a 0)), (1, .int (L 1)), (2, .int (L 2)), (3, .int (L 3))]) hx hb dX12_brackets_112 hl (by decide) rfl (fun ls hl => ?_)
          refine lv_aload_n hx hb dX12_brackets_114 rfl (lv_at hl 3 rfl) ?_
          refine ng_10 hx hb hts in_x_brackets hown hK hP (hts _ (List.mem_cons_of_mem _ (List.mem_append_left _ (List.mem_append_left _ (List.mem_of_getElem? (i := 24) rfl))))) dX12_brackets_115 ?_
          refine lv_if_ne (tgt := 140) hx hb dX12_brackets_118 (by decide) (fun c5 => ?_) (fun c5 => ?_)
          · rw [if_neg c5] at h
            exact ih.2.2.2.2.2.2.2.2.2.2.1 (upd (upd (upd L 4 ((r3.2.1 38))) 5 r4.1) 6 ((-1))) r4.2 r h H locs ls hP hD hS (lv_sub hl [3, 4, 5, 6, 2, 1, 0] rfl)
          · rw [if_pos c5] at h
            refine lv_aload_n hx hb dX12_brackets_121 rfl (lv_at hl 3 rfl) ?_
            refine lv_bipush (v := 15) hx hb dX12_brackets_122 (by decide) ?_
            obtain ⟨r6, hc6, h⟩ := ob_ex h
            refine nc_Vi (As := [.int 15]) (rest := []) ⟨hx, hb, hml, hown, hts⟩ (c_x_isSign l dC dI cy a k (upd (fun _ => 0) 1 15) r4.2 r6 hc6 H.size) (cwV 1 hts g_x_brackets_isSign_65 rfl rfl rfl hd_x_isSign (by show 0 + 1 ≤ 5 + d ∧ 8 + (2 + 11) + 0 ≤ 113 + 31 * d; omega)) hK hG hA hP hD hS rfl hl.1 rfl (Nat.le_of_ble_eq_true rfl) dX12_brackets_124 ⟨Nat.le_refl _, Nat.le_refl _⟩ (fun H locs hP hD hS => ?_)
            refine lv_if_eq (tgt := 140) hx hb dX12_brackets_127 (by decide) (fun c7 => ?_) (fun c7 => ?_)
            · rw [if_pos c7] at h
              exact ih.2.2.2.2.2.2.2.2.2.2.1 (upd (upd (upd L 4 ((r3.2.1 38))) 5 r4.1) 6 ((-1))) r6.2 r h H locs ls hP hD hS (lv_sub hl [3, 4, 5, 6, 2, 1, 0] rfl)
            · rw [if_neg c7] at h
              refine lv_aload_n hx hb dX12_brackets_130 rfl (lv_at hl 3 rfl) ?_
              obtain ⟨r8, hc8, h⟩ := ob_ex h
              refine nc_Vv (As := []) (rest := []) ⟨hx, hb, hml, hown, hts⟩ (c_x_take l dC dI cy a k (fun _ => 0) r6.2 r8 hc8 H.size) (cwV 0 hts g_x_brackets_take_71 rfl rfl rfl hd_x_take (by show 2 + 1 ≤ 5 + d ∧ 8 + (2 + 11) + 43 ≤ 113 + 31 * d; omega)) hK hG hA hP hD hS rfl hl.1 rfl (Nat.le_of_ble_eq_true rfl) dX12_brackets_131 ⟨Nat.le_refl _, Nat.le_refl _⟩ (fun H locs hP hD hS => ?_)
              refine lv_aload_n hx hb dX12_brackets_134 rfl (lv_at hl 3 rfl) ?_
              obtain ⟨e9, he9, h⟩ := od_ex h
              obtain ⟨r9, hc9, h⟩ := ob_ex h
              refine nc_Vi (As := []) (rest := []) ⟨hx, hb, hml, hown, hts⟩ ((IH k (by omega)).2.2.2.1 e9 (fun _ => 0) r8.2 r9 hc9 H.size) (cwV 0 hts g_x_brackets_exp_209 rfl rfl rfl hd_x_exp (by show (5 + e9) + 1 ≤ 5 + d ∧ 8 + (2 + 11) + (113 + 31 * e9) ≤ 113 + 31 * d; omega)) hK hG hA hP hD hS rfl hl.1 rfl (Nat.le_of_ble_eq_true rfl) dX12_brackets_135 ⟨Nat.le_refl _, Nat.le_refl _⟩ (fun H locs hP hD hS => ?_)
              refine lv_istore (lv' := [(6, .int r9.1), (5, .int r4.1), (4, .int (r3.2.1 38)), (0, .ref (a 0)), (1, .int (L 1)), (2, .int (L 2)), (3, .int (L 3))]) hx hb dX12_brackets_138 hl (by decide) rfl (fun ls hl => ?_)
              exact ih.2.2.2.2.2.2.2.2.2.2.1 (upd (upd (upd L 4 ((r3.2.1 38))) 5 r4.1) 6 r9.1) r9.2 r h H locs ls hP hD hS (lv_sub hl [3, 4, 5, 6, 2, 1, 0] rfl)
      · intro L σ r h H locs ls hP hD hS hl
        rw [x_GE_0, s_brackets_10] at h
        refine lv_aload_n hx hb dX12_brackets_140 rfl (lv_at hl 0 rfl) ?_
        refine lv_bipush (v := 14) hx hb dX12_brackets_141 (by decide) ?_
        obtain ⟨r1, hc1, h⟩ := ob_ex h
        refine nc_Vv (As := [.int 14]) (rest := []) ⟨hx, hb, hml, hown, hts⟩ (c_x_want l dC dI cy a k (upd (fun _ => 0) 1 14) σ r1 hc1 H.size) (cwV 1 hts g_x_brackets_want_199 rfl rfl rfl hd_x_want (by show 3 + 1 ≤ 5 + d ∧ 8 + (2 + 11) + 64 ≤ 113 + 31 * d; omega)) hK hG hA hP hD hS rfl hl.1 rfl (Nat.le_of_ble_eq_true rfl) dX12_brackets_143 ⟨Nat.le_refl _, Nat.le_refl _⟩ (fun H locs hP hD hS => ?_)
        refine lv_aload_n hx hb dX12_brackets_146 rfl (lv_at hl 0 rfl) ?_
        obtain ⟨e2, he2, h⟩ := od_ex h
        obtain ⟨r2, hc2, h⟩ := ob_ex h
        refine nc_Vi (As := []) (rest := []) ⟨hx, hb, hml, hown, hts⟩ ((IH k (by omega)).2.2.2.1 e2 (fun _ => 0) r1.2 r2 hc2 H.size) (cwV 0 hts g_x_brackets_exp_209 rfl rfl rfl hd_x_exp (by show (5 + e2) + 1 ≤ 5 + d ∧ 8 + (2 + 11) + (113 + 31 * e2) ≤ 113 + 31 * d; omega)) hK hG hA hP hD hS rfl hl.1 rfl (Nat.le_of_ble_eq_true rfl) dX12_brackets_147 ⟨Nat.le_refl _, Nat.le_refl _⟩ (fun H locs hP hD hS => ?_)
        refine lv_istore (lv' := [(7, .int r2.1), (0, .ref (a 0)), (1, .int (L 1)), (2, .int (L 2)), (3, .int (L 3)), (4, .int (L 4)), (5, .int (L 5)), (6, .int (L 6))]) hx hb dX12_brackets_150 hl (by decide) rfl (fun ls hl => ?_)
        refine lv_aload_n hx hb dX12_brackets_152 rfl (lv_at hl 1 rfl) ?_
        refine lv_bipush (v := 13) hx hb dX12_brackets_153 (by decide) ?_
        refine lv_iload_n hx hb dX12_brackets_155 rfl (lv_at hl 2 rfl) ?_
        refine lv_iload hx hb dX12_brackets_156 (lv_at hl 6 rfl) ?_
        refine lv_iload hx hb dX12_brackets_158 (lv_at hl 7 rfl) ?_
        refine lv_iload hx hb dX12_brackets_160 (lv_at hl 0 rfl) ?_
        obtain ⟨r3, hc3, h⟩ := ob_ex h
        refine nc_Vi (As := [.int 13, .int (L 1), .int (L 5), .int (L 6), .int r2.1]) (rest := []) ⟨hx, hb, hml, hown, hts⟩ (c_x_wrapped l dC dI cy a k (upd (upd (upd (upd (upd (fun _ => 0) 1 13) 2 ((L 1))) 3 ((L 5))) 4 ((L 6))) 5 r2.1) r2.2 r3 hc3 H.size) (cwV 5 hts g_x_brackets_wrapped_242 rfl rfl rfl hd_x_wrapped (by show 1 + 1 ≤ 5 + d ∧ 8 + (7 + 11) + 25 ≤ 113 + 31 * d; omega)) hK hG hA hP hD hS rfl hl.1 rfl (Nat.le_of_ble_eq_true rfl) dX12_brackets_162 ⟨Nat.le_refl _, Nat.le_refl _⟩ (fun H locs hP hD hS => ?_)
        refine lv_istore_n (lv' := [(3, .int r3.1), (7, .int r2.1), (0, .ref (a 0)), (1, .int (L 1)), (2, .int (L 2)), (4, .int (L 4)), (5, .int (L 5)), (6, .int (L 6))]) hx hb dX12_brackets_165 rfl hl (by decide) rfl (fun ls hl => ?_)
        refine lv_aload_n hx hb dX12_brackets_166 rfl (lv_at hl 2 rfl) ?_
        refine lv_iload hx hb dX12_brackets_167 (lv_at hl 5 rfl) ?_
        refine np_38 hx hb hts in_x_brackets hown hK hP hD hS (hts _ (List.mem_cons_of_mem _ (List.mem_append_left _ (List.mem_append_left _ (List.mem_of_getElem? (i := 34) rfl))))) dX12_brackets_169 (fun H locs hP hD hS => ?_)
        refine lv_goto (tgt := 181) hx hb dX12_brackets_172 (by decide) ?_
        exact ih.2.2.2.2.2.2.2.2.2.2.2.2.1 (upd (upd L 7 r2.1) 3 r3.1) (upd r3.2.1 38 ((L 4)), r3.2.2.1, r3.2.2.2) r h H locs ls hP hD hS (lv_sub hl [2, 3, 4, 0] rfl)
      · intro L σ r h H locs ls hP hD hS hl
        rw [x_GE_0, s_brackets_11] at h
        refine lv_aload_n hx hb dX12_brackets_175 rfl (lv_at hl 0 rfl) ?_
        refine lv_iload_n hx hb dX12_brackets_176 rfl (lv_at hl 1 rfl) ?_
        obtain ⟨e1, he1, h⟩ := od_ex h
        obtain ⟨r1, hc1, h⟩ := ob_ex h
        refine nc_Vi (As := [.int (L 1)]) (rest := []) ⟨hx, hb, hml, hown, hts⟩ ((IH k (by omega)).2.2.2.2.2.1 e1 (upd (fun _ => 0) 1 ((L 1))) σ r1 hc1 H.size) (cwV 1 hts g_x_brackets_listed_250 rfl rfl rfl hd_x_listed (by show (5 + e1) + 1 ≤ 5 + d ∧ 8 + (7 + 11) + (113 + 31 * e1) ≤ 113 + 31 * d; omega)) hK hG hA hP hD hS rfl hl.1 rfl (Nat.le_of_ble_eq_true rfl) dX12_brackets_177 ⟨Nat.le_refl _, Nat.le_refl _⟩ (fun H locs hP hD hS => ?_)
        refine lv_istore_n (lv' := [(3, .int r1.1), (0, .ref (a 0)), (1, .int (L 1)), (2, .int (L 2))]) hx hb dX12_brackets_180 rfl hl (by decide) rfl (fun ls hl => ?_)
        exact ih.2.2.2.2.2.2.2.2.2.2.2.2.1 (upd L 3 r1.1) r1.2 r h H locs ls hP hD hS (lv_sub hl [1, 2, 3, 0] rfl)
      · intro L σ r h H locs ls hP hD hS hl
        rw [x_GE_0, s_brackets_12] at h
        refine lv_aload_n hx hb dX12_brackets_181 rfl (lv_at hl 0 rfl) ?_
        refine lv_iload_n hx hb dX12_brackets_182 rfl (lv_at hl 2 rfl) ?_
        obtain ⟨r1, hc1, h⟩ := ob_ex h
        refine nc_Vv (As := [.int (L 2)]) (rest := []) ⟨hx, hb, hml, hown, hts⟩ (c_x_want l dC dI cy a k (upd (fun _ => 0) 1 ((L 2))) σ r1 hc1 H.size) (cwV 1 hts g_x_brackets_want_199 rfl rfl rfl hd_x_want (by show 3 + 1 ≤ 5 + d ∧ 8 + (2 + 11) + 64 ≤ 113 + 31 * d; omega)) hK hG hA hP hD hS rfl hl.1 rfl (Nat.le_of_ble_eq_true rfl) dX12_brackets_183 ⟨Nat.le_refl _, Nat.le_refl _⟩ (fun H locs hP hD hS => ?_)
        refine lv_aload_n hx hb dX12_brackets_186 rfl (lv_at hl 0 rfl) ?_
        refine lv_dup hx hb dX12_brackets_187 rfl ?_
        refine ng_13 hx hb hts in_x_brackets hown hK hP (hts _ (List.mem_cons_of_mem _ (List.mem_append_left _ (List.mem_append_left _ (List.mem_of_getElem? (i := 50) rfl))))) dX12_brackets_188 ?_
        refine lv_iconst (v := 1) hx hb dX12_brackets_191 (by decide) ?_
        refine lv_isub hx hb dX12_brackets_192 ?_
        refine np_13 hx hb hts in_x_brackets hown hK hP hD hS (hts _ (List.mem_cons_of_mem _ (List.mem_append_left _ (List.mem_append_left _ (List.mem_of_getElem? (i := 50) rfl))))) dX12_brackets_193 (fun H locs hP hD hS => ?_)
        exact ih.2.2.2.2.2.2.2.2.2.2.2.2.2 L (upd r1.2.1 13 ((((r1.2.1 13)) - 1)), r1.2.2.1, r1.2.2.2) r h H locs ls hP hD hS (lv_sub hl [0, 1, 2, 3] rfl)
      · intro L σ r h H locs ls hP hD hS hl
        rw [x_GE_0, s_brackets_13] at h
        refine lv_iload_n hx hb dX12_brackets_196 rfl (lv_at hl 3 rfl) ?_
        cases h
        exact W.iret (v := (L 3)) hx hb hr (fun t ht hW => ⟨⟨(L 3), (), rfl, rfl, by rw [ht]; exact hP, va_K.moved hW.alike hK, hD⟩, hS.F ht⟩) hS.2.2 dX12_brackets_197
  exact (blk k0 (Nat.le_refl _)).1 L0 σ0 r0 h0 s.heap [] ls hP hD hS hl
theorem gg_x_choice_exp : GoodIn w_x_choice w_x_exp := goodIn_sub (fun w h => (List.mem_cons.mp h).elim (fun e => e ▸ (List.mem_cons_of_mem _ (List.mem_append_left _ (List.mem_append_left _ (List.mem_of_getElem? (i := 3) rfl))))) (fun h => List.mem_cons_of_mem _ h)) w_x_exp_good
theorem g_x_choice_exp_209 : GoodIn w_x_choice (wsV RX12 209 RX12 yX12_exp w_x_exp) := goodIn_app (nb_g4 (List.mem_cons_of_mem _ (List.mem_append_left _ (List.mem_append_left _ (List.mem_of_getElem? (i := 38) rfl)))) (List.mem_cons_of_mem _ (List.mem_append_left _ (List.mem_append_left _ (List.mem_of_getElem? (i := 39) rfl)))) (List.mem_cons_of_mem _ (List.mem_append_left _ (List.mem_append_left _ (List.mem_of_getElem? (i := 40) rfl)))) (List.mem_cons_of_mem _ (List.mem_append_left _ (List.mem_append_left _ (List.mem_of_getElem? (i := 20) rfl)))) (by decide +kernel)) gg_x_choice_exp
theorem gg_x_choice_isWord : GoodIn w_x_choice w_x_isWord := goodIn_sub (fun w h => (List.mem_cons.mp h).elim (fun e => (List.mem_cons_of_mem _ (List.mem_append_left _ (List.mem_append_right _ (List.mem_append_right _ (List.mem_append_right _ (List.mem_append_right _ (List.mem_append_right _ (List.mem_append_left _ (List.mem_cons.mpr (Or.inl e))))))))))) (fun h => (List.mem_append.mp h).elim (fun h => (List.mem_cons_of_mem _ (List.mem_append_left _ (List.mem_append_right _ (List.mem_append_right _ (List.mem_append_right _ (List.mem_append_right _ (List.mem_append_right _ (List.mem_append_left _ (List.mem_cons_of_mem _ h)))))))))) (fun h => List.mem_cons_of_mem _ (List.mem_append_right _ h)))) w_x_isWord_good
theorem g_x_choice_isWord_74 : GoodIn w_x_choice (wsV RX12 74 RX12 yX12_isWord w_x_isWord) := goodIn_app (nb_g4 (List.mem_cons_of_mem _ (List.mem_append_left _ (List.mem_append_left _ (List.mem_of_getElem? (i := 31) rfl)))) (List.mem_cons_of_mem _ (List.mem_append_left _ (List.mem_append_left _ (List.mem_of_getElem? (i := 32) rfl)))) (List.mem_cons_of_mem _ (List.mem_append_left _ (List.mem_append_left _ (List.mem_of_getElem? (i := 33) rfl)))) (List.mem_cons_of_mem _ (List.mem_append_left _ (List.mem_append_left _ (List.mem_of_getElem? (i := 20) rfl)))) (by decide +kernel)) gg_x_choice_isWord
theorem gg_x_choice_node : GoodIn w_x_choice w_x_node := goodIn_sub (fun w h => (List.mem_cons.mp h).elim (fun e => (List.mem_cons_of_mem _ (List.mem_append_left _ (List.mem_append_right _ (List.mem_append_right _ (List.mem_append_right _ (List.mem_append_right _ (List.mem_append_left _ (List.mem_cons.mpr (Or.inl e)))))))))) (fun h => (List.mem_append.mp h).elim (fun h => (List.mem_cons_of_mem _ (List.mem_append_left _ (List.mem_append_right _ (List.mem_append_right _ (List.mem_append_right _ (List.mem_append_right _ (List.mem_append_left _ (List.mem_cons_of_mem _ h))))))))) (fun h => List.mem_cons_of_mem _ (List.mem_append_right _ h)))) w_x_node_good
theorem g_x_choice_node_101 : GoodIn w_x_choice (wsV RX12 101 RX12 yX12_node w_x_node) := goodIn_app (nb_g4 (List.mem_cons_of_mem _ (List.mem_append_left _ (List.mem_append_left _ (List.mem_of_getElem? (i := 28) rfl)))) (List.mem_cons_of_mem _ (List.mem_append_left _ (List.mem_append_left _ (List.mem_of_getElem? (i := 29) rfl)))) (List.mem_cons_of_mem _ (List.mem_append_left _ (List.mem_append_left _ (List.mem_of_getElem? (i := 30) rfl)))) (List.mem_cons_of_mem _ (List.mem_append_left _ (List.mem_append_left _ (List.mem_of_getElem? (i := 20) rfl)))) (by decide +kernel)) gg_x_choice_node
theorem gg_x_choice_open : GoodIn w_x_choice w_x_open := goodIn_sub (fun w h => (List.mem_cons.mp h).elim (fun e => (List.mem_cons_of_mem _ (List.mem_append_left _ (List.mem_append_right _ (List.mem_append_right _ (List.mem_append_left _ (List.mem_cons.mpr (Or.inl e)))))))) (fun h => (List.mem_append.mp h).elim (fun h => (List.mem_cons_of_mem _ (List.mem_append_left _ (List.mem_append_right _ (List.mem_append_right _ (List.mem_append_left _ (List.mem_cons_of_mem _ h))))))) (fun h => List.mem_cons_of_mem _ (List.mem_append_right _ h)))) w_x_open_good
theorem g_x_choice_open_177 : GoodIn w_x_choice (wsV RX12 177 RX12 yX12_open w_x_open) := goodIn_app (nb_g4 (List.mem_cons_of_mem _ (List.mem_append_left _ (List.mem_append_left _ (List.mem_of_getElem? (i := 21) rfl)))) (List.mem_cons_of_mem _ (List.mem_append_left _ (List.mem_append_left _ (List.mem_of_getElem? (i := 22) rfl)))) (List.mem_cons_of_mem _ (List.mem_append_left _ (List.mem_append_left _ (List.mem_of_getElem? (i := 23) rfl)))) (List.mem_cons_of_mem _ (List.mem_append_left _ (List.mem_append_left _ (List.mem_of_getElem? (i := 20) rfl)))) (by decide +kernel)) gg_x_choice_open
theorem gg_x_choice_take : GoodIn w_x_choice w_x_take := goodIn_sub (fun w h => (List.mem_cons.mp h).elim (fun e => (List.mem_cons_of_mem _ (List.mem_append_left _ (List.mem_append_right _ (List.mem_append_right _ (List.mem_append_right _ (List.mem_append_left _ (List.mem_cons.mpr (Or.inl e))))))))) (fun h => (List.mem_append.mp h).elim (fun h => (List.mem_cons_of_mem _ (List.mem_append_left _ (List.mem_append_right _ (List.mem_append_right _ (List.mem_append_right _ (List.mem_append_left _ (List.mem_cons_of_mem _ h)))))))) (fun h => List.mem_cons_of_mem _ (List.mem_append_right _ h)))) w_x_take_good
theorem g_x_choice_take_71 : GoodIn w_x_choice (wsV RX12 71 RX12 yX12_take w_x_take) := goodIn_app (nb_g4 (List.mem_cons_of_mem _ (List.mem_append_left _ (List.mem_append_left _ (List.mem_of_getElem? (i := 25) rfl)))) (List.mem_cons_of_mem _ (List.mem_append_left _ (List.mem_append_left _ (List.mem_of_getElem? (i := 26) rfl)))) (List.mem_cons_of_mem _ (List.mem_append_left _ (List.mem_append_left _ (List.mem_of_getElem? (i := 27) rfl)))) (List.mem_cons_of_mem _ (List.mem_append_left _ (List.mem_append_left _ (List.mem_of_getElem? (i := 20) rfl)))) (by decide +kernel)) gg_x_choice_take
theorem gg_x_choice_wantWord : GoodIn w_x_choice w_x_wantWord := goodIn_sub (fun w h => (List.mem_cons.mp h).elim (fun e => (List.mem_cons_of_mem _ (List.mem_append_left _ (List.mem_append_right _ (List.mem_append_right _ (List.mem_append_right _ (List.mem_append_right _ (List.mem_append_right _ (List.mem_append_right _ (List.mem_append_right _ (List.mem_append_right _ (List.mem_append_left _ (List.mem_cons.mpr (Or.inl e)))))))))))))) (fun h => (List.mem_append.mp h).elim (fun h => (List.mem_cons_of_mem _ (List.mem_append_left _ (List.mem_append_right _ (List.mem_append_right _ (List.mem_append_right _ (List.mem_append_right _ (List.mem_append_right _ (List.mem_append_right _ (List.mem_append_right _ (List.mem_append_right _ (List.mem_append_left _ (List.mem_cons_of_mem _ h))))))))))))) (fun h => List.mem_cons_of_mem _ (List.mem_append_right _ h)))) w_x_wantWord_good
theorem g_x_choice_wantWord_253 : GoodIn w_x_choice (wsV RX12 253 RX12 yX12_wantWord w_x_wantWord) := goodIn_app (nb_g4 (List.mem_cons_of_mem _ (List.mem_append_left _ (List.mem_append_left _ (List.mem_of_getElem? (i := 51) rfl)))) (List.mem_cons_of_mem _ (List.mem_append_left _ (List.mem_append_left _ (List.mem_of_getElem? (i := 52) rfl)))) (List.mem_cons_of_mem _ (List.mem_append_left _ (List.mem_append_left _ (List.mem_of_getElem? (i := 53) rfl)))) (List.mem_cons_of_mem _ (List.mem_append_left _ (List.mem_append_left _ (List.mem_of_getElem? (i := 20) rfl)))) (by decide +kernel)) gg_x_choice_wantWord
set_option maxHeartbeats 40000000 in
set_option maxRecDepth 100000 in
theorem c_s_choice (l : Launch) (dC : Nat → ClassId) (dI : Nat → Nat → Nat) (cy : Nat → ClassId) (a : Nat → Nat) (k0 : Nat) (IH : ∀ j : Nat, j < k0 → P_GE l dC dI cy a j) (d : Nat) (L0 : Nat → Int32) (σ0 : MS) (r0 : Int32 × MS) (h0 : x_GE k0 d 1 0 L0 σ0 = some r0) (sz : Nat) : Met l yX12_choice w_x_choice ({ frames := 5 + d, cells := 0, slots := 0, locals := 113 + 31 * d }) (va_Pc [.ref (a 0)] (nIn (dC, dI) cy sz (vM cy a σ0))) (va_Qi (fun (z : Int32) (_ : Unit) => z = r0.1) (fun _ t => nOut (dC, dI) cy (va_A (vM cy a σ0) sz) (vM cy a r0.2) t) (va_A (vM cy a σ0) sz)) 0 0 (va_A (vM cy a σ0) sz) := by
  refine Met.ofW (cc := cX12_choice) (maxL := 5) (ret := (some .int)) (by decide) rfl ?_
  intro p e s m args below meth c s₁ B hml hv
  obtain ⟨rfl, hsz, hP, hK, hD0, hG⟩ := hv
  have hx := B.exec
  have hb := B.bytes
  have hr := B.returns
  have hts := atoms_spec (ws := w_x_choice) B.pre
  have hown : s.vm.findClass RX12 = some m.cls := findClass_of_methodNamed B.named
  have hlocks := B.notSynchronized
  subst hsz
  have hD := hD0.self (sz := s.heap.size)
  generalize hAe : va_A (vM cy a σ0) s.heap.size = A at hD ⊢
  have hA : ∀ q : Nat, s.heap.size ≤ q → A q := fun q h => by rw [← hAe]; exact Or.inr h
  have hS : va_S A s.heap s.heap [] := va_S.rf
  have hl := lv_entry ([.ref (a 0)]) (n := 5) (Nat.le_of_ble_eq_true rfl)
  rw [lg_entry_eq]
  generalize (lg_sl ([.ref (a 0)]) ++ List.replicate (5 - (lg_sl ([.ref (a 0)])).length) Slot.unset).toArray = ls at hl ⊢
  have hl : lv_has ls 5 [(0, .ref (a 0))] := hl
  have blk : ∀ k : Nat, k ≤ k0 → (bT p l e (headSpec w_x_choice ({ frames := 5 + d, cells := 0, slots := 0, locals := 113 + 31 * d })).room s m #[.ref (a 0)] below meth c dC dI cy a A (qI dC dI cy a A below #[.ref (a 0)] s) 5 (x_GE k d 1 0) (fun L => [(0, .ref (a 0))]) 0 (fun L => [])) ∧ (bT p l e (headSpec w_x_choice ({ frames := 5 + d, cells := 0, slots := 0, locals := 113 + 31 * d })).room s m #[.ref (a 0)] below meth c dC dI cy a A (qI dC dI cy a A below #[.ref (a 0)] s) 5 (x_GE k d 1 1) (fun L => [(0, .ref (a 0))]) 15 (fun L => [])) ∧ (bT p l e (headSpec w_x_choice ({ frames := 5 + d, cells := 0, slots := 0, locals := 113 + 31 * d })).room s m #[.ref (a 0)] below meth c dC dI cy a A (qI dC dI cy a A below #[.ref (a 0)] s) 5 (x_GE k d 1 2) (fun L => [(0, .ref (a 0)), (1, .int (L 1)), (2, .int (L 2)), (3, .int (L 3)), (4, .int (L 4))]) 44 (fun L => [])) ∧ (bT p l e (headSpec w_x_choice ({ frames := 5 + d, cells := 0, slots := 0, locals := 113 + 31 * d })).room s m #[.ref (a 0)] below meth c dC dI cy a A (qI dC dI cy a A below #[.ref (a 0)] s) 5 (x_GE k d 1 3) (fun L => [(0, .ref (a 0)), (1, .int (L 1)), (2, .int (L 2)), (3, .int (L 3)), (4, .int (L 4))]) 96 (fun L => [])) ∧ (bT p l e (headSpec w_x_choice ({ frames := 5 + d, cells := 0, slots := 0, locals := 113 + 31 * d })).room s m #[.ref (a 0)] below meth c dC dI cy a A (qI dC dI cy a A below #[.ref (a 0)] s) 5 (x_GE k d 1 4) (fun L => [(0, .ref (a 0)), (1, .int (L 1)), (2, .int (L 2)), (3, .int (L 3)), (4, .int (L 4))]) 108 (fun L => [])) ∧ (bT p l e (headSpec w_x_choice ({ frames := 5 + d, cells := 0, slots := 0, locals := 113 + 31 * d })).room s m #[.ref (a 0)] below meth c dC dI cy a A (qI dC dI cy a A below #[.ref (a 0)] s) 5 (x_GE k d 1 5) (fun L => [(0, .ref (a 0)), (1, .int (L 1)), (2, .int (L 2)), (3, .int (L 3)), (4, .int (L 4))]) 135 (fun L => [])) ∧ (bT p l e (headSpec w_x_choice ({ frames := 5 + d, cells := 0, slots := 0, locals := 113 + 31 * d })).room s m #[.ref (a 0)] below meth c dC dI cy a A (qI dC dI cy a A below #[.ref (a 0)] s) 5 (x_GE k d 1 6) (fun L => [(0, .ref (a 0)), (1, .int (L 1)), (2, .int (L 2)), (3, .int (L 3)), (4, .int (L 4))]) 151 (fun L => [])) := by
    intro k
    induction k with
    | zero => exact fun _ => ⟨fun L σ r h => (by cases h), fun L σ r h => (by cases h), fun L σ r h => (by cases h), fun L σ r h => (by cases h), fun L σ r h => (by cases h), fun L σ r h => (by cases h), fun L σ r h => (by cases h)⟩
    | succ k ih =>
      intro hk
      replace ih := ih (by omega)
      refine ⟨?_, ?_, ?_, ?_, ?_, ?_, ?_⟩
      · intro L σ r h H locs ls hP hD hS hl
        rw [x_GE_1, s_choice_0] at h
        refine lv_aload_n hx hb dX12_choice_0 rfl (lv_at hl 0 rfl) ?_
        obtain ⟨r1, hc1, h⟩ := ob_ex h
        refine nc_Vv (As := []) (rest := []) ⟨hx, hb, hml, hown, hts⟩ (c_x_open l dC dI cy a k (fun _ => 0) σ r1 hc1 H.size) (cwV 0 hts g_x_choice_open_177 rfl rfl rfl hd_x_open (by show 1 + 1 ≤ 5 + d ∧ 8 + (1 + 11) + 22 ≤ 113 + 31 * d; omega)) hK hG hA hP hD hS rfl hl.1 rfl (Nat.le_of_ble_eq_true rfl) dX12_choice_1 ⟨Nat.le_refl _, Nat.le_refl _⟩ (fun H locs hP hD hS => ?_)
        refine lv_aload_n hx hb dX12_choice_4 rfl (lv_at hl 0 rfl) ?_
        refine ng_10 hx hb hts in_x_choice hown hK hP (hts _ (List.mem_cons_of_mem _ (List.mem_append_left _ (List.mem_append_left _ (List.mem_of_getElem? (i := 24) rfl))))) dX12_choice_5 ?_
        refine lv_if_ne (tgt := 15) hx hb dX12_choice_8 (by decide) (fun c2 => ?_) (fun c2 => ?_)
        · rw [if_neg c2] at h
          exact ih.2.1 L r1.2 r h H locs ls hP hD hS (lv_sub hl [0] rfl)
        · rw [if_pos c2] at h
          refine lv_aload_n hx hb dX12_choice_11 rfl (lv_at hl 0 rfl) ?_
          obtain ⟨r3, hc3, h⟩ := ob_ex h
          refine nc_Vv (As := []) (rest := []) ⟨hx, hb, hml, hown, hts⟩ (c_x_take l dC dI cy a k (fun _ => 0) r1.2 r3 hc3 H.size) (cwV 0 hts g_x_choice_take_71 rfl rfl rfl hd_x_take (by show 2 + 1 ≤ 5 + d ∧ 8 + (2 + 11) + 43 ≤ 113 + 31 * d; omega)) hK hG hA hP hD hS rfl hl.1 rfl (Nat.le_of_ble_eq_true rfl) dX12_choice_12 ⟨Nat.le_refl _, Nat.le_refl _⟩ (fun H locs hP hD hS => ?_)
          exact ih.2.1 L r3.2 r h H locs ls hP hD hS (lv_sub hl [0] rfl)
      · intro L σ r h H locs ls hP hD hS hl
        rw [x_GE_1, s_choice_1] at h
        refine lv_aload_n hx hb dX12_choice_15 rfl (lv_at hl 0 rfl) ?_
        obtain ⟨e1, he1, h⟩ := od_ex h
        obtain ⟨r1, hc1, h⟩ := ob_ex h
        refine nc_Vi (As := []) (rest := []) ⟨hx, hb, hml, hown, hts⟩ ((IH k (by omega)).2.2.2.1 e1 (fun _ => 0) σ r1 hc1 H.size) (cwV 0 hts g_x_choice_exp_209 rfl rfl rfl hd_x_exp (by show (5 + e1) + 1 ≤ 5 + d ∧ 8 + (2 + 11) + (113 + 31 * e1) ≤ 113 + 31 * d; omega)) hK hG hA hP hD hS rfl hl.1 rfl (Nat.le_of_ble_eq_true rfl) dX12_choice_16 ⟨Nat.le_refl _, Nat.le_refl _⟩ (fun H locs hP hD hS => ?_)
        refine lv_istore_n (lv' := [(1, .int r1.1), (0, .ref (a 0))]) hx hb dX12_choice_19 rfl hl (by decide) rfl (fun ls hl => ?_)
        refine lv_aload_n hx hb dX12_choice_20 rfl (lv_at hl 1 rfl) ?_
        refine lv_bipush (v := 8) hx hb dX12_choice_21 (by decide) ?_
        obtain ⟨r2, hc2, h⟩ := ob_ex h
        refine nc_Vv (As := [.int 8]) (rest := []) ⟨hx, hb, hml, hown, hts⟩ (c_x_wantWord l dC dI cy a k (upd (fun _ => 0) 1 8) r1.2 r2 hc2 H.size) (cwV 1 hts g_x_choice_wantWord_253 rfl rfl rfl hd_x_wantWord (by show 3 + 1 ≤ 5 + d ∧ 8 + (2 + 11) + 64 ≤ 113 + 31 * d; omega)) hK hG hA hP hD hS rfl hl.1 rfl (Nat.le_of_ble_eq_true rfl) dX12_choice_23 ⟨Nat.le_refl _, Nat.le_refl _⟩ (fun H locs hP hD hS => ?_)
        refine lv_aload_n hx hb dX12_choice_26 rfl (lv_at hl 1 rfl) ?_
        obtain ⟨e3, he3, h⟩ := od_ex h
        obtain ⟨r3, hc3, h⟩ := ob_ex h
        refine nc_Vi (As := []) (rest := []) ⟨hx, hb, hml, hown, hts⟩ ((IH k (by omega)).2.2.2.1 e3 (fun _ => 0) r2.2 r3 hc3 H.size) (cwV 0 hts g_x_choice_exp_209 rfl rfl rfl hd_x_exp (by show (5 + e3) + 1 ≤ 5 + d ∧ 8 + (2 + 11) + (113 + 31 * e3) ≤ 113 + 31 * d; omega)) hK hG hA hP hD hS rfl hl.1 rfl (Nat.le_of_ble_eq_true rfl) dX12_choice_27 ⟨Nat.le_refl _, Nat.le_refl _⟩ (fun H locs hP hD hS => ?_)
        refine lv_istore_n (lv' := [(2, .int r3.1), (1, .int r1.1), (0, .ref (a 0))]) hx hb dX12_choice_30 rfl hl (by decide) rfl (fun ls hl => ?_)
        refine lv_aload_n hx hb dX12_choice_31 rfl (lv_at hl 2 rfl) ?_
        refine lv_bipush (v := 33) hx hb dX12_choice_32 (by decide) ?_
        refine lv_iload_n hx hb dX12_choice_34 rfl (lv_at hl 1 rfl) ?_
        refine lv_iload_n hx hb dX12_choice_35 rfl (lv_at hl 0 rfl) ?_
        refine lv_iconst (v := 0) hx hb dX12_choice_36 (by decide) ?_
        obtain ⟨r4, hc4, h⟩ := ob_ex h
        refine nc_Vi (As := [.int 33, .int r1.1, .int r3.1, .int 0]) (rest := []) ⟨hx, hb, hml, hown, hts⟩ (c_x_node l dC dI cy a k (upd (upd (upd (upd (fun _ => 0) 1 33) 2 r1.1) 3 r3.1) 4 0) r3.2 r4 hc4 H.size) (cwV 4 hts g_x_choice_node_101 rfl rfl rfl hd_x_node (by show 0 + 1 ≤ 5 + d ∧ 8 + (6 + 11) + 0 ≤ 113 + 31 * d; omega)) hK hG hA hP hD hS rfl hl.1 rfl (Nat.le_of_ble_eq_true rfl) dX12_choice_37 ⟨Nat.le_refl _, Nat.le_refl _⟩ (fun H locs hP hD hS => ?_)
        refine lv_istore_n (lv' := [(3, .int r4.1), (2, .int r3.1), (1, .int r1.1), (0, .ref (a 0))]) hx hb dX12_choice_40 rfl hl (by decide) rfl (fun ls hl => ?_)
        refine lv_iload_n hx hb dX12_choice_41 rfl (lv_at hl 0 rfl) ?_
        refine lv_istore (lv' := [(4, .int r4.1), (3, .int r4.1), (2, .int r3.1), (1, .int r1.1), (0, .ref (a 0))]) hx hb dX12_choice_42 hl (by decide) rfl (fun ls hl => ?_)
        exact ih.2.2.1 (upd (upd (upd (upd L 1 r1.1) 2 r3.1) 3 r4.1) 4 r4.1) r4.2 r h H locs ls hP hD hS (lv_sub hl [4, 3, 2, 1, 0] rfl)
      · intro L σ r h H locs ls hP hD hS hl
        rw [x_GE_1, s_choice_2] at h
        refine lv_aload_n hx hb dX12_choice_44 rfl (lv_at hl 0 rfl) ?_
        refine ng_10 hx hb hts in_x_choice hown hK hP (hts _ (List.mem_cons_of_mem _ (List.mem_append_left _ (List.mem_append_left _ (List.mem_of_getElem? (i := 24) rfl))))) dX12_choice_45 ?_
        refine lv_if_ne (tgt := 108) hx hb dX12_choice_48 (by decide) (fun c1 => ?_) (fun c1 => ?_)
        · rw [if_neg c1] at h
          exact ih.2.2.2.2.1 L σ r h H locs ls hP hD hS (lv_sub hl [0, 1, 2, 3, 4] rfl)
        · rw [if_pos c1] at h
          refine lv_aload_n hx hb dX12_choice_51 rfl (lv_at hl 0 rfl) ?_
          refine lv_bipush (v := 9) hx hb dX12_choice_52 (by decide) ?_
          obtain ⟨r2, hc2, h⟩ := ob_ex h
          refine nc_Vi (As := [.int 9]) (rest := []) ⟨hx, hb, hml, hown, hts⟩ (c_x_isWord l dC dI cy a k (upd (fun _ => 0) 1 9) σ r2 hc2 H.size) (cwV 1 hts g_x_choice_isWord_74 rfl rfl rfl hd_x_isWord (by show 0 + 1 ≤ 5 + d ∧ 8 + (2 + 11) + 0 ≤ 113 + 31 * d; omega)) hK hG hA hP hD hS rfl hl.1 rfl (Nat.le_of_ble_eq_true rfl) dX12_choice_54 ⟨Nat.le_refl _, Nat.le_refl _⟩ (fun H locs hP hD hS => ?_)
          refine lv_if_eq (tgt := 108) hx hb dX12_choice_57 (by decide) (fun c3 => ?_) (fun c3 => ?_)
          · rw [if_pos c3] at h
            exact ih.2.2.2.2.1 L r2.2 r h H locs ls hP hD hS (lv_sub hl [0, 1, 2, 3, 4] rfl)
          · rw [if_neg c3] at h
            refine lv_aload_n hx hb dX12_choice_60 rfl (lv_at hl 0 rfl) ?_
            obtain ⟨r4, hc4, h⟩ := ob_ex h
            refine nc_Vv (As := []) (rest := []) ⟨hx, hb, hml, hown, hts⟩ (c_x_take l dC dI cy a k (fun _ => 0) r2.2 r4 hc4 H.size) (cwV 0 hts g_x_choice_take_71 rfl rfl rfl hd_x_take (by show 2 + 1 ≤ 5 + d ∧ 8 + (2 + 11) + 43 ≤ 113 + 31 * d; omega)) hK hG hA hP hD hS rfl hl.1 rfl (Nat.le_of_ble_eq_true rfl) dX12_choice_61 ⟨Nat.le_refl _, Nat.le_refl _⟩ (fun H locs hP hD hS => ?_)
            refine lv_aload_n hx hb dX12_choice_64 rfl (lv_at hl 0 rfl) ?_
            obtain ⟨e5, he5, h⟩ := od_ex h
            obtain ⟨r5, hc5, h⟩ := ob_ex h
            refine nc_Vi (As := []) (rest := []) ⟨hx, hb, hml, hown, hts⟩ ((IH k (by omega)).2.2.2.1 e5 (fun _ => 0) r4.2 r5 hc5 H.size) (cwV 0 hts g_x_choice_exp_209 rfl rfl rfl hd_x_exp (by show (5 + e5) + 1 ≤ 5 + d ∧ 8 + (2 + 11) + (113 + 31 * e5) ≤ 113 + 31 * d; omega)) hK hG hA hP hD hS rfl hl.1 rfl (Nat.le_of_ble_eq_true rfl) dX12_choice_65 ⟨Nat.le_refl _, Nat.le_refl _⟩ (fun H locs hP hD hS => ?_)
            refine lv_istore_n (lv' := [(1, .int r5.1), (0, .ref (a 0)), (2, .int (L 2)), (3, .int (L 3)), (4, .int (L 4))]) hx hb dX12_choice_68 rfl hl (by decide) rfl (fun ls hl => ?_)
            refine lv_aload_n hx hb dX12_choice_69 rfl (lv_at hl 1 rfl) ?_
            refine lv_bipush (v := 8) hx hb dX12_choice_70 (by decide) ?_
            obtain ⟨r6, hc6, h⟩ := ob_ex h
            refine nc_Vv (As := [.int 8]) (rest := []) ⟨hx, hb, hml, hown, hts⟩ (c_x_wantWord l dC dI cy a k (upd (fun _ => 0) 1 8) r5.2 r6 hc6 H.size) (cwV 1 hts g_x_choice_wantWord_253 rfl rfl rfl hd_x_wantWord (by show 3 + 1 ≤ 5 + d ∧ 8 + (2 + 11) + 64 ≤ 113 + 31 * d; omega)) hK hG hA hP hD hS rfl hl.1 rfl (Nat.le_of_ble_eq_true rfl) dX12_choice_72 ⟨Nat.le_refl _, Nat.le_refl _⟩ (fun H locs hP hD hS => ?_)
            refine lv_aload_n hx hb dX12_choice_75 rfl (lv_at hl 1 rfl) ?_
            obtain ⟨e7, he7, h⟩ := od_ex h
            obtain ⟨r7, hc7, h⟩ := ob_ex h
            refine nc_Vi (As := []) (rest := []) ⟨hx, hb, hml, hown, hts⟩ ((IH k (by omega)).2.2.2.1 e7 (fun _ => 0) r6.2 r7 hc7 H.size) (cwV 0 hts g_x_choice_exp_209 rfl rfl rfl hd_x_exp (by show (5 + e7) + 1 ≤ 5 + d ∧ 8 + (2 + 11) + (113 + 31 * e7) ≤ 113 + 31 * d; omega)) hK hG hA hP hD hS rfl hl.1 rfl (Nat.le_of_ble_eq_true rfl) dX12_choice_76 ⟨Nat.le_refl _, Nat.le_refl _⟩ (fun H locs hP hD hS => ?_)
            refine lv_istore_n (lv' := [(2, .int r7.1), (1, .int r5.1), (0, .ref (a 0)), (3, .int (L 3)), (4, .int (L 4))]) hx hb dX12_choice_79 rfl hl (by decide) rfl (fun ls hl => ?_)
            refine lv_aload_n hx hb dX12_choice_80 rfl (lv_at hl 2 rfl) ?_
            refine ng_19 hx hb hts in_x_choice hown hK hP (hts _ (List.mem_cons_of_mem _ (List.mem_append_left _ (List.mem_append_left _ (List.mem_of_getElem? (i := 54) rfl))))) dX12_choice_81 ?_
            refine lv_iload hx hb dX12_choice_84 (lv_at hl 4 rfl) ?_
            refine lv_aload_n hx hb dX12_choice_86 rfl (lv_at hl 2 rfl) ?_
            refine lv_bipush (v := 33) hx hb dX12_choice_87 (by decide) ?_
            refine lv_iload_n hx hb dX12_choice_89 rfl (lv_at hl 1 rfl) ?_
            refine lv_iload_n hx hb dX12_choice_90 rfl (lv_at hl 0 rfl) ?_
            refine lv_iconst (v := 0) hx hb dX12_choice_91 (by decide) ?_
            obtain ⟨r8, hc8, h⟩ := ob_ex h
            refine nc_Vi (As := [.int 33, .int r5.1, .int r7.1, .int 0]) (rest := [.int (L 4), .ref (a 9)]) ⟨hx, hb, hml, hown, hts⟩ (c_x_node l dC dI cy a k (upd (upd (upd (upd (fun _ => 0) 1 33) 2 r5.1) 3 r7.1) 4 0) r7.2 r8 hc8 H.size) (cwV 4 hts g_x_choice_node_101 rfl rfl rfl hd_x_node (by show 0 + 1 ≤ 5 + d ∧ 8 + (6 + 11) + 0 ≤ 113 + 31 * d; omega)) hK hG hA hP hD hS rfl hl.1 rfl (Nat.le_of_ble_eq_true rfl) dX12_choice_92 ⟨Nat.le_refl _, Nat.le_refl _⟩ (fun H locs hP hD hS => ?_)
            obtain ⟨q9, h⟩ := nb_ite1 h
            refine ns_9 hx hb hK hP hD hS q9 dX12_choice_95 (fun H locs hP hD hS => ?_)
            exact ih.2.2.2.1 (upd (upd L 1 r5.1) 2 r7.1) (r8.2.1, r8.2.2.1, updG r8.2.2.2 9 (upd (r8.2.2.2 9) ((L 4)).toNatClampNeg r8.1)) r h H locs ls hP hD hS (lv_sub hl [2, 1, 0, 3, 4] rfl)
      · intro L σ r h H locs ls hP hD hS hl
        rw [x_GE_1, s_choice_3] at h
        refine lv_aload_n hx hb dX12_choice_96 rfl (lv_at hl 0 rfl) ?_
        refine ng_19 hx hb hts in_x_choice hown hK hP (hts _ (List.mem_cons_of_mem _ (List.mem_append_left _ (List.mem_append_left _ (List.mem_of_getElem? (i := 54) rfl))))) dX12_choice_97 ?_
        refine lv_iload hx hb dX12_choice_100 (lv_at hl 4 rfl) ?_
        obtain ⟨q1, h⟩ := nb_ite1 h
        refine nl_9 hx hb hK hP q1 dX12_choice_102 ?_
        refine lv_istore (lv' := [(4, .int (σ.2.2 9 ((L 4)).toNatClampNeg)), (0, .ref (a 0)), (1, .int (L 1)), (2, .int (L 2)), (3, .int (L 3))]) hx hb dX12_choice_103 hl (by decide) rfl (fun ls hl => ?_)
        refine lv_goto (tgt := 44) hx hb dX12_choice_105 (by decide) ?_
        exact ih.2.2.1 (upd L 4 ((σ.2.2 9 ((L 4)).toNatClampNeg))) σ r h H locs ls hP hD hS (lv_sub hl [1, 2, 3, 4, 0] rfl)
      · intro L σ r h H locs ls hP hD hS hl
        rw [x_GE_1, s_choice_4] at h
        refine lv_aload_n hx hb dX12_choice_108 rfl (lv_at hl 0 rfl) ?_
        refine lv_bipush (v := 10) hx hb dX12_choice_109 (by decide) ?_
        obtain ⟨r1, hc1, h⟩ := ob_ex h
        refine nc_Vv (As := [.int 10]) (rest := []) ⟨hx, hb, hml, hown, hts⟩ (c_x_wantWord l dC dI cy a k (upd (fun _ => 0) 1 10) σ r1 hc1 H.size) (cwV 1 hts g_x_choice_wantWord_253 rfl rfl rfl hd_x_wantWord (by show 3 + 1 ≤ 5 + d ∧ 8 + (2 + 11) + 64 ≤ 113 + 31 * d; omega)) hK hG hA hP hD hS rfl hl.1 rfl (Nat.le_of_ble_eq_true rfl) dX12_choice_111 ⟨Nat.le_refl _, Nat.le_refl _⟩ (fun H locs hP hD hS => ?_)
        refine lv_aload_n hx hb dX12_choice_114 rfl (lv_at hl 0 rfl) ?_
        obtain ⟨e2, he2, h⟩ := od_ex h
        obtain ⟨r2, hc2, h⟩ := ob_ex h
        refine nc_Vi (As := []) (rest := []) ⟨hx, hb, hml, hown, hts⟩ ((IH k (by omega)).2.2.2.1 e2 (fun _ => 0) r1.2 r2 hc2 H.size) (cwV 0 hts g_x_choice_exp_209 rfl rfl rfl hd_x_exp (by show (5 + e2) + 1 ≤ 5 + d ∧ 8 + (2 + 11) + (113 + 31 * e2) ≤ 113 + 31 * d; omega)) hK hG hA hP hD hS rfl hl.1 rfl (Nat.le_of_ble_eq_true rfl) dX12_choice_115 ⟨Nat.le_refl _, Nat.le_refl _⟩ (fun H locs hP hD hS => ?_)
        refine lv_istore_n (lv' := [(2, .int r2.1), (0, .ref (a 0)), (1, .int (L 1)), (3, .int (L 3)), (4, .int (L 4))]) hx hb dX12_choice_118 rfl hl (by decide) rfl (fun ls hl => ?_)
        refine lv_aload_n hx hb dX12_choice_119 rfl (lv_at hl 1 rfl) ?_
        refine ng_19 hx hb hts in_x_choice hown hK hP (hts _ (List.mem_cons_of_mem _ (List.mem_append_left _ (List.mem_append_left _ (List.mem_of_getElem? (i := 54) rfl))))) dX12_choice_120 ?_
        refine lv_iload hx hb dX12_choice_123 (lv_at hl 4 rfl) ?_
        refine lv_aload_n hx hb dX12_choice_125 rfl (lv_at hl 1 rfl) ?_
        refine lv_bipush (v := 33) hx hb dX12_choice_126 (by decide) ?_
        refine lv_iconst (v := (-1)) hx hb dX12_choice_128 (by decide) ?_
        refine lv_iload_n hx hb dX12_choice_129 rfl (lv_at hl 0 rfl) ?_
        refine lv_iconst (v := 0) hx hb dX12_choice_130 (by decide) ?_
        obtain ⟨r3, hc3, h⟩ := ob_ex h
        refine nc_Vi (As := [.int 33, .int (-1), .int r2.1, .int 0]) (rest := [.int (L 4), .ref (a 9)]) ⟨hx, hb, hml, hown, hts⟩ (c_x_node l dC dI cy a k (upd (upd (upd (upd (fun _ => 0) 1 33) 2 ((-1))) 3 r2.1) 4 0) r2.2 r3 hc3 H.size) (cwV 4 hts g_x_choice_node_101 rfl rfl rfl hd_x_node (by show 0 + 1 ≤ 5 + d ∧ 8 + (6 + 11) + 0 ≤ 113 + 31 * d; omega)) hK hG hA hP hD hS rfl hl.1 rfl (Nat.le_of_ble_eq_true rfl) dX12_choice_131 ⟨Nat.le_refl _, Nat.le_refl _⟩ (fun H locs hP hD hS => ?_)
        obtain ⟨q4, h⟩ := nb_ite1 h
        refine ns_9 hx hb hK hP hD hS q4 dX12_choice_134 (fun H locs hP hD hS => ?_)
        exact ih.2.2.2.2.2.1 (upd L 2 r2.1) (r3.2.1, r3.2.2.1, updG r3.2.2.2 9 (upd (r3.2.2.2 9) ((L 4)).toNatClampNeg r3.1)) r h H locs ls hP hD hS (lv_sub hl [1, 2, 0, 3, 4] rfl)
      · intro L σ r h H locs ls hP hD hS hl
        rw [x_GE_1, s_choice_5] at h
        refine lv_aload_n hx hb dX12_choice_135 rfl (lv_at hl 0 rfl) ?_
        refine lv_bipush (v := 6) hx hb dX12_choice_136 (by decide) ?_
        obtain ⟨r1, hc1, h⟩ := ob_ex h
        refine nc_Vv (As := [.int 6]) (rest := []) ⟨hx, hb, hml, hown, hts⟩ (c_x_wantWord l dC dI cy a k (upd (fun _ => 0) 1 6) σ r1 hc1 H.size) (cwV 1 hts g_x_choice_wantWord_253 rfl rfl rfl hd_x_wantWord (by show 3 + 1 ≤ 5 + d ∧ 8 + (2 + 11) + 64 ≤ 113 + 31 * d; omega)) hK hG hA hP hD hS rfl hl.1 rfl (Nat.le_of_ble_eq_true rfl) dX12_choice_138 ⟨Nat.le_refl _, Nat.le_refl _⟩ (fun H locs hP hD hS => ?_)
        refine lv_aload_n hx hb dX12_choice_141 rfl (lv_at hl 0 rfl) ?_
        refine lv_dup hx hb dX12_choice_142 rfl ?_
        refine ng_13 hx hb hts in_x_choice hown hK hP (hts _ (List.mem_cons_of_mem _ (List.mem_append_left _ (List.mem_append_left _ (List.mem_of_getElem? (i := 50) rfl))))) dX12_choice_143 ?_
        refine lv_iconst (v := 1) hx hb dX12_choice_146 (by decide) ?_
        refine lv_isub hx hb dX12_choice_147 ?_
        refine np_13 hx hb hts in_x_choice hown hK hP hD hS (hts _ (List.mem_cons_of_mem _ (List.mem_append_left _ (List.mem_append_left _ (List.mem_of_getElem? (i := 50) rfl))))) dX12_choice_148 (fun H locs hP hD hS => ?_)
        exact ih.2.2.2.2.2.2 L (upd r1.2.1 13 ((((r1.2.1 13)) - 1)), r1.2.2.1, r1.2.2.2) r h H locs ls hP hD hS (lv_sub hl [0, 1, 2, 3, 4] rfl)
      · intro L σ r h H locs ls hP hD hS hl
        rw [x_GE_1, s_choice_6] at h
        refine lv_aload_n hx hb dX12_choice_151 rfl (lv_at hl 0 rfl) ?_
        refine lv_bipush (v := 15) hx hb dX12_choice_152 (by decide) ?_
        refine lv_iconst (v := 0) hx hb dX12_choice_154 (by decide) ?_
        refine lv_iload_n hx hb dX12_choice_155 rfl (lv_at hl 3 rfl) ?_
        refine lv_iconst (v := 0) hx hb dX12_choice_156 (by decide) ?_
        obtain ⟨r1, hc1, h⟩ := ob_ex h
        refine nc_Vi (As := [.int 15, .int 0, .int (L 3), .int 0]) (rest := []) ⟨hx, hb, hml, hown, hts⟩ (c_x_node l dC dI cy a k (upd (upd (upd (upd (fun _ => 0) 1 15) 2 0) 3 ((L 3))) 4 0) σ r1 hc1 H.size) (cwV 4 hts g_x_choice_node_101 rfl rfl rfl hd_x_node (by show 0 + 1 ≤ 5 + d ∧ 8 + (6 + 11) + 0 ≤ 113 + 31 * d; omega)) hK hG hA hP hD hS rfl hl.1 rfl (Nat.le_of_ble_eq_true rfl) dX12_choice_157 ⟨Nat.le_refl _, Nat.le_refl _⟩ (fun H locs hP hD hS => ?_)
        cases h
        exact W.iret (v := r1.1) hx hb hr (fun t ht hW => ⟨⟨r1.1, (), rfl, rfl, by rw [ht]; exact hP, va_K.moved hW.alike hK, hD⟩, hS.F ht⟩) hS.2.2 dX12_choice_160
  exact (blk k0 (Nat.le_refl _)).1 L0 σ0 r0 h0 s.heap [] ls hP hD hS hl
theorem gg_x_conjunction_isWord : GoodIn w_x_conjunction w_x_isWord := goodIn_sub (fun w h => (List.mem_cons.mp h).elim (fun e => (List.mem_cons_of_mem _ (List.mem_append_left _ (List.mem_append_right _ (List.mem_append_right _ (List.mem_append_right _ (List.mem_append_right _ (List.mem_append_right _ (List.mem_append_left _ (List.mem_cons.mpr (Or.inl e))))))))))) (fun h => (List.mem_append.mp h).elim (fun h => (List.mem_cons_of_mem _ (List.mem_append_left _ (List.mem_append_right _ (List.mem_append_right _ (List.mem_append_right _ (List.mem_append_right _ (List.mem_append_right _ (List.mem_append_left _ (List.mem_cons_of_mem _ h)))))))))) (fun h => List.mem_cons_of_mem _ (List.mem_append_right _ h)))) w_x_isWord_good
theorem g_x_conjunction_isWord_74 : GoodIn w_x_conjunction (wsV RX12 74 RX12 yX12_isWord w_x_isWord) := goodIn_app (nb_g4 (List.mem_cons_of_mem _ (List.mem_append_left _ (List.mem_append_left _ (List.mem_of_getElem? (i := 31) rfl)))) (List.mem_cons_of_mem _ (List.mem_append_left _ (List.mem_append_left _ (List.mem_of_getElem? (i := 32) rfl)))) (List.mem_cons_of_mem _ (List.mem_append_left _ (List.mem_append_left _ (List.mem_of_getElem? (i := 33) rfl)))) (List.mem_cons_of_mem _ (List.mem_append_left _ (List.mem_append_left _ (List.mem_of_getElem? (i := 20) rfl)))) (by decide +kernel)) gg_x_conjunction_isWord
theorem gg_x_conjunction_negation : GoodIn w_x_conjunction w_x_negation := goodIn_sub (fun w h => (List.mem_cons.mp h).elim (fun e => e ▸ (List.mem_cons_of_mem _ (List.mem_append_left _ (List.mem_append_left _ (List.mem_of_getElem? (i := 7) rfl))))) (fun h => List.mem_cons_of_mem _ h)) w_x_negation_good
theorem g_x_conjunction_negation_171 : GoodIn w_x_conjunction (wsV RX12 171 RX12 yX12_negation w_x_negation) := goodIn_app (nb_g4 (List.mem_cons_of_mem _ (List.mem_append_left _ (List.mem_append_left _ (List.mem_of_getElem? (i := 55) rfl)))) (List.mem_cons_of_mem _ (List.mem_append_left _ (List.mem_append_left _ (List.mem_of_getElem? (i := 56) rfl)))) (List.mem_cons_of_mem _ (List.mem_append_left _ (List.mem_append_left _ (List.mem_of_getElem? (i := 57) rfl)))) (List.mem_cons_of_mem _ (List.mem_append_left _ (List.mem_append_left _ (List.mem_of_getElem? (i := 20) rfl)))) (by decide +kernel)) gg_x_conjunction_negation
theorem gg_x_conjunction_over : GoodIn w_x_conjunction w_x_over := goodIn_sub (fun w h => (List.mem_cons.mp h).elim (fun e => (List.mem_cons_of_mem _ (List.mem_append_left _ (List.mem_append_right _ (List.mem_append_right _ (List.mem_append_right _ (List.mem_append_right _ (List.mem_append_right _ (List.mem_append_right _ (List.mem_append_right _ (List.mem_append_right _ (List.mem_append_right _ (List.mem_append_left _ (List.mem_cons.mpr (Or.inl e))))))))))))))) (fun h => (List.mem_append.mp h).elim (fun h => (List.mem_cons_of_mem _ (List.mem_append_left _ (List.mem_append_right _ (List.mem_append_right _ (List.mem_append_right _ (List.mem_append_right _ (List.mem_append_right _ (List.mem_append_right _ (List.mem_append_right _ (List.mem_append_right _ (List.mem_append_right _ (List.mem_append_left _ (List.mem_cons_of_mem _ h)))))))))))))) (fun h => List.mem_cons_of_mem _ (List.mem_append_right _ h)))) w_x_over_good
theorem g_x_conjunction_over_168 : GoodIn w_x_conjunction (wsV RX12 168 RX12 yX12_over w_x_over) := goodIn_app (nb_g4 (List.mem_cons_of_mem _ (List.mem_append_left _ (List.mem_append_left _ (List.mem_of_getElem? (i := 58) rfl)))) (List.mem_cons_of_mem _ (List.mem_append_left _ (List.mem_append_left _ (List.mem_of_getElem? (i := 59) rfl)))) (List.mem_cons_of_mem _ (List.mem_append_left _ (List.mem_append_left _ (List.mem_of_getElem? (i := 60) rfl)))) (List.mem_cons_of_mem _ (List.mem_append_left _ (List.mem_append_left _ (List.mem_of_getElem? (i := 20) rfl)))) (by decide +kernel)) gg_x_conjunction_over
theorem gg_x_conjunction_take : GoodIn w_x_conjunction w_x_take := goodIn_sub (fun w h => (List.mem_cons.mp h).elim (fun e => (List.mem_cons_of_mem _ (List.mem_append_left _ (List.mem_append_right _ (List.mem_append_right _ (List.mem_append_right _ (List.mem_append_left _ (List.mem_cons.mpr (Or.inl e))))))))) (fun h => (List.mem_append.mp h).elim (fun h => (List.mem_cons_of_mem _ (List.mem_append_left _ (List.mem_append_right _ (List.mem_append_right _ (List.mem_append_right _ (List.mem_append_left _ (List.mem_cons_of_mem _ h)))))))) (fun h => List.mem_cons_of_mem _ (List.mem_append_right _ h)))) w_x_take_good
theorem g_x_conjunction_take_71 : GoodIn w_x_conjunction (wsV RX12 71 RX12 yX12_take w_x_take) := goodIn_app (nb_g4 (List.mem_cons_of_mem _ (List.mem_append_left _ (List.mem_append_left _ (List.mem_of_getElem? (i := 25) rfl)))) (List.mem_cons_of_mem _ (List.mem_append_left _ (List.mem_append_left _ (List.mem_of_getElem? (i := 26) rfl)))) (List.mem_cons_of_mem _ (List.mem_append_left _ (List.mem_append_left _ (List.mem_of_getElem? (i := 27) rfl)))) (List.mem_cons_of_mem _ (List.mem_append_left _ (List.mem_append_left _ (List.mem_of_getElem? (i := 20) rfl)))) (by decide +kernel)) gg_x_conjunction_take
set_option maxHeartbeats 40000000 in
set_option maxRecDepth 100000 in
theorem c_s_conjunction (l : Launch) (dC : Nat → ClassId) (dI : Nat → Nat → Nat) (cy : Nat → ClassId) (a : Nat → Nat) (k0 : Nat) (IH : ∀ j : Nat, j < k0 → P_GE l dC dI cy a j) (d : Nat) (L0 : Nat → Int32) (σ0 : MS) (r0 : Int32 × MS) (h0 : x_GE k0 d 2 0 L0 σ0 = some r0) (sz : Nat) : Met l yX12_conjunction w_x_conjunction ({ frames := 5 + d, cells := 0, slots := 0, locals := 113 + 31 * d }) (va_Pc [.ref (a 0)] (nIn (dC, dI) cy sz (vM cy a σ0))) (va_Qi (fun (z : Int32) (_ : Unit) => z = r0.1) (fun _ t => nOut (dC, dI) cy (va_A (vM cy a σ0) sz) (vM cy a r0.2) t) (va_A (vM cy a σ0) sz)) 0 0 (va_A (vM cy a σ0) sz) := by
  refine Met.ofW (cc := cX12_conjunction) (maxL := 2) (ret := (some .int)) (by decide) rfl ?_
  intro p e s m args below meth c s₁ B hml hv
  obtain ⟨rfl, hsz, hP, hK, hD0, hG⟩ := hv
  have hx := B.exec
  have hb := B.bytes
  have hr := B.returns
  have hts := atoms_spec (ws := w_x_conjunction) B.pre
  have hown : s.vm.findClass RX12 = some m.cls := findClass_of_methodNamed B.named
  have hlocks := B.notSynchronized
  subst hsz
  have hD := hD0.self (sz := s.heap.size)
  generalize hAe : va_A (vM cy a σ0) s.heap.size = A at hD ⊢
  have hA : ∀ q : Nat, s.heap.size ≤ q → A q := fun q h => by rw [← hAe]; exact Or.inr h
  have hS : va_S A s.heap s.heap [] := va_S.rf
  have hl := lv_entry ([.ref (a 0)]) (n := 2) (Nat.le_of_ble_eq_true rfl)
  rw [lg_entry_eq]
  generalize (lg_sl ([.ref (a 0)]) ++ List.replicate (2 - (lg_sl ([.ref (a 0)])).length) Slot.unset).toArray = ls at hl ⊢
  have hl : lv_has ls 2 [(0, .ref (a 0))] := hl
  have blk : ∀ k : Nat, k ≤ k0 → (bT p l e (headSpec w_x_conjunction ({ frames := 5 + d, cells := 0, slots := 0, locals := 113 + 31 * d })).room s m #[.ref (a 0)] below meth c dC dI cy a A (qI dC dI cy a A below #[.ref (a 0)] s) 2 (x_GE k d 2 0) (fun L => [(0, .ref (a 0))]) 0 (fun L => [])) ∧ (bT p l e (headSpec w_x_conjunction ({ frames := 5 + d, cells := 0, slots := 0, locals := 113 + 31 * d })).room s m #[.ref (a 0)] below meth c dC dI cy a A (qI dC dI cy a A below #[.ref (a 0)] s) 2 (x_GE k d 2 1) (fun L => [(0, .ref (a 0)), (1, .int (L 1))]) 5 (fun L => [])) ∧ (bT p l e (headSpec w_x_conjunction ({ frames := 5 + d, cells := 0, slots := 0, locals := 113 + 31 * d })).room s m #[.ref (a 0)] below meth c dC dI cy a A (qI dC dI cy a A below #[.ref (a 0)] s) 2 (x_GE k d 2 2) (fun L => [(0, .ref (a 0)), (1, .int (L 1))]) 41 (fun L => [])) := by
    intro k
    induction k with
    | zero => exact fun _ => ⟨fun L σ r h => (by cases h), fun L σ r h => (by cases h), fun L σ r h => (by cases h)⟩
    | succ k ih =>
      intro hk
      replace ih := ih (by omega)
      refine ⟨?_, ?_, ?_⟩
      · intro L σ r h H locs ls hP hD hS hl
        rw [x_GE_2, s_conjunction_0] at h
        refine lv_aload_n hx hb dX12_conjunction_0 rfl (lv_at hl 0 rfl) ?_
        obtain ⟨e1, he1, h⟩ := od_ex h
        obtain ⟨r1, hc1, h⟩ := ob_ex h
        refine nc_Vi (As := []) (rest := []) ⟨hx, hb, hml, hown, hts⟩ ((IH k (by omega)).2.2.2.2.2.2.2.1 e1 (fun _ => 0) σ r1 hc1 H.size) (cwV 0 hts g_x_conjunction_negation_171 rfl rfl rfl hd_x_negation (by show (5 + e1) + 1 ≤ 5 + d ∧ 8 + (2 + 11) + (113 + 31 * e1) ≤ 113 + 31 * d; omega)) hK hG hA hP hD hS rfl hl.1 rfl (Nat.le_of_ble_eq_true rfl) dX12_conjunction_1 ⟨Nat.le_refl _, Nat.le_refl _⟩ (fun H locs hP hD hS => ?_)
        refine lv_istore_n (lv' := [(1, .int r1.1), (0, .ref (a 0))]) hx hb dX12_conjunction_4 rfl hl (by decide) rfl (fun ls hl => ?_)
        exact ih.2.1 (upd L 1 r1.1) r1.2 r h H locs ls hP hD hS (lv_sub hl [1, 0] rfl)
      · intro L σ r h H locs ls hP hD hS hl
        rw [x_GE_2, s_conjunction_1] at h
        refine lv_aload_n hx hb dX12_conjunction_5 rfl (lv_at hl 0 rfl) ?_
        refine ng_10 hx hb hts in_x_conjunction hown hK hP (hts _ (List.mem_cons_of_mem _ (List.mem_append_left _ (List.mem_append_left _ (List.mem_of_getElem? (i := 24) rfl))))) dX12_conjunction_6 ?_
        refine lv_if_ne (tgt := 41) hx hb dX12_conjunction_9 (by decide) (fun c1 => ?_) (fun c1 => ?_)
        · rw [if_neg c1] at h
          exact ih.2.2 L σ r h H locs ls hP hD hS (lv_sub hl [0, 1] rfl)
        · rw [if_pos c1] at h
          refine lv_aload_n hx hb dX12_conjunction_12 rfl (lv_at hl 0 rfl) ?_
          refine lv_bipush (v := 32) hx hb dX12_conjunction_13 (by decide) ?_
          obtain ⟨r2, hc2, h⟩ := ob_ex h
          refine nc_Vi (As := [.int 32]) (rest := []) ⟨hx, hb, hml, hown, hts⟩ (c_x_isWord l dC dI cy a k (upd (fun _ => 0) 1 32) σ r2 hc2 H.size) (cwV 1 hts g_x_conjunction_isWord_74 rfl rfl rfl hd_x_isWord (by show 0 + 1 ≤ 5 + d ∧ 8 + (2 + 11) + 0 ≤ 113 + 31 * d; omega)) hK hG hA hP hD hS rfl hl.1 rfl (Nat.le_of_ble_eq_true rfl) dX12_conjunction_15 ⟨Nat.le_refl _, Nat.le_refl _⟩ (fun H locs hP hD hS => ?_)
          refine lv_if_eq (tgt := 41) hx hb dX12_conjunction_18 (by decide) (fun c3 => ?_) (fun c3 => ?_)
          · rw [if_pos c3] at h
            exact ih.2.2 L r2.2 r h H locs ls hP hD hS (lv_sub hl [0, 1] rfl)
          · rw [if_neg c3] at h
            refine lv_aload_n hx hb dX12_conjunction_21 rfl (lv_at hl 0 rfl) ?_
            obtain ⟨r4, hc4, h⟩ := ob_ex h
            refine nc_Vv (As := []) (rest := []) ⟨hx, hb, hml, hown, hts⟩ (c_x_take l dC dI cy a k (fun _ => 0) r2.2 r4 hc4 H.size) (cwV 0 hts g_x_conjunction_take_71 rfl rfl rfl hd_x_take (by show 2 + 1 ≤ 5 + d ∧ 8 + (2 + 11) + 43 ≤ 113 + 31 * d; omega)) hK hG hA hP hD hS rfl hl.1 rfl (Nat.le_of_ble_eq_true rfl) dX12_conjunction_22 ⟨Nat.le_refl _, Nat.le_refl _⟩ (fun H locs hP hD hS => ?_)
            refine lv_aload_n hx hb dX12_conjunction_25 rfl (lv_at hl 0 rfl) ?_
            refine lv_bipush (v := 24) hx hb dX12_conjunction_26 (by decide) ?_
            refine lv_iconst (v := 0) hx hb dX12_conjunction_28 (by decide) ?_
            refine lv_iload_n hx hb dX12_conjunction_29 rfl (lv_at hl 1 rfl) ?_
            refine lv_aload_n hx hb dX12_conjunction_30 rfl (lv_at hl 0 rfl) ?_
            obtain ⟨e5, he5, h⟩ := od_ex h
            obtain ⟨r5, hc5, h⟩ := ob_ex h
            refine nc_Vi (As := []) (rest := [.int (L 1), .int 0, .int 24, .ref (a 0)]) ⟨hx, hb, hml, hown, hts⟩ ((IH k (by omega)).2.2.2.2.2.2.2.1 e5 (fun _ => 0) r4.2 r5 hc5 H.size) (cwV 0 hts g_x_conjunction_negation_171 rfl rfl rfl hd_x_negation (by show (5 + e5) + 1 ≤ 5 + d ∧ 8 + (2 + 11) + (113 + 31 * e5) ≤ 113 + 31 * d; omega)) hK hG hA hP hD hS rfl hl.1 rfl (Nat.le_of_ble_eq_true rfl) dX12_conjunction_31 ⟨Nat.le_refl _, Nat.le_refl _⟩ (fun H locs hP hD hS => ?_)
            obtain ⟨r6, hc6, h⟩ := ob_ex h
            refine nc_Vi (As := [.int 24, .int 0, .int (L 1), .int r5.1]) (rest := []) ⟨hx, hb, hml, hown, hts⟩ (c_x_over l dC dI cy a k (upd (upd (upd (upd (fun _ => 0) 1 24) 2 0) 3 ((L 1))) 4 r5.1) r5.2 r6 hc6 H.size) (cwV 4 hts g_x_conjunction_over_168 rfl rfl rfl hd_x_over (by show 1 + 1 ≤ 5 + d ∧ 8 + (6 + 11) + 25 ≤ 113 + 31 * d; omega)) hK hG hA hP hD hS rfl hl.1 rfl (Nat.le_of_ble_eq_true rfl) dX12_conjunction_34 ⟨Nat.le_refl _, Nat.le_refl _⟩ (fun H locs hP hD hS => ?_)
            refine lv_istore_n (lv' := [(1, .int r6.1), (0, .ref (a 0))]) hx hb dX12_conjunction_37 rfl hl (by decide) rfl (fun ls hl => ?_)
            refine lv_goto (tgt := 5) hx hb dX12_conjunction_38 (by decide) ?_
            exact ih.2.1 (upd L 1 r6.1) r6.2 r h H locs ls hP hD hS (lv_sub hl [1, 0] rfl)
      · intro L σ r h H locs ls hP hD hS hl
        rw [x_GE_2, s_conjunction_2] at h
        refine lv_iload_n hx hb dX12_conjunction_41 rfl (lv_at hl 1 rfl) ?_
        cases h
        exact W.iret (v := (L 1)) hx hb hr (fun t ht hW => ⟨⟨(L 1), (), rfl, rfl, by rw [ht]; exact hP, va_K.moved hW.alike hK, hD⟩, hS.F ht⟩) hS.2.2 dX12_conjunction_42
  exact (blk k0 (Nat.le_refl _)).1 L0 σ0 r0 h0 s.heap [] ls hP hD hS hl
theorem gg_x_exp_conjunction : GoodIn w_x_exp w_x_conjunction := goodIn_sub (fun w h => (List.mem_cons.mp h).elim (fun e => e ▸ (List.mem_cons_of_mem _ (List.mem_append_left _ (List.mem_append_left _ (List.mem_of_getElem? (i := 2) rfl))))) (fun h => List.mem_cons_of_mem _ h)) w_x_conjunction_good
theorem g_x_exp_conjunction_164 : GoodIn w_x_exp (wsV RX12 164 RX12 yX12_conjunction w_x_conjunction) := goodIn_app (nb_g4 (List.mem_cons_of_mem _ (List.mem_append_left _ (List.mem_append_left _ (List.mem_of_getElem? (i := 61) rfl)))) (List.mem_cons_of_mem _ (List.mem_append_left _ (List.mem_append_left _ (List.mem_of_getElem? (i := 62) rfl)))) (List.mem_cons_of_mem _ (List.mem_append_left _ (List.mem_append_left _ (List.mem_of_getElem? (i := 63) rfl)))) (List.mem_cons_of_mem _ (List.mem_append_left _ (List.mem_append_left _ (List.mem_of_getElem? (i := 20) rfl)))) (by decide +kernel)) gg_x_exp_conjunction
theorem gg_x_exp_isWord : GoodIn w_x_exp w_x_isWord := goodIn_sub (fun w h => (List.mem_cons.mp h).elim (fun e => (List.mem_cons_of_mem _ (List.mem_append_left _ (List.mem_append_right _ (List.mem_append_right _ (List.mem_append_right _ (List.mem_append_right _ (List.mem_append_right _ (List.mem_append_left _ (List.mem_cons.mpr (Or.inl e))))))))))) (fun h => (List.mem_append.mp h).elim (fun h => (List.mem_cons_of_mem _ (List.mem_append_left _ (List.mem_append_right _ (List.mem_append_right _ (List.mem_append_right _ (List.mem_append_right _ (List.mem_append_right _ (List.mem_append_left _ (List.mem_cons_of_mem _ h)))))))))) (fun h => List.mem_cons_of_mem _ (List.mem_append_right _ h)))) w_x_isWord_good
theorem g_x_exp_isWord_74 : GoodIn w_x_exp (wsV RX12 74 RX12 yX12_isWord w_x_isWord) := goodIn_app (nb_g4 (List.mem_cons_of_mem _ (List.mem_append_left _ (List.mem_append_left _ (List.mem_of_getElem? (i := 31) rfl)))) (List.mem_cons_of_mem _ (List.mem_append_left _ (List.mem_append_left _ (List.mem_of_getElem? (i := 32) rfl)))) (List.mem_cons_of_mem _ (List.mem_append_left _ (List.mem_append_left _ (List.mem_of_getElem? (i := 33) rfl)))) (List.mem_cons_of_mem _ (List.mem_append_left _ (List.mem_append_left _ (List.mem_of_getElem? (i := 20) rfl)))) (by decide +kernel)) gg_x_exp_isWord
theorem gg_x_exp_over : GoodIn w_x_exp w_x_over := goodIn_sub (fun w h => (List.mem_cons.mp h).elim (fun e => (List.mem_cons_of_mem _ (List.mem_append_left _ (List.mem_append_right _ (List.mem_append_right _ (List.mem_append_right _ (List.mem_append_right _ (List.mem_append_right _ (List.mem_append_right _ (List.mem_append_right _ (List.mem_append_right _ (List.mem_append_right _ (List.mem_append_left _ (List.mem_cons.mpr (Or.inl e))))))))))))))) (fun h => (List.mem_append.mp h).elim (fun h => (List.mem_cons_of_mem _ (List.mem_append_left _ (List.mem_append_right _ (List.mem_append_right _ (List.mem_append_right _ (List.mem_append_right _ (List.mem_append_right _ (List.mem_append_right _ (List.mem_append_right _ (List.mem_append_right _ (List.mem_append_right _ (List.mem_append_left _ (List.mem_cons_of_mem _ h)))))))))))))) (fun h => List.mem_cons_of_mem _ (List.mem_append_right _ h)))) w_x_over_good
theorem g_x_exp_over_168 : GoodIn w_x_exp (wsV RX12 168 RX12 yX12_over w_x_over) := goodIn_app (nb_g4 (List.mem_cons_of_mem _ (List.mem_append_left _ (List.mem_append_left _ (List.mem_of_getElem? (i := 58) rfl)))) (List.mem_cons_of_mem _ (List.mem_append_left _ (List.mem_append_left _ (List.mem_of_getElem? (i := 59) rfl)))) (List.mem_cons_of_mem _ (List.mem_append_left _ (List.mem_append_left _ (List.mem_of_getElem? (i := 60) rfl)))) (List.mem_cons_of_mem _ (List.mem_append_left _ (List.mem_append_left _ (List.mem_of_getElem? (i := 20) rfl)))) (by decide +kernel)) gg_x_exp_over
theorem gg_x_exp_take : GoodIn w_x_exp w_x_take := goodIn_sub (fun w h => (List.mem_cons.mp h).elim (fun e => (List.mem_cons_of_mem _ (List.mem_append_left _ (List.mem_append_right _ (List.mem_append_right _ (List.mem_append_right _ (List.mem_append_left _ (List.mem_cons.mpr (Or.inl e))))))))) (fun h => (List.mem_append.mp h).elim (fun h => (List.mem_cons_of_mem _ (List.mem_append_left _ (List.mem_append_right _ (List.mem_append_right _ (List.mem_append_right _ (List.mem_append_left _ (List.mem_cons_of_mem _ h)))))))) (fun h => List.mem_cons_of_mem _ (List.mem_append_right _ h)))) w_x_take_good
theorem g_x_exp_take_71 : GoodIn w_x_exp (wsV RX12 71 RX12 yX12_take w_x_take) := goodIn_app (nb_g4 (List.mem_cons_of_mem _ (List.mem_append_left _ (List.mem_append_left _ (List.mem_of_getElem? (i := 25) rfl)))) (List.mem_cons_of_mem _ (List.mem_append_left _ (List.mem_append_left _ (List.mem_of_getElem? (i := 26) rfl)))) (List.mem_cons_of_mem _ (List.mem_append_left _ (List.mem_append_left _ (List.mem_of_getElem? (i := 27) rfl)))) (List.mem_cons_of_mem _ (List.mem_append_left _ (List.mem_append_left _ (List.mem_of_getElem? (i := 20) rfl)))) (by decide +kernel)) gg_x_exp_take
set_option maxHeartbeats 40000000 in
set_option maxRecDepth 100000 in
theorem c_s_exp (l : Launch) (dC : Nat → ClassId) (dI : Nat → Nat → Nat) (cy : Nat → ClassId) (a : Nat → Nat) (k0 : Nat) (IH : ∀ j : Nat, j < k0 → P_GE l dC dI cy a j) (d : Nat) (L0 : Nat → Int32) (σ0 : MS) (r0 : Int32 × MS) (h0 : x_GE k0 d 3 0 L0 σ0 = some r0) (sz : Nat) : Met l yX12_exp w_x_exp ({ frames := 5 + d, cells := 0, slots := 0, locals := 113 + 31 * d }) (va_Pc [.ref (a 0)] (nIn (dC, dI) cy sz (vM cy a σ0))) (va_Qi (fun (z : Int32) (_ : Unit) => z = r0.1) (fun _ t => nOut (dC, dI) cy (va_A (vM cy a σ0) sz) (vM cy a r0.2) t) (va_A (vM cy a σ0) sz)) 0 0 (va_A (vM cy a σ0) sz) := by
  refine Met.ofW (cc := cX12_exp) (maxL := 2) (ret := (some .int)) (by decide) rfl ?_
  intro p e s m args below meth c s₁ B hml hv
  obtain ⟨rfl, hsz, hP, hK, hD0, hG⟩ := hv
  have hx := B.exec
  have hb := B.bytes
  have hr := B.returns
  have hts := atoms_spec (ws := w_x_exp) B.pre
  have hown : s.vm.findClass RX12 = some m.cls := findClass_of_methodNamed B.named
  have hlocks := B.notSynchronized
  subst hsz
  have hD := hD0.self (sz := s.heap.size)
  generalize hAe : va_A (vM cy a σ0) s.heap.size = A at hD ⊢
  have hA : ∀ q : Nat, s.heap.size ≤ q → A q := fun q h => by rw [← hAe]; exact Or.inr h
  have hS : va_S A s.heap s.heap [] := va_S.rf
  have hl := lv_entry ([.ref (a 0)]) (n := 2) (Nat.le_of_ble_eq_true rfl)
  rw [lg_entry_eq]
  generalize (lg_sl ([.ref (a 0)]) ++ List.replicate (2 - (lg_sl ([.ref (a 0)])).length) Slot.unset).toArray = ls at hl ⊢
  have hl : lv_has ls 2 [(0, .ref (a 0))] := hl
  have blk : ∀ k : Nat, k ≤ k0 → (bT p l e (headSpec w_x_exp ({ frames := 5 + d, cells := 0, slots := 0, locals := 113 + 31 * d })).room s m #[.ref (a 0)] below meth c dC dI cy a A (qI dC dI cy a A below #[.ref (a 0)] s) 2 (x_GE k d 3 0) (fun L => [(0, .ref (a 0))]) 0 (fun L => [])) ∧ (bT p l e (headSpec w_x_exp ({ frames := 5 + d, cells := 0, slots := 0, locals := 113 + 31 * d })).room s m #[.ref (a 0)] below meth c dC dI cy a A (qI dC dI cy a A below #[.ref (a 0)] s) 2 (x_GE k d 3 1) (fun L => [(0, .ref (a 0)), (1, .int (L 1))]) 5 (fun L => [])) ∧ (bT p l e (headSpec w_x_exp ({ frames := 5 + d, cells := 0, slots := 0, locals := 113 + 31 * d })).room s m #[.ref (a 0)] below meth c dC dI cy a A (qI dC dI cy a A below #[.ref (a 0)] s) 2 (x_GE k d 3 2) (fun L => [(0, .ref (a 0)), (1, .int (L 1))]) 41 (fun L => [])) := by
    intro k
    induction k with
    | zero => exact fun _ => ⟨fun L σ r h => (by cases h), fun L σ r h => (by cases h), fun L σ r h => (by cases h)⟩
    | succ k ih =>
      intro hk
      replace ih := ih (by omega)
      refine ⟨?_, ?_, ?_⟩
      · intro L σ r h H locs ls hP hD hS hl
        rw [x_GE_3, s_exp_0] at h
        refine lv_aload_n hx hb dX12_exp_0 rfl (lv_at hl 0 rfl) ?_
        obtain ⟨e1, he1, h⟩ := od_ex h
        obtain ⟨r1, hc1, h⟩ := ob_ex h
        refine nc_Vi (As := []) (rest := []) ⟨hx, hb, hml, hown, hts⟩ ((IH k (by omega)).2.2.1 e1 (fun _ => 0) σ r1 hc1 H.size) (cwV 0 hts g_x_exp_conjunction_164 rfl rfl rfl hd_x_conjunction (by show (5 + e1) + 1 ≤ 5 + d ∧ 8 + (2 + 11) + (113 + 31 * e1) ≤ 113 + 31 * d; omega)) hK hG hA hP hD hS rfl hl.1 rfl (Nat.le_of_ble_eq_true rfl) dX12_exp_1 ⟨Nat.le_refl _, Nat.le_refl _⟩ (fun H locs hP hD hS => ?_)
        refine lv_istore_n (lv' := [(1, .int r1.1), (0, .ref (a 0))]) hx hb dX12_exp_4 rfl hl (by decide) rfl (fun ls hl => ?_)
        exact ih.2.1 (upd L 1 r1.1) r1.2 r h H locs ls hP hD hS (lv_sub hl [1, 0] rfl)
      · intro L σ r h H locs ls hP hD hS hl
        rw [x_GE_3, s_exp_1] at h
        refine lv_aload_n hx hb dX12_exp_5 rfl (lv_at hl 0 rfl) ?_
        refine ng_10 hx hb hts in_x_exp hown hK hP (hts _ (List.mem_cons_of_mem _ (List.mem_append_left _ (List.mem_append_left _ (List.mem_of_getElem? (i := 24) rfl))))) dX12_exp_6 ?_
        refine lv_if_ne (tgt := 41) hx hb dX12_exp_9 (by decide) (fun c1 => ?_) (fun c1 => ?_)
        · rw [if_neg c1] at h
          exact ih.2.2 L σ r h H locs ls hP hD hS (lv_sub hl [0, 1] rfl)
        · rw [if_pos c1] at h
          refine lv_aload_n hx hb dX12_exp_12 rfl (lv_at hl 0 rfl) ?_
          refine lv_bipush (v := 33) hx hb dX12_exp_13 (by decide) ?_
          obtain ⟨r2, hc2, h⟩ := ob_ex h
          refine nc_Vi (As := [.int 33]) (rest := []) ⟨hx, hb, hml, hown, hts⟩ (c_x_isWord l dC dI cy a k (upd (fun _ => 0) 1 33) σ r2 hc2 H.size) (cwV 1 hts g_x_exp_isWord_74 rfl rfl rfl hd_x_isWord (by show 0 + 1 ≤ 5 + d ∧ 8 + (2 + 11) + 0 ≤ 113 + 31 * d; omega)) hK hG hA hP hD hS rfl hl.1 rfl (Nat.le_of_ble_eq_true rfl) dX12_exp_15 ⟨Nat.le_refl _, Nat.le_refl _⟩ (fun H locs hP hD hS => ?_)
          refine lv_if_eq (tgt := 41) hx hb dX12_exp_18 (by decide) (fun c3 => ?_) (fun c3 => ?_)
          · rw [if_pos c3] at h
            exact ih.2.2 L r2.2 r h H locs ls hP hD hS (lv_sub hl [0, 1] rfl)
          · rw [if_neg c3] at h
            refine lv_aload_n hx hb dX12_exp_21 rfl (lv_at hl 0 rfl) ?_
            obtain ⟨r4, hc4, h⟩ := ob_ex h
            refine nc_Vv (As := []) (rest := []) ⟨hx, hb, hml, hown, hts⟩ (c_x_take l dC dI cy a k (fun _ => 0) r2.2 r4 hc4 H.size) (cwV 0 hts g_x_exp_take_71 rfl rfl rfl hd_x_take (by show 2 + 1 ≤ 5 + d ∧ 8 + (2 + 11) + 43 ≤ 113 + 31 * d; omega)) hK hG hA hP hD hS rfl hl.1 rfl (Nat.le_of_ble_eq_true rfl) dX12_exp_22 ⟨Nat.le_refl _, Nat.le_refl _⟩ (fun H locs hP hD hS => ?_)
            refine lv_aload_n hx hb dX12_exp_25 rfl (lv_at hl 0 rfl) ?_
            refine lv_bipush (v := 25) hx hb dX12_exp_26 (by decide) ?_
            refine lv_iconst (v := 0) hx hb dX12_exp_28 (by decide) ?_
            refine lv_iload_n hx hb dX12_exp_29 rfl (lv_at hl 1 rfl) ?_
            refine lv_aload_n hx hb dX12_exp_30 rfl (lv_at hl 0 rfl) ?_
            obtain ⟨e5, he5, h⟩ := od_ex h
            obtain ⟨r5, hc5, h⟩ := ob_ex h
            refine nc_Vi (As := []) (rest := [.int (L 1), .int 0, .int 25, .ref (a 0)]) ⟨hx, hb, hml, hown, hts⟩ ((IH k (by omega)).2.2.1 e5 (fun _ => 0) r4.2 r5 hc5 H.size) (cwV 0 hts g_x_exp_conjunction_164 rfl rfl rfl hd_x_conjunction (by show (5 + e5) + 1 ≤ 5 + d ∧ 8 + (2 + 11) + (113 + 31 * e5) ≤ 113 + 31 * d; omega)) hK hG hA hP hD hS rfl hl.1 rfl (Nat.le_of_ble_eq_true rfl) dX12_exp_31 ⟨Nat.le_refl _, Nat.le_refl _⟩ (fun H locs hP hD hS => ?_)
            obtain ⟨r6, hc6, h⟩ := ob_ex h
            refine nc_Vi (As := [.int 25, .int 0, .int (L 1), .int r5.1]) (rest := []) ⟨hx, hb, hml, hown, hts⟩ (c_x_over l dC dI cy a k (upd (upd (upd (upd (fun _ => 0) 1 25) 2 0) 3 ((L 1))) 4 r5.1) r5.2 r6 hc6 H.size) (cwV 4 hts g_x_exp_over_168 rfl rfl rfl hd_x_over (by show 1 + 1 ≤ 5 + d ∧ 8 + (6 + 11) + 25 ≤ 113 + 31 * d; omega)) hK hG hA hP hD hS rfl hl.1 rfl (Nat.le_of_ble_eq_true rfl) dX12_exp_34 ⟨Nat.le_refl _, Nat.le_refl _⟩ (fun H locs hP hD hS => ?_)
            refine lv_istore_n (lv' := [(1, .int r6.1), (0, .ref (a 0))]) hx hb dX12_exp_37 rfl hl (by decide) rfl (fun ls hl => ?_)
            refine lv_goto (tgt := 5) hx hb dX12_exp_38 (by decide) ?_
            exact ih.2.1 (upd L 1 r6.1) r6.2 r h H locs ls hP hD hS (lv_sub hl [1, 0] rfl)
      · intro L σ r h H locs ls hP hD hS hl
        rw [x_GE_3, s_exp_2] at h
        refine lv_iload_n hx hb dX12_exp_41 rfl (lv_at hl 1 rfl) ?_
        cases h
        exact W.iret (v := (L 1)) hx hb hr (fun t ht hW => ⟨⟨(L 1), (), rfl, rfl, by rw [ht]; exact hP, va_K.moved hW.alike hK, hD⟩, hS.F ht⟩) hS.2.2 dX12_exp_42
  exact (blk k0 (Nat.le_refl _)).1 L0 σ0 r0 h0 s.heap [] ls hP hD hS hl
theorem gg_x_iters_isSign : GoodIn w_x_iters w_x_isSign := goodIn_sub (fun w h => (List.mem_cons.mp h).elim (fun e => (List.mem_cons_of_mem _ (List.mem_append_left _ (List.mem_append_right _ (List.mem_append_left _ (List.mem_cons.mpr (Or.inl e))))))) (fun h => (List.mem_append.mp h).elim (fun h => (List.mem_cons_of_mem _ (List.mem_append_left _ (List.mem_append_right _ (List.mem_append_left _ (List.mem_cons_of_mem _ h)))))) (fun h => List.mem_cons_of_mem _ (List.mem_append_right _ h)))) w_x_isSign_good
theorem g_x_iters_isSign_65 : GoodIn w_x_iters (wsV RX12 65 RX12 yX12_isSign w_x_isSign) := goodIn_app (nb_g4 (List.mem_cons_of_mem _ (List.mem_append_left _ (List.mem_append_left _ (List.mem_of_getElem? (i := 17) rfl)))) (List.mem_cons_of_mem _ (List.mem_append_left _ (List.mem_append_left _ (List.mem_of_getElem? (i := 18) rfl)))) (List.mem_cons_of_mem _ (List.mem_append_left _ (List.mem_append_left _ (List.mem_of_getElem? (i := 19) rfl)))) (List.mem_cons_of_mem _ (List.mem_append_left _ (List.mem_append_left _ (List.mem_of_getElem? (i := 20) rfl)))) (by decide +kernel)) gg_x_iters_isSign
theorem gg_x_iters_node : GoodIn w_x_iters w_x_node := goodIn_sub (fun w h => (List.mem_cons.mp h).elim (fun e => (List.mem_cons_of_mem _ (List.mem_append_left _ (List.mem_append_right _ (List.mem_append_right _ (List.mem_append_right _ (List.mem_append_right _ (List.mem_append_left _ (List.mem_cons.mpr (Or.inl e)))))))))) (fun h => (List.mem_append.mp h).elim (fun h => (List.mem_cons_of_mem _ (List.mem_append_left _ (List.mem_append_right _ (List.mem_append_right _ (List.mem_append_right _ (List.mem_append_right _ (List.mem_append_left _ (List.mem_cons_of_mem _ h))))))))) (fun h => List.mem_cons_of_mem _ (List.mem_append_right _ h)))) w_x_node_good
theorem g_x_iters_node_101 : GoodIn w_x_iters (wsV RX12 101 RX12 yX12_node w_x_node) := goodIn_app (nb_g4 (List.mem_cons_of_mem _ (List.mem_append_left _ (List.mem_append_left _ (List.mem_of_getElem? (i := 28) rfl)))) (List.mem_cons_of_mem _ (List.mem_append_left _ (List.mem_append_left _ (List.mem_of_getElem? (i := 29) rfl)))) (List.mem_cons_of_mem _ (List.mem_append_left _ (List.mem_append_left _ (List.mem_of_getElem? (i := 30) rfl)))) (List.mem_cons_of_mem _ (List.mem_append_left _ (List.mem_append_left _ (List.mem_of_getElem? (i := 20) rfl)))) (by decide +kernel)) gg_x_iters_node
theorem gg_x_iters_pattern : GoodIn w_x_iters w_x_pattern := goodIn_sub (fun w h => (List.mem_cons.mp h).elim (fun e => (List.mem_cons_of_mem _ (List.mem_append_left _ (List.mem_append_right _ (List.mem_append_right _ (List.mem_append_right _ (List.mem_append_right _ (List.mem_append_right _ (List.mem_append_right _ (List.mem_append_right _ (List.mem_append_right _ (List.mem_append_right _ (List.mem_append_right _ (List.mem_append_left _ (List.mem_cons.mpr (Or.inl e)))))))))))))))) (fun h => (List.mem_append.mp h).elim (fun h => (List.mem_cons_of_mem _ (List.mem_append_left _ (List.mem_append_right _ (List.mem_append_right _ (List.mem_append_right _ (List.mem_append_right _ (List.mem_append_right _ (List.mem_append_right _ (List.mem_append_right _ (List.mem_append_right _ (List.mem_append_right _ (List.mem_append_right _ (List.mem_append_left _ (List.mem_cons_of_mem _ h))))))))))))))) (fun h => List.mem_cons_of_mem _ (List.mem_append_right _ h)))) w_x_pattern_good
theorem g_x_iters_pattern_259 : GoodIn w_x_iters (wsV RX12 259 RX12 yX12_pattern w_x_pattern) := goodIn_app (nb_g4 (List.mem_cons_of_mem _ (List.mem_append_left _ (List.mem_append_left _ (List.mem_of_getElem? (i := 65) rfl)))) (List.mem_cons_of_mem _ (List.mem_append_left _ (List.mem_append_left _ (List.mem_of_getElem? (i := 66) rfl)))) (List.mem_cons_of_mem _ (List.mem_append_left _ (List.mem_append_left _ (List.mem_of_getElem? (i := 67) rfl)))) (List.mem_cons_of_mem _ (List.mem_append_left _ (List.mem_append_left _ (List.mem_of_getElem? (i := 20) rfl)))) (by decide +kernel)) gg_x_iters_pattern
theorem gg_x_iters_see : GoodIn w_x_iters w_x_see := goodIn_sub (fun w h => (List.mem_cons.mp h).elim (fun e => (List.mem_cons_of_mem _ (List.mem_append_left _ (List.mem_append_right _ (List.mem_append_right _ (List.mem_append_right _ (List.mem_append_right _ (List.mem_append_right _ (List.mem_append_right _ (List.mem_append_right _ (List.mem_append_right _ (List.mem_append_right _ (List.mem_append_right _ (List.mem_append_right _ (List.mem_append_right _ (List.mem_append_left _ (List.mem_cons.mpr (Or.inl e)))))))))))))))))) (fun h => (List.mem_append.mp h).elim (fun h => (List.mem_cons_of_mem _ (List.mem_append_left _ (List.mem_append_right _ (List.mem_append_right _ (List.mem_append_right _ (List.mem_append_right _ (List.mem_append_right _ (List.mem_append_right _ (List.mem_append_right _ (List.mem_append_right _ (List.mem_append_right _ (List.mem_append_right _ (List.mem_append_right _ (List.mem_append_right _ (List.mem_append_left _ (List.mem_cons_of_mem _ h))))))))))))))))) (fun h => List.mem_cons_of_mem _ (List.mem_append_right _ h)))) w_x_see_good
theorem g_x_iters_see_275 : GoodIn w_x_iters (wsV RX12 275 RX12 yX12_see w_x_see) := goodIn_app (nb_g4 (List.mem_cons_of_mem _ (List.mem_append_left _ (List.mem_append_left _ (List.mem_of_getElem? (i := 77) rfl)))) (List.mem_cons_of_mem _ (List.mem_append_left _ (List.mem_append_left _ (List.mem_of_getElem? (i := 78) rfl)))) (List.mem_cons_of_mem _ (List.mem_append_left _ (List.mem_append_left _ (List.mem_of_getElem? (i := 79) rfl)))) (List.mem_cons_of_mem _ (List.mem_append_left _ (List.mem_append_left _ (List.mem_of_getElem? (i := 20) rfl)))) (by decide +kernel)) gg_x_iters_see
theorem gg_x_iters_sum : GoodIn w_x_iters w_x_sum := goodIn_sub (fun w h => (List.mem_cons.mp h).elim (fun e => e ▸ (List.mem_cons_of_mem _ (List.mem_append_left _ (List.mem_append_left _ (List.mem_of_getElem? (i := 14) rfl))))) (fun h => List.mem_cons_of_mem _ h)) w_x_sum_good
theorem g_x_iters_sum_180 : GoodIn w_x_iters (wsV RX12 180 RX12 yX12_sum w_x_sum) := goodIn_app (nb_g4 (List.mem_cons_of_mem _ (List.mem_append_left _ (List.mem_append_left _ (List.mem_of_getElem? (i := 71) rfl)))) (List.mem_cons_of_mem _ (List.mem_append_left _ (List.mem_append_left _ (List.mem_of_getElem? (i := 72) rfl)))) (List.mem_cons_of_mem _ (List.mem_append_left _ (List.mem_append_left _ (List.mem_of_getElem? (i := 73) rfl)))) (List.mem_cons_of_mem _ (List.mem_append_left _ (List.mem_append_left _ (List.mem_of_getElem? (i := 20) rfl)))) (by decide +kernel)) gg_x_iters_sum
theorem gg_x_iters_take : GoodIn w_x_iters w_x_take := goodIn_sub (fun w h => (List.mem_cons.mp h).elim (fun e => (List.mem_cons_of_mem _ (List.mem_append_left _ (List.mem_append_right _ (List.mem_append_right _ (List.mem_append_right _ (List.mem_append_left _ (List.mem_cons.mpr (Or.inl e))))))))) (fun h => (List.mem_append.mp h).elim (fun h => (List.mem_cons_of_mem _ (List.mem_append_left _ (List.mem_append_right _ (List.mem_append_right _ (List.mem_append_right _ (List.mem_append_left _ (List.mem_cons_of_mem _ h)))))))) (fun h => List.mem_cons_of_mem _ (List.mem_append_right _ h)))) w_x_take_good
theorem g_x_iters_take_71 : GoodIn w_x_iters (wsV RX12 71 RX12 yX12_take w_x_take) := goodIn_app (nb_g4 (List.mem_cons_of_mem _ (List.mem_append_left _ (List.mem_append_left _ (List.mem_of_getElem? (i := 25) rfl)))) (List.mem_cons_of_mem _ (List.mem_append_left _ (List.mem_append_left _ (List.mem_of_getElem? (i := 26) rfl)))) (List.mem_cons_of_mem _ (List.mem_append_left _ (List.mem_append_left _ (List.mem_of_getElem? (i := 27) rfl)))) (List.mem_cons_of_mem _ (List.mem_append_left _ (List.mem_append_left _ (List.mem_of_getElem? (i := 20) rfl)))) (by decide +kernel)) gg_x_iters_take
theorem gg_x_iters_tellName : GoodIn w_x_iters w_x_tellName := goodIn_sub (fun w h => (List.mem_cons.mp h).elim (fun e => (List.mem_cons_of_mem _ (List.mem_append_left _ (List.mem_append_right _ (List.mem_append_right _ (List.mem_append_right _ (List.mem_append_right _ (List.mem_append_right _ (List.mem_append_right _ (List.mem_append_right _ (List.mem_append_right _ (List.mem_append_right _ (List.mem_append_right _ (List.mem_append_right _ (List.mem_append_left _ (List.mem_cons.mpr (Or.inl e))))))))))))))))) (fun h => (List.mem_append.mp h).elim (fun h => (List.mem_cons_of_mem _ (List.mem_append_left _ (List.mem_append_right _ (List.mem_append_right _ (List.mem_append_right _ (List.mem_append_right _ (List.mem_append_right _ (List.mem_append_right _ (List.mem_append_right _ (List.mem_append_right _ (List.mem_append_right _ (List.mem_append_right _ (List.mem_append_right _ (List.mem_append_left _ (List.mem_cons_of_mem _ h)))))))))))))))) (fun h => List.mem_cons_of_mem _ (List.mem_append_right _ h)))) w_x_tellName_good
theorem g_x_iters_tellName_263 : GoodIn w_x_iters (wsV RX12 263 RX12 yX12_tellName w_x_tellName) := goodIn_app (nb_g4 (List.mem_cons_of_mem _ (List.mem_append_left _ (List.mem_append_left _ (List.mem_of_getElem? (i := 68) rfl)))) (List.mem_cons_of_mem _ (List.mem_append_left _ (List.mem_append_left _ (List.mem_of_getElem? (i := 69) rfl)))) (List.mem_cons_of_mem _ (List.mem_append_left _ (List.mem_append_left _ (List.mem_of_getElem? (i := 70) rfl)))) (List.mem_cons_of_mem _ (List.mem_append_left _ (List.mem_append_left _ (List.mem_of_getElem? (i := 20) rfl)))) (by decide +kernel)) gg_x_iters_tellName
theorem gg_x_iters_wantWord : GoodIn w_x_iters w_x_wantWord := goodIn_sub (fun w h => (List.mem_cons.mp h).elim (fun e => (List.mem_cons_of_mem _ (List.mem_append_left _ (List.mem_append_right _ (List.mem_append_right _ (List.mem_append_right _ (List.mem_append_right _ (List.mem_append_right _ (List.mem_append_right _ (List.mem_append_right _ (List.mem_append_right _ (List.mem_append_left _ (List.mem_cons.mpr (Or.inl e)))))))))))))) (fun h => (List.mem_append.mp h).elim (fun h => (List.mem_cons_of_mem _ (List.mem_append_left _ (List.mem_append_right _ (List.mem_append_right _ (List.mem_append_right _ (List.mem_append_right _ (List.mem_append_right _ (List.mem_append_right _ (List.mem_append_right _ (List.mem_append_right _ (List.mem_append_left _ (List.mem_cons_of_mem _ h))))))))))))) (fun h => List.mem_cons_of_mem _ (List.mem_append_right _ h)))) w_x_wantWord_good
theorem g_x_iters_wantWord_253 : GoodIn w_x_iters (wsV RX12 253 RX12 yX12_wantWord w_x_wantWord) := goodIn_app (nb_g4 (List.mem_cons_of_mem _ (List.mem_append_left _ (List.mem_append_left _ (List.mem_of_getElem? (i := 51) rfl)))) (List.mem_cons_of_mem _ (List.mem_append_left _ (List.mem_append_left _ (List.mem_of_getElem? (i := 52) rfl)))) (List.mem_cons_of_mem _ (List.mem_append_left _ (List.mem_append_left _ (List.mem_of_getElem? (i := 53) rfl)))) (List.mem_cons_of_mem _ (List.mem_append_left _ (List.mem_append_left _ (List.mem_of_getElem? (i := 20) rfl)))) (by decide +kernel)) gg_x_iters_wantWord
set_option maxHeartbeats 40000000 in
set_option maxRecDepth 100000 in
theorem c_s_iters (l : Launch) (dC : Nat → ClassId) (dI : Nat → Nat → Nat) (cy : Nat → ClassId) (a : Nat → Nat) (k0 : Nat) (IH : ∀ j : Nat, j < k0 → P_GE l dC dI cy a j) (d : Nat) (L0 : Nat → Int32) (σ0 : MS) (r0 : Int32 × MS) (h0 : x_GE k0 d 4 0 L0 σ0 = some r0) (sz : Nat) : Met l yX12_iters w_x_iters ({ frames := 5 + d, cells := 0, slots := 0, locals := 113 + 31 * d }) (va_Pc [.ref (a 0), .int (L0 1)] (nIn (dC, dI) cy sz (vM cy a σ0))) (va_Qi (fun (z : Int32) (_ : Unit) => z = r0.1) (fun _ t => nOut (dC, dI) cy (va_A (vM cy a σ0) sz) (vM cy a r0.2) t) (va_A (vM cy a σ0) sz)) 0 0 (va_A (vM cy a σ0) sz) := by
  refine Met.ofW (cc := cX12_iters) (maxL := 12) (ret := (some .int)) (by decide) rfl ?_
  intro p e s m args below meth c s₁ B hml hv
  obtain ⟨rfl, hsz, hP, hK, hD0, hG⟩ := hv
  have hx := B.exec
  have hb := B.bytes
  have hr := B.returns
  have hts := atoms_spec (ws := w_x_iters) B.pre
  have hown : s.vm.findClass RX12 = some m.cls := findClass_of_methodNamed B.named
  have hlocks := B.notSynchronized
  subst hsz
  have hD := hD0.self (sz := s.heap.size)
  generalize hAe : va_A (vM cy a σ0) s.heap.size = A at hD ⊢
  have hA : ∀ q : Nat, s.heap.size ≤ q → A q := fun q h => by rw [← hAe]; exact Or.inr h
  have hS : va_S A s.heap s.heap [] := va_S.rf
  have hl := lv_entry ([.ref (a 0), .int (L0 1)]) (n := 12) (Nat.le_of_ble_eq_true rfl)
  rw [lg_entry_eq]
  generalize (lg_sl ([.ref (a 0), .int (L0 1)]) ++ List.replicate (12 - (lg_sl ([.ref (a 0), .int (L0 1)])).length) Slot.unset).toArray = ls at hl ⊢
  have hl : lv_has ls 12 [(0, .ref (a 0)), (1, .int (L0 1))] := hl
  have blk : ∀ k : Nat, k ≤ k0 → (bT p l e (headSpec w_x_iters ({ frames := 5 + d, cells := 0, slots := 0, locals := 113 + 31 * d })).room s m #[.ref (a 0), .int (L0 1)] below meth c dC dI cy a A (qI dC dI cy a A below #[.ref (a 0), .int (L0 1)] s) 12 (x_GE k d 4 0) (fun L => [(0, .ref (a 0)), (1, .int (L 1))]) 0 (fun L => [])) ∧ (bT p l e (headSpec w_x_iters ({ frames := 5 + d, cells := 0, slots := 0, locals := 113 + 31 * d })).room s m #[.ref (a 0), .int (L0 1)] below meth c dC dI cy a A (qI dC dI cy a A below #[.ref (a 0), .int (L0 1)] s) 12 (x_GE k d 4 1) (fun L => [(0, .ref (a 0)), (1, .int (L 1)), (2, .int (L 2)), (3, .int (L 3)), (4, .int (L 4)), (5, .int (L 5))]) 13 (fun L => [])) ∧ (bT p l e (headSpec w_x_iters ({ frames := 5 + d, cells := 0, slots := 0, locals := 113 + 31 * d })).room s m #[.ref (a 0), .int (L0 1)] below meth c dC dI cy a A (qI dC dI cy a A below #[.ref (a 0), .int (L0 1)] s) 12 (x_GE k d 4 2) (fun L => [(0, .ref (a 0)), (1, .int (L 1)), (2, .int (L 2)), (3, .int (L 3)), (4, .int (L 4)), (5, .int (L 5)), (6, .int (L 6))]) 44 (fun L => [])) ∧ (bT p l e (headSpec w_x_iters ({ frames := 5 + d, cells := 0, slots := 0, locals := 113 + 31 * d })).room s m #[.ref (a 0), .int (L0 1)] below meth c dC dI cy a A (qI dC dI cy a A below #[.ref (a 0), .int (L0 1)] s) 12 (x_GE k d 4 3) (fun L => [(0, .ref (a 0)), (1, .int (L 1)), (2, .int (L 2)), (3, .int (L 3)), (4, .int (L 4)), (5, .int (L 5)), (6, .int (L 6))]) 45 (fun L => [.int (L 100)])) ∧ (bT p l e (headSpec w_x_iters ({ frames := 5 + d, cells := 0, slots := 0, locals := 113 + 31 * d })).room s m #[.ref (a 0), .int (L0 1)] below meth c dC dI cy a A (qI dC dI cy a A below #[.ref (a 0), .int (L0 1)] s) 12 (x_GE k d 4 4) (fun L => [(0, .ref (a 0)), (1, .int (L 1)), (2, .int (L 2)), (3, .int (L 3)), (4, .int (L 4)), (5, .int (L 5)), (6, .int (L 6)), (7, .int (L 7)), (8, .int (L 8))]) 67 (fun L => [])) ∧ (bT p l e (headSpec w_x_iters ({ frames := 5 + d, cells := 0, slots := 0, locals := 113 + 31 * d })).room s m #[.ref (a 0), .int (L0 1)] below meth c dC dI cy a A (qI dC dI cy a A below #[.ref (a 0), .int (L0 1)] s) 12 (x_GE k d 4 5) (fun L => [(0, .ref (a 0)), (1, .int (L 1)), (2, .int (L 2)), (3, .int (L 3)), (4, .int (L 4)), (5, .int (L 5)), (6, .int (L 6)), (7, .int (L 7)), (8, .int (L 8))]) 75 (fun L => [])) ∧ (bT p l e (headSpec w_x_iters ({ frames := 5 + d, cells := 0, slots := 0, locals := 113 + 31 * d })).room s m #[.ref (a 0), .int (L0 1)] below meth c dC dI cy a A (qI dC dI cy a A below #[.ref (a 0), .int (L0 1)] s) 12 (x_GE k d 4 6) (fun L => [(0, .ref (a 0)), (1, .int (L 1)), (2, .int (L 2)), (3, .int (L 3)), (4, .int (L 4)), (5, .int (L 5)), (6, .int (L 6)), (7, .int (L 7)), (8, .int (L 8)), (9, .int (L 9)), (10, .int (L 10))]) 112 (fun L => [])) ∧ (bT p l e (headSpec w_x_iters ({ frames := 5 + d, cells := 0, slots := 0, locals := 113 + 31 * d })).room s m #[.ref (a 0), .int (L0 1)] below meth c dC dI cy a A (qI dC dI cy a A below #[.ref (a 0), .int (L0 1)] s) 12 (x_GE k d 4 7) (fun L => [(0, .ref (a 0)), (1, .int (L 1)), (2, .int (L 2)), (3, .int (L 3)), (4, .int (L 4)), (5, .int (L 5)), (6, .int (L 6)), (7, .int (L 7)), (8, .int (L 8)), (9, .int (L 9)), (10, .int (L 10))]) 121 (fun L => [])) ∧ (bT p l e (headSpec w_x_iters ({ frames := 5 + d, cells := 0, slots := 0, locals := 113 + 31 * d })).room s m #[.ref (a 0), .int (L0 1)] below meth c dC dI cy a A (qI dC dI cy a A below #[.ref (a 0), .int (L0 1)] s) 12 (x_GE k d 4 8) (fun L => [(0, .ref (a 0)), (1, .int (L 1)), (2, .int (L 2)), (3, .int (L 3)), (4, .int (L 4)), (5, .int (L 5)), (6, .int (L 6)), (7, .int (L 7)), (8, .int (L 8)), (9, .int (L 9)), (10, .int (L 10)), (11, .int (L 11))]) 129 (fun L => [])) ∧ (bT p l e (headSpec w_x_iters ({ frames := 5 + d, cells := 0, slots := 0, locals := 113 + 31 * d })).room s m #[.ref (a 0), .int (L0 1)] below meth c dC dI cy a A (qI dC dI cy a A below #[.ref (a 0), .int (L0 1)] s) 12 (x_GE k d 4 9) (fun L => [(0, .ref (a 0)), (1, .int (L 1)), (2, .int (L 2)), (3, .int (L 3)), (4, .int (L 4)), (5, .int (L 5)), (6, .int (L 6)), (7, .int (L 7)), (8, .int (L 8)), (9, .int (L 9)), (10, .int (L 10)), (11, .int (L 11))]) 176 (fun L => [])) ∧ (bT p l e (headSpec w_x_iters ({ frames := 5 + d, cells := 0, slots := 0, locals := 113 + 31 * d })).room s m #[.ref (a 0), .int (L0 1)] below meth c dC dI cy a A (qI dC dI cy a A below #[.ref (a 0), .int (L0 1)] s) 12 (x_GE k d 4 10) (fun L => [(0, .ref (a 0)), (1, .int (L 1)), (2, .int (L 2)), (3, .int (L 3)), (4, .int (L 4)), (5, .int (L 5)), (6, .int (L 6)), (7, .int (L 7)), (8, .int (L 8)), (9, .int (L 9)), (10, .int (L 10)), (11, .int (L 11))]) 196 (fun L => [])) ∧ (bT p l e (headSpec w_x_iters ({ frames := 5 + d, cells := 0, slots := 0, locals := 113 + 31 * d })).room s m #[.ref (a 0), .int (L0 1)] below meth c dC dI cy a A (qI dC dI cy a A below #[.ref (a 0), .int (L0 1)] s) 12 (x_GE k d 4 11) (fun L => [(0, .ref (a 0)), (1, .int (L 1)), (2, .int (L 2)), (3, .int (L 3)), (4, .int (L 4)), (5, .int (L 5)), (6, .int (L 6)), (7, .int (L 7)), (8, .int (L 8)), (9, .int (L 9)), (10, .int (L 10)), (11, .int (L 11))]) 197 (fun L => [.int (L 100)])) ∧ (bT p l e (headSpec w_x_iters ({ frames := 5 + d, cells := 0, slots := 0, locals := 113 + 31 * d })).room s m #[.ref (a 0), .int (L0 1)] below meth c dC dI cy a A (qI dC dI cy a A below #[.ref (a 0), .int (L0 1)] s) 12 (x_GE k d 4 12) (fun L => [(0, .ref (a 0)), (1, .int (L 1)), (2, .int (L 2)), (3, .int (L 3)), (4, .int (L 4)), (5, .int (L 5)), (6, .int (L 6)), (7, .int (L 7)), (8, .int (L 8)), (9, .int (L 9)), (10, .int (L 10)), (11, .int (L 11))]) 208 (fun L => [])) ∧ (bT p l e (headSpec w_x_iters ({ frames := 5 + d, cells := 0, slots := 0, locals := 113 + 31 * d })).room s m #[.ref (a 0), .int (L0 1)] below meth c dC dI cy a A (qI dC dI cy a A below #[.ref (a 0), .int (L0 1)] s) 12 (x_GE k d 4 13) (fun L => [(0, .ref (a 0)), (1, .int (L 1)), (2, .int (L 2)), (3, .int (L 3)), (4, .int (L 4)), (5, .int (L 5))]) 211 (fun L => [])) ∧ (bT p l e (headSpec w_x_iters ({ frames := 5 + d, cells := 0, slots := 0, locals := 113 + 31 * d })).room s m #[.ref (a 0), .int (L0 1)] below meth c dC dI cy a A (qI dC dI cy a A below #[.ref (a 0), .int (L0 1)] s) 12 (x_GE k d 4 14) (fun L => [(0, .ref (a 0)), (1, .int (L 1)), (2, .int (L 2)), (3, .int (L 3)), (4, .int (L 4)), (5, .int (L 5))]) 216 (fun L => [])) := by
    intro k
    induction k with
    | zero => exact fun _ => ⟨fun L σ r h => (by cases h), fun L σ r h => (by cases h), fun L σ r h => (by cases h), fun L σ r h => (by cases h), fun L σ r h => (by cases h), fun L σ r h => (by cases h), fun L σ r h => (by cases h), fun L σ r h => (by cases h), fun L σ r h => (by cases h), fun L σ r h => (by cases h), fun L σ r h => (by cases h), fun L σ r h => (by cases h), fun L σ r h => (by cases h), fun L σ r h => (by cases h), fun L σ r h => (by cases h)⟩
    | succ k ih =>
      intro hk
      replace ih := ih (by omega)
      refine ⟨?_, ?_, ?_, ?_, ?_, ?_, ?_, ?_, ?_, ?_, ?_, ?_, ?_, ?_, ?_⟩
      · intro L σ r h H locs ls hP hD hS hl
        rw [x_GE_4, s_iters_0] at h
        refine lv_aload_n hx hb dX12_iters_0 rfl (lv_at hl 0 rfl) ?_
        refine ng_52 hx hb hts in_x_iters hown hK hP (hts _ (List.mem_cons_of_mem _ (List.mem_append_left _ (List.mem_append_left _ (List.mem_of_getElem? (i := 64) rfl))))) dX12_iters_1 ?_
        refine lv_istore_n (lv' := [(2, .int (σ.1 52)), (0, .ref (a 0)), (1, .int (L 1))]) hx hb dX12_iters_4 rfl hl (by decide) rfl (fun ls hl => ?_)
        refine lv_iconst (v := (-1)) hx hb dX12_iters_5 (by decide) ?_
        refine lv_istore_n (lv' := [(3, .int (-1)), (2, .int (σ.1 52)), (0, .ref (a 0)), (1, .int (L 1))]) hx hb dX12_iters_6 rfl hl (by decide) rfl (fun ls hl => ?_)
        refine lv_iconst (v := (-1)) hx hb dX12_iters_7 (by decide) ?_
        refine lv_istore (lv' := [(4, .int (-1)), (3, .int (-1)), (2, .int (σ.1 52)), (0, .ref (a 0)), (1, .int (L 1))]) hx hb dX12_iters_8 hl (by decide) rfl (fun ls hl => ?_)
        refine lv_iconst (v := 1) hx hb dX12_iters_10 (by decide) ?_
        refine lv_istore (lv' := [(5, .int 1), (4, .int (-1)), (3, .int (-1)), (2, .int (σ.1 52)), (0, .ref (a 0)), (1, .int (L 1))]) hx hb dX12_iters_11 hl (by decide) rfl (fun ls hl => ?_)
        exact ih.2.1 (upd (upd (upd (upd L 2 ((σ.1 52))) 3 ((-1))) 4 ((-1))) 5 1) σ r h H locs ls hP hD hS (lv_sub hl [4, 5, 3, 2, 1, 0] rfl)
      · intro L σ r h H locs ls hP hD hS hl
        rw [x_GE_4, s_iters_1] at h
        refine lv_iload hx hb dX12_iters_13 (lv_at hl 5 rfl) ?_
        refine lv_if_eq (tgt := 211) hx hb dX12_iters_15 (by decide) (fun c1 => ?_) (fun c1 => ?_)
        · rw [if_pos c1] at h
          exact ih.2.2.2.2.2.2.2.2.2.2.2.2.2.1 L σ r h H locs ls hP hD hS (lv_sub hl [0, 1, 2, 3, 4, 5] rfl)
        · rw [if_neg c1] at h
          refine lv_aload_n hx hb dX12_iters_18 rfl (lv_at hl 0 rfl) ?_
          refine ng_10 hx hb hts in_x_iters hown hK hP (hts _ (List.mem_cons_of_mem _ (List.mem_append_left _ (List.mem_append_left _ (List.mem_of_getElem? (i := 24) rfl))))) dX12_iters_19 ?_
          refine lv_if_ne (tgt := 211) hx hb dX12_iters_22 (by decide) (fun c2 => ?_) (fun c2 => ?_)
          · rw [if_neg c2] at h
            exact ih.2.2.2.2.2.2.2.2.2.2.2.2.2.1 L σ r h H locs ls hP hD hS (lv_sub hl [0, 1, 2, 3, 4, 5] rfl)
          · rw [if_pos c2] at h
            refine lv_aload_n hx hb dX12_iters_25 rfl (lv_at hl 0 rfl) ?_
            refine ng_52 hx hb hts in_x_iters hown hK hP (hts _ (List.mem_cons_of_mem _ (List.mem_append_left _ (List.mem_append_left _ (List.mem_of_getElem? (i := 64) rfl))))) dX12_iters_26 ?_
            refine lv_istore (lv' := [(6, .int (σ.1 52)), (0, .ref (a 0)), (1, .int (L 1)), (2, .int (L 2)), (3, .int (L 3)), (4, .int (L 4)), (5, .int (L 5))]) hx hb dX12_iters_29 hl (by decide) rfl (fun ls hl => ?_)
            refine lv_aload_n hx hb dX12_iters_31 rfl (lv_at hl 1 rfl) ?_
            refine lv_bipush (v := 10) hx hb dX12_iters_32 (by decide) ?_
            obtain ⟨r3, hc3, h⟩ := ob_ex h
            refine nc_Vi (As := [.int 10]) (rest := []) ⟨hx, hb, hml, hown, hts⟩ (c_x_isSign l dC dI cy a k (upd (fun _ => 0) 1 10) σ r3 hc3 H.size) (cwV 1 hts g_x_iters_isSign_65 rfl rfl rfl hd_x_isSign (by show 0 + 1 ≤ 5 + d ∧ 8 + (2 + 11) + 0 ≤ 113 + 31 * d; omega)) hK hG hA hP hD hS rfl hl.1 rfl (Nat.le_of_ble_eq_true rfl) dX12_iters_34 ⟨Nat.le_refl _, Nat.le_refl _⟩ (fun H locs hP hD hS => ?_)
            refine lv_if_eq (tgt := 44) hx hb dX12_iters_37 (by decide) (fun c4 => ?_) (fun c4 => ?_)
            · rw [if_pos c4] at h
              exact ih.2.2.1 (upd L 6 ((σ.1 52))) r3.2 r h H locs ls hP hD hS (lv_sub hl [1, 2, 3, 4, 5, 6, 0] rfl)
            · rw [if_neg c4] at h
              refine lv_iconst (v := 1) hx hb dX12_iters_40 (by decide) ?_
              refine lv_goto (tgt := 45) hx hb dX12_iters_41 (by decide) ?_
              exact ih.2.2.2.1 (upd (upd L 6 ((σ.1 52))) 100 1) r3.2 r h H locs ls hP hD hS (lv_sub hl [1, 2, 3, 4, 5, 6, 0] rfl)
      · intro L σ r h H locs ls hP hD hS hl
        rw [x_GE_4, s_iters_2] at h
        refine lv_iconst (v := 0) hx hb dX12_iters_44 (by decide) ?_
        exact ih.2.2.2.1 (upd L 100 0) σ r h H locs ls hP hD hS (lv_sub hl [0, 1, 2, 3, 4, 5, 6] rfl)
      · intro L σ r h H locs ls hP hD hS hl
        rw [x_GE_4, s_iters_3] at h
        refine lv_istore (lv' := [(7, .int (L 100)), (0, .ref (a 0)), (1, .int (L 1)), (2, .int (L 2)), (3, .int (L 3)), (4, .int (L 4)), (5, .int (L 5)), (6, .int (L 6))]) hx hb dX12_iters_45 hl (by decide) rfl (fun ls hl => ?_)
        refine lv_iconst (v := (-1)) hx hb dX12_iters_47 (by decide) ?_
        refine lv_istore (lv' := [(8, .int (-1)), (7, .int (L 100)), (0, .ref (a 0)), (1, .int (L 1)), (2, .int (L 2)), (3, .int (L 3)), (4, .int (L 4)), (5, .int (L 5)), (6, .int (L 6))]) hx hb dX12_iters_48 hl (by decide) rfl (fun ls hl => ?_)
        refine lv_iload hx hb dX12_iters_50 (lv_at hl 1 rfl) ?_
        refine lv_iconst (v := 1) hx hb dX12_iters_52 (by decide) ?_
        refine lv_icmp_ne (tgt := 67) hx hb dX12_iters_53 (by decide) (fun c1 => ?_) (fun c1 => ?_)
        · rw [if_neg c1] at h
          exact ih.2.2.2.2.1 (upd (upd L 7 ((L 100))) 8 ((-1))) σ r h H locs ls hP hD hS (lv_sub hl [2, 3, 4, 5, 6, 7, 8, 1, 0] rfl)
        · rw [if_pos c1] at h
          refine lv_aload_n hx hb dX12_iters_56 rfl (lv_at hl 2 rfl) ?_
          refine lv_iload_n hx hb dX12_iters_57 rfl (lv_at hl 4 rfl) ?_
          refine lv_iload_n hx hb dX12_iters_58 rfl (lv_at hl 3 rfl) ?_
          obtain ⟨r2, hc2, h⟩ := ob_ex h
          refine nc_Vi (As := [.int (L 2), .int (L 1)]) (rest := []) ⟨hx, hb, hml, hown, hts⟩ (c_x_pattern l dC dI cy a k (upd (upd (fun _ => 0) 1 ((L 2))) 2 ((L 1))) σ r2 hc2 H.size) (cwV 2 hts g_x_iters_pattern_259 rfl rfl rfl hd_x_pattern (by show 4 + 1 ≤ 5 + d ∧ 8 + (6 + 11) + 88 ≤ 113 + 31 * d; omega)) hK hG hA hP hD hS rfl hl.1 rfl (Nat.le_of_ble_eq_true rfl) dX12_iters_59 ⟨Nat.le_refl _, Nat.le_refl _⟩ (fun H locs hP hD hS => ?_)
          refine lv_istore (lv' := [(8, .int r2.1), (7, .int (L 100)), (0, .ref (a 0)), (1, .int (L 1)), (2, .int (L 2)), (3, .int (L 3)), (4, .int (L 4)), (5, .int (L 5)), (6, .int (L 6))]) hx hb dX12_iters_62 hl (by decide) rfl (fun ls hl => ?_)
          refine lv_goto (tgt := 75) hx hb dX12_iters_64 (by decide) ?_
          exact ih.2.2.2.2.2.1 (upd (upd L 7 ((L 100))) 8 r2.1) r2.2 r h H locs ls hP hD hS (lv_sub hl [2, 3, 4, 5, 6, 7, 8, 1, 0] rfl)
      · intro L σ r h H locs ls hP hD hS hl
        rw [x_GE_4, s_iters_4] at h
        refine lv_aload_n hx hb dX12_iters_67 rfl (lv_at hl 0 rfl) ?_
        refine lv_iload_n hx hb dX12_iters_68 rfl (lv_at hl 2 rfl) ?_
        refine lv_iload_n hx hb dX12_iters_69 rfl (lv_at hl 1 rfl) ?_
        obtain ⟨r1, hc1, h⟩ := ob_ex h
        refine nc_Vi (As := [.int (L 2), .int (L 1)]) (rest := []) ⟨hx, hb, hml, hown, hts⟩ (c_x_tellName l dC dI cy a k (upd (upd (fun _ => 0) 1 ((L 2))) 2 ((L 1))) σ r1 hc1 H.size) (cwV 2 hts g_x_iters_tellName_263 rfl rfl rfl hd_x_tellName (by show 3 + 1 ≤ 5 + d ∧ 8 + (5 + 11) + 64 ≤ 113 + 31 * d; omega)) hK hG hA hP hD hS rfl hl.1 rfl (Nat.le_of_ble_eq_true rfl) dX12_iters_70 ⟨Nat.le_refl _, Nat.le_refl _⟩ (fun H locs hP hD hS => ?_)
        refine lv_istore (lv' := [(8, .int r1.1), (0, .ref (a 0)), (1, .int (L 1)), (2, .int (L 2)), (3, .int (L 3)), (4, .int (L 4)), (5, .int (L 5)), (6, .int (L 6)), (7, .int (L 7))]) hx hb dX12_iters_73 hl (by decide) rfl (fun ls hl => ?_)
        exact ih.2.2.2.2.2.1 (upd L 8 r1.1) r1.2 r h H locs ls hP hD hS (lv_sub hl [1, 2, 3, 4, 5, 6, 7, 8, 0] rfl)
      · intro L σ r h H locs ls hP hD hS hl
        rw [x_GE_4, s_iters_5] at h
        refine lv_aload_n hx hb dX12_iters_75 rfl (lv_at hl 0 rfl) ?_
        refine lv_bipush (v := 14) hx hb dX12_iters_76 (by decide) ?_
        obtain ⟨r1, hc1, h⟩ := ob_ex h
        refine nc_Vv (As := [.int 14]) (rest := []) ⟨hx, hb, hml, hown, hts⟩ (c_x_wantWord l dC dI cy a k (upd (fun _ => 0) 1 14) σ r1 hc1 H.size) (cwV 1 hts g_x_iters_wantWord_253 rfl rfl rfl hd_x_wantWord (by show 3 + 1 ≤ 5 + d ∧ 8 + (2 + 11) + 64 ≤ 113 + 31 * d; omega)) hK hG hA hP hD hS rfl hl.1 rfl (Nat.le_of_ble_eq_true rfl) dX12_iters_78 ⟨Nat.le_refl _, Nat.le_refl _⟩ (fun H locs hP hD hS => ?_)
        refine lv_aload_n hx hb dX12_iters_81 rfl (lv_at hl 0 rfl) ?_
        obtain ⟨e2, he2, h⟩ := od_ex h
        obtain ⟨r2, hc2, h⟩ := ob_ex h
        refine nc_Vi (As := []) (rest := []) ⟨hx, hb, hml, hown, hts⟩ ((IH k (by omega)).2.2.2.2.2.2.2.2.2.2.2.2.2.2.1 e2 (fun _ => 0) r1.2 r2 hc2 H.size) (cwV 0 hts g_x_iters_sum_180 rfl rfl rfl hd_x_sum (by show (5 + e2) + 1 ≤ 5 + d ∧ 8 + (3 + 11) + (113 + 31 * e2) ≤ 113 + 31 * d; omega)) hK hG hA hP hD hS rfl hl.1 rfl (Nat.le_of_ble_eq_true rfl) dX12_iters_82 ⟨Nat.le_refl _, Nat.le_refl _⟩ (fun H locs hP hD hS => ?_)
        refine lv_istore (lv' := [(9, .int r2.1), (0, .ref (a 0)), (1, .int (L 1)), (2, .int (L 2)), (3, .int (L 3)), (4, .int (L 4)), (5, .int (L 5)), (6, .int (L 6)), (7, .int (L 7)), (8, .int (L 8))]) hx hb dX12_iters_85 hl (by decide) rfl (fun ls hl => ?_)
        refine lv_aload_n hx hb dX12_iters_87 rfl (lv_at hl 1 rfl) ?_
        refine lv_bipush (v := 30) hx hb dX12_iters_88 (by decide) ?_
        refine lv_iload hx hb dX12_iters_90 (lv_at hl 8 rfl) ?_
        refine lv_iload hx hb dX12_iters_92 (lv_at hl 9 rfl) ?_
        refine lv_iload hx hb dX12_iters_94 (lv_at hl 0 rfl) ?_
        obtain ⟨r3, hc3, h⟩ := ob_ex h
        refine nc_Vi (As := [.int 30, .int (L 7), .int (L 8), .int r2.1]) (rest := []) ⟨hx, hb, hml, hown, hts⟩ (c_x_node l dC dI cy a k (upd (upd (upd (upd (fun _ => 0) 1 30) 2 ((L 7))) 3 ((L 8))) 4 r2.1) r2.2 r3 hc3 H.size) (cwV 4 hts g_x_iters_node_101 rfl rfl rfl hd_x_node (by show 0 + 1 ≤ 5 + d ∧ 8 + (6 + 11) + 0 ≤ 113 + 31 * d; omega)) hK hG hA hP hD hS rfl hl.1 rfl (Nat.le_of_ble_eq_true rfl) dX12_iters_96 ⟨Nat.le_refl _, Nat.le_refl _⟩ (fun H locs hP hD hS => ?_)
        refine lv_istore (lv' := [(10, .int r3.1), (9, .int r2.1), (0, .ref (a 0)), (1, .int (L 1)), (2, .int (L 2)), (3, .int (L 3)), (4, .int (L 4)), (5, .int (L 5)), (6, .int (L 6)), (7, .int (L 7)), (8, .int (L 8))]) hx hb dX12_iters_99 hl (by decide) rfl (fun ls hl => ?_)
        refine lv_iload_n hx hb dX12_iters_101 rfl (lv_at hl 5 rfl) ?_
        refine lv_iconst (v := (-1)) hx hb dX12_iters_102 (by decide) ?_
        refine lv_icmp_ne (tgt := 112) hx hb dX12_iters_103 (by decide) (fun c4 => ?_) (fun c4 => ?_)
        · rw [if_neg c4] at h
          exact ih.2.2.2.2.2.2.1 (upd (upd L 9 r2.1) 10 r3.1) r3.2 r h H locs ls hP hD hS (lv_sub hl [2, 3, 4, 5, 6, 7, 8, 9, 10, 1, 0] rfl)
        · rw [if_pos c4] at h
          refine lv_iload hx hb dX12_iters_106 (lv_at hl 0 rfl) ?_
          refine lv_istore_n (lv' := [(3, .int r3.1), (10, .int r3.1), (9, .int r2.1), (0, .ref (a 0)), (1, .int (L 1)), (2, .int (L 2)), (4, .int (L 4)), (5, .int (L 5)), (6, .int (L 6)), (7, .int (L 7)), (8, .int (L 8))]) hx hb dX12_iters_108 rfl hl (by decide) rfl (fun ls hl => ?_)
          refine lv_goto (tgt := 121) hx hb dX12_iters_109 (by decide) ?_
          exact ih.2.2.2.2.2.2.2.1 (upd (upd (upd L 9 r2.1) 10 r3.1) 3 r3.1) r3.2 r h H locs ls hP hD hS (lv_sub hl [3, 4, 5, 0, 6, 7, 8, 9, 10, 2, 1] rfl)
      · intro L σ r h H locs ls hP hD hS hl
        rw [x_GE_4, s_iters_6] at h
        refine lv_aload_n hx hb dX12_iters_112 rfl (lv_at hl 0 rfl) ?_
        refine ng_19 hx hb hts in_x_iters hown hK hP (hts _ (List.mem_cons_of_mem _ (List.mem_append_left _ (List.mem_append_left _ (List.mem_of_getElem? (i := 54) rfl))))) dX12_iters_113 ?_
        refine lv_iload hx hb dX12_iters_116 (lv_at hl 4 rfl) ?_
        refine lv_iload hx hb dX12_iters_118 (lv_at hl 10 rfl) ?_
        obtain ⟨q1, h⟩ := nb_ite1 h
        refine ns_9 hx hb hK hP hD hS q1 dX12_iters_120 (fun H locs hP hD hS => ?_)
        exact ih.2.2.2.2.2.2.2.1 L (σ.1, σ.2.1, updG σ.2.2 9 (upd (σ.2.2 9) ((L 4)).toNatClampNeg ((L 10)))) r h H locs ls hP hD hS (lv_sub hl [0, 1, 2, 3, 4, 5, 6, 7, 8, 9, 10] rfl)
      · intro L σ r h H locs ls hP hD hS hl
        rw [x_GE_4, s_iters_7] at h
        refine lv_iload hx hb dX12_iters_121 (lv_at hl 10 rfl) ?_
        refine lv_istore (lv' := [(4, .int (L 10)), (0, .ref (a 0)), (1, .int (L 1)), (2, .int (L 2)), (3, .int (L 3)), (5, .int (L 5)), (6, .int (L 6)), (7, .int (L 7)), (8, .int (L 8)), (9, .int (L 9)), (10, .int (L 10))]) hx hb dX12_iters_123 hl (by decide) rfl (fun ls hl => ?_)
        refine lv_iload hx hb dX12_iters_125 (lv_at hl 6 rfl) ?_
        refine lv_istore (lv' := [(11, .int (L 6)), (4, .int (L 10)), (0, .ref (a 0)), (1, .int (L 1)), (2, .int (L 2)), (3, .int (L 3)), (5, .int (L 5)), (6, .int (L 6)), (7, .int (L 7)), (8, .int (L 8)), (9, .int (L 9)), (10, .int (L 10))]) hx hb dX12_iters_127 hl (by decide) rfl (fun ls hl => ?_)
        exact ih.2.2.2.2.2.2.2.2.1 (upd (upd L 4 ((L 10))) 11 ((L 6))) σ r h H locs ls hP hD hS (lv_sub hl [2, 3, 4, 5, 1, 6, 7, 8, 9, 10, 11, 0] rfl)
      · intro L σ r h H locs ls hP hD hS hl
        rw [x_GE_4, s_iters_8] at h
        refine lv_iload hx hb dX12_iters_129 (lv_at hl 11 rfl) ?_
        refine lv_aload_n hx hb dX12_iters_131 rfl (lv_at hl 0 rfl) ?_
        refine ng_52 hx hb hts in_x_iters hown hK hP (hts _ (List.mem_cons_of_mem _ (List.mem_append_left _ (List.mem_append_left _ (List.mem_of_getElem? (i := 64) rfl))))) dX12_iters_132 ?_
        refine lv_icmp_ge (tgt := 176) hx hb dX12_iters_135 (by decide) (fun c1 => ?_) (fun c1 => ?_)
        · rw [if_pos c1] at h
          exact ih.2.2.2.2.2.2.2.2.2.1 L σ r h H locs ls hP hD hS (lv_sub hl [0, 1, 2, 3, 4, 5, 6, 7, 8, 9, 10, 11] rfl)
        · rw [if_neg c1] at h
          refine lv_aload_n hx hb dX12_iters_138 rfl (lv_at hl 0 rfl) ?_
          refine ng_10 hx hb hts in_x_iters hown hK hP (hts _ (List.mem_cons_of_mem _ (List.mem_append_left _ (List.mem_append_left _ (List.mem_of_getElem? (i := 24) rfl))))) dX12_iters_139 ?_
          refine lv_if_ne (tgt := 176) hx hb dX12_iters_142 (by decide) (fun c2 => ?_) (fun c2 => ?_)
          · rw [if_neg c2] at h
            exact ih.2.2.2.2.2.2.2.2.2.1 L σ r h H locs ls hP hD hS (lv_sub hl [0, 1, 2, 3, 4, 5, 6, 7, 8, 9, 10, 11] rfl)
          · rw [if_pos c2] at h
            refine lv_aload_n hx hb dX12_iters_145 rfl (lv_at hl 0 rfl) ?_
            refine lv_aload_n hx hb dX12_iters_146 rfl (lv_at hl 0 rfl) ?_
            refine ng_49 hx hb hts in_x_iters hown hK hP (hts _ (List.mem_cons_of_mem _ (List.mem_append_left _ (List.mem_append_left _ (List.mem_of_getElem? (i := 74) rfl))))) dX12_iters_147 ?_
            refine lv_iload hx hb dX12_iters_150 (lv_at hl 11 rfl) ?_
            obtain ⟨q3, h⟩ := nb_ite1 h
            refine nl_25 hx hb hK hP q3 dX12_iters_152 ?_
            refine lv_aload_n hx hb dX12_iters_153 rfl (lv_at hl 0 rfl) ?_
            refine ng_50 hx hb hts in_x_iters hown hK hP (hts _ (List.mem_cons_of_mem _ (List.mem_append_left _ (List.mem_append_left _ (List.mem_of_getElem? (i := 75) rfl))))) dX12_iters_154 ?_
            refine lv_iload hx hb dX12_iters_157 (lv_at hl 11 rfl) ?_
            obtain ⟨q4, h⟩ := nb_ite1 h
            refine nl_26 hx hb hK hP q4 dX12_iters_159 ?_
            refine lv_aload_n hx hb dX12_iters_160 rfl (lv_at hl 0 rfl) ?_
            refine ng_51 hx hb hts in_x_iters hown hK hP (hts _ (List.mem_cons_of_mem _ (List.mem_append_left _ (List.mem_append_left _ (List.mem_of_getElem? (i := 76) rfl))))) dX12_iters_161 ?_
            refine lv_iload hx hb dX12_iters_164 (lv_at hl 11 rfl) ?_
            obtain ⟨q5, h⟩ := nb_ite1 h
            refine nl_27 hx hb hK hP q5 dX12_iters_166 ?_
            obtain ⟨r6, hc6, h⟩ := ob_ex h
            refine nc_Vv (As := [.int (σ.2.2 25 ((L 11)).toNatClampNeg), .int (σ.2.2 26 ((L 11)).toNatClampNeg), .int (σ.2.2 27 ((L 11)).toNatClampNeg)]) (rest := []) ⟨hx, hb, hml, hown, hts⟩ (c_x_see l dC dI cy a k (upd (upd (upd (fun _ => 0) 1 ((σ.2.2 25 ((L 11)).toNatClampNeg))) 2 ((σ.2.2 26 ((L 11)).toNatClampNeg))) 3 ((σ.2.2 27 ((L 11)).toNatClampNeg))) σ r6 hc6 H.size) (cwV 3 hts g_x_iters_see_275 rfl rfl rfl hd_x_see (by show 0 + 1 ≤ 5 + d ∧ 8 + (4 + 11) + 0 ≤ 113 + 31 * d; omega)) hK hG hA hP hD hS rfl hl.1 rfl (Nat.le_of_ble_eq_true rfl) dX12_iters_167 ⟨Nat.le_refl _, Nat.le_refl _⟩ (fun H locs hP hD hS => ?_)
            refine lv_iinc (v := ((L 11)) + 1) (lv' := [(11, .int (((L 11)) + 1)), (0, .ref (a 0)), (1, .int (L 1)), (2, .int (L 2)), (3, .int (L 3)), (4, .int (L 4)), (5, .int (L 5)), (6, .int (L 6)), (7, .int (L 7)), (8, .int (L 8)), (9, .int (L 9)), (10, .int (L 10))]) hx hb dX12_iters_170 hl (k := 11) rfl rfl (by decide) rfl (fun ls hl => ?_)
            refine lv_goto (tgt := 129) hx hb dX12_iters_173 (by decide) ?_
            exact ih.2.2.2.2.2.2.2.2.1 (upd L 11 (((L 11)) + 1)) r6.2 r h H locs ls hP hD hS (lv_sub hl [1, 2, 3, 4, 5, 6, 7, 8, 9, 10, 11, 0] rfl)
      · intro L σ r h H locs ls hP hD hS hl
        rw [x_GE_4, s_iters_9] at h
        refine lv_aload_n hx hb dX12_iters_176 rfl (lv_at hl 0 rfl) ?_
        refine ng_10 hx hb hts in_x_iters hown hK hP (hts _ (List.mem_cons_of_mem _ (List.mem_append_left _ (List.mem_append_left _ (List.mem_of_getElem? (i := 24) rfl))))) dX12_iters_177 ?_
        refine lv_if_ne (tgt := 196) hx hb dX12_iters_180 (by decide) (fun c1 => ?_) (fun c1 => ?_)
        · rw [if_neg c1] at h
          exact ih.2.2.2.2.2.2.2.2.2.2.1 L σ r h H locs ls hP hD hS (lv_sub hl [0, 1, 2, 3, 4, 5, 6, 7, 8, 9, 10, 11] rfl)
        · rw [if_pos c1] at h
          refine lv_aload_n hx hb dX12_iters_183 rfl (lv_at hl 0 rfl) ?_
          refine lv_bipush (v := 12) hx hb dX12_iters_184 (by decide) ?_
          obtain ⟨r2, hc2, h⟩ := ob_ex h
          refine nc_Vi (As := [.int 12]) (rest := []) ⟨hx, hb, hml, hown, hts⟩ (c_x_isSign l dC dI cy a k (upd (fun _ => 0) 1 12) σ r2 hc2 H.size) (cwV 1 hts g_x_iters_isSign_65 rfl rfl rfl hd_x_isSign (by show 0 + 1 ≤ 5 + d ∧ 8 + (2 + 11) + 0 ≤ 113 + 31 * d; omega)) hK hG hA hP hD hS rfl hl.1 rfl (Nat.le_of_ble_eq_true rfl) dX12_iters_186 ⟨Nat.le_refl _, Nat.le_refl _⟩ (fun H locs hP hD hS => ?_)
          refine lv_if_eq (tgt := 196) hx hb dX12_iters_189 (by decide) (fun c3 => ?_) (fun c3 => ?_)
          · rw [if_pos c3] at h
            exact ih.2.2.2.2.2.2.2.2.2.2.1 L r2.2 r h H locs ls hP hD hS (lv_sub hl [0, 1, 2, 3, 4, 5, 6, 7, 8, 9, 10, 11] rfl)
          · rw [if_neg c3] at h
            refine lv_iconst (v := 1) hx hb dX12_iters_192 (by decide) ?_
            refine lv_goto (tgt := 197) hx hb dX12_iters_193 (by decide) ?_
            exact ih.2.2.2.2.2.2.2.2.2.2.2.1 (upd L 100 1) r2.2 r h H locs ls hP hD hS (lv_sub hl [0, 1, 2, 3, 4, 5, 6, 7, 8, 9, 10, 11] rfl)
      · intro L σ r h H locs ls hP hD hS hl
        rw [x_GE_4, s_iters_10] at h
        refine lv_iconst (v := 0) hx hb dX12_iters_196 (by decide) ?_
        exact ih.2.2.2.2.2.2.2.2.2.2.2.1 (upd L 100 0) σ r h H locs ls hP hD hS (lv_sub hl [0, 1, 2, 3, 4, 5, 6, 7, 8, 9, 10, 11] rfl)
      · intro L σ r h H locs ls hP hD hS hl
        rw [x_GE_4, s_iters_11] at h
        refine lv_istore (lv' := [(5, .int (L 100)), (0, .ref (a 0)), (1, .int (L 1)), (2, .int (L 2)), (3, .int (L 3)), (4, .int (L 4)), (6, .int (L 6)), (7, .int (L 7)), (8, .int (L 8)), (9, .int (L 9)), (10, .int (L 10)), (11, .int (L 11))]) hx hb dX12_iters_197 hl (by decide) rfl (fun ls hl => ?_)
        refine lv_iload hx hb dX12_iters_199 (lv_at hl 0 rfl) ?_
        refine lv_if_eq (tgt := 208) hx hb dX12_iters_201 (by decide) (fun c1 => ?_) (fun c1 => ?_)
        · rw [if_pos c1] at h
          exact ih.2.2.2.2.2.2.2.2.2.2.2.2.1 (upd L 5 ((L 100))) σ r h H locs ls hP hD hS (lv_sub hl [1, 2, 3, 4, 5, 0, 6, 7, 8, 9, 10, 11] rfl)
        · rw [if_neg c1] at h
          refine lv_aload_n hx hb dX12_iters_204 rfl (lv_at hl 1 rfl) ?_
          obtain ⟨r2, hc2, h⟩ := ob_ex h
          refine nc_Vv (As := []) (rest := []) ⟨hx, hb, hml, hown, hts⟩ (c_x_take l dC dI cy a k (fun _ => 0) σ r2 hc2 H.size) (cwV 0 hts g_x_iters_take_71 rfl rfl rfl hd_x_take (by show 2 + 1 ≤ 5 + d ∧ 8 + (2 + 11) + 43 ≤ 113 + 31 * d; omega)) hK hG hA hP hD hS rfl hl.1 rfl (Nat.le_of_ble_eq_true rfl) dX12_iters_205 ⟨Nat.le_refl _, Nat.le_refl _⟩ (fun H locs hP hD hS => ?_)
          exact ih.2.2.2.2.2.2.2.2.2.2.2.2.1 (upd L 5 ((L 100))) r2.2 r h H locs ls hP hD hS (lv_sub hl [1, 2, 3, 4, 5, 0, 6, 7, 8, 9, 10, 11] rfl)
      · intro L σ r h H locs ls hP hD hS hl
        rw [x_GE_4, s_iters_12] at h
        refine lv_goto (tgt := 13) hx hb dX12_iters_208 (by decide) ?_
        exact ih.2.1 L σ r h H locs ls hP hD hS (lv_sub hl [0, 1, 2, 3, 4, 5] rfl)
      · intro L σ r h H locs ls hP hD hS hl
        rw [x_GE_4, s_iters_13] at h
        refine lv_aload_n hx hb dX12_iters_211 rfl (lv_at hl 0 rfl) ?_
        refine lv_iload_n hx hb dX12_iters_212 rfl (lv_at hl 2 rfl) ?_
        refine np_52 hx hb hts in_x_iters hown hK hP hD hS (hts _ (List.mem_cons_of_mem _ (List.mem_append_left _ (List.mem_append_left _ (List.mem_of_getElem? (i := 64) rfl))))) dX12_iters_213 (fun H locs hP hD hS => ?_)
        exact ih.2.2.2.2.2.2.2.2.2.2.2.2.2.2 L (upd σ.1 52 ((L 2)), σ.2.1, σ.2.2) r h H locs ls hP hD hS (lv_sub hl [0, 1, 2, 3, 4, 5] rfl)
      · intro L σ r h H locs ls hP hD hS hl
        rw [x_GE_4, s_iters_14] at h
        refine lv_iload_n hx hb dX12_iters_216 rfl (lv_at hl 3 rfl) ?_
        cases h
        exact W.iret (v := (L 3)) hx hb hr (fun t ht hW => ⟨⟨(L 3), (), rfl, rfl, by rw [ht]; exact hP, va_K.moved hW.alike hK, hD⟩, hS.F ht⟩) hS.2.2 dX12_iters_217
  exact (blk k0 (Nat.le_refl _)).1 L0 σ0 r0 h0 s.heap [] ls hP hD hS hl
theorem gg_x_listed_exp : GoodIn w_x_listed w_x_exp := goodIn_sub (fun w h => (List.mem_cons.mp h).elim (fun e => e ▸ (List.mem_cons_of_mem _ (List.mem_append_left _ (List.mem_append_left _ (List.mem_of_getElem? (i := 3) rfl))))) (fun h => List.mem_cons_of_mem _ h)) w_x_exp_good
theorem g_x_listed_exp_209 : GoodIn w_x_listed (wsV RX12 209 RX12 yX12_exp w_x_exp) := goodIn_app (nb_g4 (List.mem_cons_of_mem _ (List.mem_append_left _ (List.mem_append_left _ (List.mem_of_getElem? (i := 38) rfl)))) (List.mem_cons_of_mem _ (List.mem_append_left _ (List.mem_append_left _ (List.mem_of_getElem? (i := 39) rfl)))) (List.mem_cons_of_mem _ (List.mem_append_left _ (List.mem_append_left _ (List.mem_of_getElem? (i := 40) rfl)))) (List.mem_cons_of_mem _ (List.mem_append_left _ (List.mem_append_left _ (List.mem_of_getElem? (i := 20) rfl)))) (by decide +kernel)) gg_x_listed_exp
theorem gg_x_listed_isSign : GoodIn w_x_listed w_x_isSign := goodIn_sub (fun w h => (List.mem_cons.mp h).elim (fun e => (List.mem_cons_of_mem _ (List.mem_append_left _ (List.mem_append_right _ (List.mem_append_left _ (List.mem_cons.mpr (Or.inl e))))))) (fun h => (List.mem_append.mp h).elim (fun h => (List.mem_cons_of_mem _ (List.mem_append_left _ (List.mem_append_right _ (List.mem_append_left _ (List.mem_cons_of_mem _ h)))))) (fun h => List.mem_cons_of_mem _ (List.mem_append_right _ h)))) w_x_isSign_good
theorem g_x_listed_isSign_65 : GoodIn w_x_listed (wsV RX12 65 RX12 yX12_isSign w_x_isSign) := goodIn_app (nb_g4 (List.mem_cons_of_mem _ (List.mem_append_left _ (List.mem_append_left _ (List.mem_of_getElem? (i := 17) rfl)))) (List.mem_cons_of_mem _ (List.mem_append_left _ (List.mem_append_left _ (List.mem_of_getElem? (i := 18) rfl)))) (List.mem_cons_of_mem _ (List.mem_append_left _ (List.mem_append_left _ (List.mem_of_getElem? (i := 19) rfl)))) (List.mem_cons_of_mem _ (List.mem_append_left _ (List.mem_append_left _ (List.mem_of_getElem? (i := 20) rfl)))) (by decide +kernel)) gg_x_listed_isSign
theorem gg_x_listed_node : GoodIn w_x_listed w_x_node := goodIn_sub (fun w h => (List.mem_cons.mp h).elim (fun e => (List.mem_cons_of_mem _ (List.mem_append_left _ (List.mem_append_right _ (List.mem_append_right _ (List.mem_append_right _ (List.mem_append_right _ (List.mem_append_left _ (List.mem_cons.mpr (Or.inl e)))))))))) (fun h => (List.mem_append.mp h).elim (fun h => (List.mem_cons_of_mem _ (List.mem_append_left _ (List.mem_append_right _ (List.mem_append_right _ (List.mem_append_right _ (List.mem_append_right _ (List.mem_append_left _ (List.mem_cons_of_mem _ h))))))))) (fun h => List.mem_cons_of_mem _ (List.mem_append_right _ h)))) w_x_node_good
theorem g_x_listed_node_101 : GoodIn w_x_listed (wsV RX12 101 RX12 yX12_node w_x_node) := goodIn_app (nb_g4 (List.mem_cons_of_mem _ (List.mem_append_left _ (List.mem_append_left _ (List.mem_of_getElem? (i := 28) rfl)))) (List.mem_cons_of_mem _ (List.mem_append_left _ (List.mem_append_left _ (List.mem_of_getElem? (i := 29) rfl)))) (List.mem_cons_of_mem _ (List.mem_append_left _ (List.mem_append_left _ (List.mem_of_getElem? (i := 30) rfl)))) (List.mem_cons_of_mem _ (List.mem_append_left _ (List.mem_append_left _ (List.mem_of_getElem? (i := 20) rfl)))) (by decide +kernel)) gg_x_listed_node
theorem gg_x_listed_take : GoodIn w_x_listed w_x_take := goodIn_sub (fun w h => (List.mem_cons.mp h).elim (fun e => (List.mem_cons_of_mem _ (List.mem_append_left _ (List.mem_append_right _ (List.mem_append_right _ (List.mem_append_right _ (List.mem_append_left _ (List.mem_cons.mpr (Or.inl e))))))))) (fun h => (List.mem_append.mp h).elim (fun h => (List.mem_cons_of_mem _ (List.mem_append_left _ (List.mem_append_right _ (List.mem_append_right _ (List.mem_append_right _ (List.mem_append_left _ (List.mem_cons_of_mem _ h)))))))) (fun h => List.mem_cons_of_mem _ (List.mem_append_right _ h)))) w_x_take_good
theorem g_x_listed_take_71 : GoodIn w_x_listed (wsV RX12 71 RX12 yX12_take w_x_take) := goodIn_app (nb_g4 (List.mem_cons_of_mem _ (List.mem_append_left _ (List.mem_append_left _ (List.mem_of_getElem? (i := 25) rfl)))) (List.mem_cons_of_mem _ (List.mem_append_left _ (List.mem_append_left _ (List.mem_of_getElem? (i := 26) rfl)))) (List.mem_cons_of_mem _ (List.mem_append_left _ (List.mem_append_left _ (List.mem_of_getElem? (i := 27) rfl)))) (List.mem_cons_of_mem _ (List.mem_append_left _ (List.mem_append_left _ (List.mem_of_getElem? (i := 20) rfl)))) (by decide +kernel)) gg_x_listed_take
theorem gg_x_listed_wrapped : GoodIn w_x_listed w_x_wrapped := goodIn_sub (fun w h => (List.mem_cons.mp h).elim (fun e => (List.mem_cons_of_mem _ (List.mem_append_left _ (List.mem_append_right _ (List.mem_append_right _ (List.mem_append_right _ (List.mem_append_right _ (List.mem_append_right _ (List.mem_append_right _ (List.mem_append_right _ (List.mem_append_left _ (List.mem_cons.mpr (Or.inl e))))))))))))) (fun h => (List.mem_append.mp h).elim (fun h => (List.mem_cons_of_mem _ (List.mem_append_left _ (List.mem_append_right _ (List.mem_append_right _ (List.mem_append_right _ (List.mem_append_right _ (List.mem_append_right _ (List.mem_append_right _ (List.mem_append_right _ (List.mem_append_left _ (List.mem_cons_of_mem _ h)))))))))))) (fun h => List.mem_cons_of_mem _ (List.mem_append_right _ h)))) w_x_wrapped_good
theorem g_x_listed_wrapped_242 : GoodIn w_x_listed (wsV RX12 242 RX12 yX12_wrapped w_x_wrapped) := goodIn_app (nb_g4 (List.mem_cons_of_mem _ (List.mem_append_left _ (List.mem_append_left _ (List.mem_of_getElem? (i := 44) rfl)))) (List.mem_cons_of_mem _ (List.mem_append_left _ (List.mem_append_left _ (List.mem_of_getElem? (i := 45) rfl)))) (List.mem_cons_of_mem _ (List.mem_append_left _ (List.mem_append_left _ (List.mem_of_getElem? (i := 46) rfl)))) (List.mem_cons_of_mem _ (List.mem_append_left _ (List.mem_append_left _ (List.mem_of_getElem? (i := 20) rfl)))) (by decide +kernel)) gg_x_listed_wrapped
set_option maxHeartbeats 40000000 in
set_option maxRecDepth 100000 in
theorem c_s_listed (l : Launch) (dC : Nat → ClassId) (dI : Nat → Nat → Nat) (cy : Nat → ClassId) (a : Nat → Nat) (k0 : Nat) (IH : ∀ j : Nat, j < k0 → P_GE l dC dI cy a j) (d : Nat) (L0 : Nat → Int32) (σ0 : MS) (r0 : Int32 × MS) (h0 : x_GE k0 d 5 0 L0 σ0 = some r0) (sz : Nat) : Met l yX12_listed w_x_listed ({ frames := 5 + d, cells := 0, slots := 0, locals := 113 + 31 * d }) (va_Pc [.ref (a 0), .int (L0 1)] (nIn (dC, dI) cy sz (vM cy a σ0))) (va_Qi (fun (z : Int32) (_ : Unit) => z = r0.1) (fun _ t => nOut (dC, dI) cy (va_A (vM cy a σ0) sz) (vM cy a r0.2) t) (va_A (vM cy a σ0) sz)) 0 0 (va_A (vM cy a σ0) sz) := by
  refine Met.ofW (cc := cX12_listed) (maxL := 7) (ret := (some .int)) (by decide) rfl ?_
  intro p e s m args below meth c s₁ B hml hv
  obtain ⟨rfl, hsz, hP, hK, hD0, hG⟩ := hv
  have hx := B.exec
  have hb := B.bytes
  have hr := B.returns
  have hts := atoms_spec (ws := w_x_listed) B.pre
  have hown : s.vm.findClass RX12 = some m.cls := findClass_of_methodNamed B.named
  have hlocks := B.notSynchronized
  subst hsz
  have hD := hD0.self (sz := s.heap.size)
  generalize hAe : va_A (vM cy a σ0) s.heap.size = A at hD ⊢
  have hA : ∀ q : Nat, s.heap.size ≤ q → A q := fun q h => by rw [← hAe]; exact Or.inr h
  have hS : va_S A s.heap s.heap [] := va_S.rf
  have hl := lv_entry ([.ref (a 0), .int (L0 1)]) (n := 7) (Nat.le_of_ble_eq_true rfl)
  rw [lg_entry_eq]
  generalize (lg_sl ([.ref (a 0), .int (L0 1)]) ++ List.replicate (7 - (lg_sl ([.ref (a 0), .int (L0 1)])).length) Slot.unset).toArray = ls at hl ⊢
  have hl : lv_has ls 7 [(0, .ref (a 0)), (1, .int (L0 1))] := hl
  have blk : ∀ k : Nat, k ≤ k0 → (bT p l e (headSpec w_x_listed ({ frames := 5 + d, cells := 0, slots := 0, locals := 113 + 31 * d })).room s m #[.ref (a 0), .int (L0 1)] below meth c dC dI cy a A (qI dC dI cy a A below #[.ref (a 0), .int (L0 1)] s) 7 (x_GE k d 5 0) (fun L => [(0, .ref (a 0)), (1, .int (L 1))]) 0 (fun L => [])) ∧ (bT p l e (headSpec w_x_listed ({ frames := 5 + d, cells := 0, slots := 0, locals := 113 + 31 * d })).room s m #[.ref (a 0), .int (L0 1)] below meth c dC dI cy a A (qI dC dI cy a A below #[.ref (a 0), .int (L0 1)] s) 7 (x_GE k d 5 1) (fun L => [(0, .ref (a 0)), (1, .int (L 1)), (2, .int (L 2))]) 41 (fun L => [])) ∧ (bT p l e (headSpec w_x_listed ({ frames := 5 + d, cells := 0, slots := 0, locals := 113 + 31 * d })).room s m #[.ref (a 0), .int (L0 1)] below meth c dC dI cy a A (qI dC dI cy a A below #[.ref (a 0), .int (L0 1)] s) 7 (x_GE k d 5 2) (fun L => [(0, .ref (a 0)), (1, .int (L 1)), (2, .int (L 2)), (3, .int (L 3)), (4, .int (L 4))]) 46 (fun L => [])) ∧ (bT p l e (headSpec w_x_listed ({ frames := 5 + d, cells := 0, slots := 0, locals := 113 + 31 * d })).room s m #[.ref (a 0), .int (L0 1)] below meth c dC dI cy a A (qI dC dI cy a A below #[.ref (a 0), .int (L0 1)] s) 7 (x_GE k d 5 3) (fun L => [(0, .ref (a 0)), (1, .int (L 1)), (2, .int (L 2)), (3, .int (L 3)), (4, .int (L 4)), (5, .int (L 5))]) 117 (fun L => [])) ∧ (bT p l e (headSpec w_x_listed ({ frames := 5 + d, cells := 0, slots := 0, locals := 113 + 31 * d })).room s m #[.ref (a 0), .int (L0 1)] below meth c dC dI cy a A (qI dC dI cy a A below #[.ref (a 0), .int (L0 1)] s) 7 (x_GE k d 5 4) (fun L => [(0, .ref (a 0)), (1, .int (L 1)), (2, .int (L 2)), (3, .int (L 3)), (4, .int (L 4)), (5, .int (L 5))]) 125 (fun L => [])) ∧ (bT p l e (headSpec w_x_listed ({ frames := 5 + d, cells := 0, slots := 0, locals := 113 + 31 * d })).room s m #[.ref (a 0), .int (L0 1)] below meth c dC dI cy a A (qI dC dI cy a A below #[.ref (a 0), .int (L0 1)] s) 7 (x_GE k d 5 5) (fun L => [(0, .ref (a 0)), (1, .int (L 1)), (2, .int (L 2)), (3, .int (L 3)), (4, .int (L 4))]) 134 (fun L => [])) ∧ (bT p l e (headSpec w_x_listed ({ frames := 5 + d, cells := 0, slots := 0, locals := 113 + 31 * d })).room s m #[.ref (a 0), .int (L0 1)] below meth c dC dI cy a A (qI dC dI cy a A below #[.ref (a 0), .int (L0 1)] s) 7 (x_GE k d 5 6) (fun L => [(0, .ref (a 0)), (1, .int (L 1)), (2, .int (L 2)), (3, .int (L 3)), (4, .int (L 4))]) 145 (fun L => [.ref (a 0)])) ∧ (bT p l e (headSpec w_x_listed ({ frames := 5 + d, cells := 0, slots := 0, locals := 113 + 31 * d })).room s m #[.ref (a 0), .int (L0 1)] below meth c dC dI cy a A (qI dC dI cy a A below #[.ref (a 0), .int (L0 1)] s) 7 (x_GE k d 5 7) (fun L => [(0, .ref (a 0)), (1, .int (L 1)), (2, .int (L 2)), (3, .int (L 3)), (4, .int (L 4))]) 147 (fun L => [.int (L 100), .ref (a 0)])) := by
    intro k
    induction k with
    | zero => exact fun _ => ⟨fun L σ r h => (by cases h), fun L σ r h => (by cases h), fun L σ r h => (by cases h), fun L σ r h => (by cases h), fun L σ r h => (by cases h), fun L σ r h => (by cases h), fun L σ r h => (by cases h), fun L σ r h => (by cases h)⟩
    | succ k ih =>
      intro hk
      replace ih := ih (by omega)
      refine ⟨?_, ?_, ?_, ?_, ?_, ?_, ?_, ?_⟩
      · intro L σ r h H locs ls hP hD hS hl
        rw [x_GE_5, s_listed_0] at h
        refine lv_aload_n hx hb dX12_listed_0 rfl (lv_at hl 0 rfl) ?_
        obtain ⟨e1, he1, h⟩ := od_ex h
        obtain ⟨r1, hc1, h⟩ := ob_ex h
        refine nc_Vi (As := []) (rest := []) ⟨hx, hb, hml, hown, hts⟩ ((IH k (by omega)).2.2.2.1 e1 (fun _ => 0) σ r1 hc1 H.size) (cwV 0 hts g_x_listed_exp_209 rfl rfl rfl hd_x_exp (by show (5 + e1) + 1 ≤ 5 + d ∧ 8 + (2 + 11) + (113 + 31 * e1) ≤ 113 + 31 * d; omega)) hK hG hA hP hD hS rfl hl.1 rfl (Nat.le_of_ble_eq_true rfl) dX12_listed_1 ⟨Nat.le_refl _, Nat.le_refl _⟩ (fun H locs hP hD hS => ?_)
        refine lv_istore_n (lv' := [(2, .int r1.1), (0, .ref (a 0)), (1, .int (L 1))]) hx hb dX12_listed_4 rfl hl (by decide) rfl (fun ls hl => ?_)
        refine lv_aload_n hx hb dX12_listed_5 rfl (lv_at hl 1 rfl) ?_
        refine ng_10 hx hb hts in_x_listed hown hK hP (hts _ (List.mem_cons_of_mem _ (List.mem_append_left _ (List.mem_append_left _ (List.mem_of_getElem? (i := 24) rfl))))) dX12_listed_6 ?_
        refine lv_if_ne (tgt := 41) hx hb dX12_listed_9 (by decide) (fun c2 => ?_) (fun c2 => ?_)
        · rw [if_neg c2] at h
          exact ih.2.1 (upd L 2 r1.1) r1.2 r h H locs ls hP hD hS (lv_sub hl [1, 2, 0] rfl)
        · rw [if_pos c2] at h
          refine lv_aload_n hx hb dX12_listed_12 rfl (lv_at hl 1 rfl) ?_
          refine lv_bipush (v := 16) hx hb dX12_listed_13 (by decide) ?_
          obtain ⟨r3, hc3, h⟩ := ob_ex h
          refine nc_Vi (As := [.int 16]) (rest := []) ⟨hx, hb, hml, hown, hts⟩ (c_x_isSign l dC dI cy a k (upd (fun _ => 0) 1 16) r1.2 r3 hc3 H.size) (cwV 1 hts g_x_listed_isSign_65 rfl rfl rfl hd_x_isSign (by show 0 + 1 ≤ 5 + d ∧ 8 + (2 + 11) + 0 ≤ 113 + 31 * d; omega)) hK hG hA hP hD hS rfl hl.1 rfl (Nat.le_of_ble_eq_true rfl) dX12_listed_15 ⟨Nat.le_refl _, Nat.le_refl _⟩ (fun H locs hP hD hS => ?_)
          refine lv_if_eq (tgt := 41) hx hb dX12_listed_18 (by decide) (fun c4 => ?_) (fun c4 => ?_)
          · rw [if_pos c4] at h
            exact ih.2.1 (upd L 2 r1.1) r3.2 r h H locs ls hP hD hS (lv_sub hl [1, 2, 0] rfl)
          · rw [if_neg c4] at h
            refine lv_aload_n hx hb dX12_listed_21 rfl (lv_at hl 1 rfl) ?_
            obtain ⟨r5, hc5, h⟩ := ob_ex h
            refine nc_Vv (As := []) (rest := []) ⟨hx, hb, hml, hown, hts⟩ (c_x_take l dC dI cy a k (fun _ => 0) r3.2 r5 hc5 H.size) (cwV 0 hts g_x_listed_take_71 rfl rfl rfl hd_x_take (by show 2 + 1 ≤ 5 + d ∧ 8 + (2 + 11) + 43 ≤ 113 + 31 * d; omega)) hK hG hA hP hD hS rfl hl.1 rfl (Nat.le_of_ble_eq_true rfl) dX12_listed_22 ⟨Nat.le_refl _, Nat.le_refl _⟩ (fun H locs hP hD hS => ?_)
            refine lv_aload_n hx hb dX12_listed_25 rfl (lv_at hl 1 rfl) ?_
            obtain ⟨e6, he6, h⟩ := od_ex h
            obtain ⟨r6, hc6, h⟩ := ob_ex h
            refine nc_Vi (As := []) (rest := []) ⟨hx, hb, hml, hown, hts⟩ ((IH k (by omega)).2.2.2.1 e6 (fun _ => 0) r5.2 r6 hc6 H.size) (cwV 0 hts g_x_listed_exp_209 rfl rfl rfl hd_x_exp (by show (5 + e6) + 1 ≤ 5 + d ∧ 8 + (2 + 11) + (113 + 31 * e6) ≤ 113 + 31 * d; omega)) hK hG hA hP hD hS rfl hl.1 rfl (Nat.le_of_ble_eq_true rfl) dX12_listed_26 ⟨Nat.le_refl _, Nat.le_refl _⟩ (fun H locs hP hD hS => ?_)
            refine lv_istore_n (lv' := [(3, .int r6.1), (2, .int r1.1), (0, .ref (a 0)), (1, .int (L 1))]) hx hb dX12_listed_29 rfl hl (by decide) rfl (fun ls hl => ?_)
            refine lv_aload_n hx hb dX12_listed_30 rfl (lv_at hl 2 rfl) ?_
            refine lv_bipush (v := 12) hx hb dX12_listed_31 (by decide) ?_
            refine lv_iload_n hx hb dX12_listed_33 rfl (lv_at hl 3 rfl) ?_
            refine lv_iload_n hx hb dX12_listed_34 rfl (lv_at hl 1 rfl) ?_
            refine lv_iconst (v := (-1)) hx hb dX12_listed_35 (by decide) ?_
            refine lv_iload_n hx hb dX12_listed_36 rfl (lv_at hl 0 rfl) ?_
            obtain ⟨r7, hc7, h⟩ := ob_ex h
            refine nc_Vi (As := [.int 12, .int (L 1), .int r1.1, .int (-1), .int r6.1]) (rest := []) ⟨hx, hb, hml, hown, hts⟩ (c_x_wrapped l dC dI cy a k (upd (upd (upd (upd (upd (fun _ => 0) 1 12) 2 ((L 1))) 3 r1.1) 4 ((-1))) 5 r6.1) r6.2 r7 hc7 H.size) (cwV 5 hts g_x_listed_wrapped_242 rfl rfl rfl hd_x_wrapped (by show 1 + 1 ≤ 5 + d ∧ 8 + (7 + 11) + 25 ≤ 113 + 31 * d; omega)) hK hG hA hP hD hS rfl hl.1 rfl (Nat.le_of_ble_eq_true rfl) dX12_listed_37 ⟨Nat.le_refl _, Nat.le_refl _⟩ (fun H locs hP hD hS => ?_)
            cases h
            exact W.iret (v := r7.1) hx hb hr (fun t ht hW => ⟨⟨r7.1, (), rfl, rfl, by rw [ht]; exact hP, va_K.moved hW.alike hK, hD⟩, hS.F ht⟩) hS.2.2 dX12_listed_40
      · intro L σ r h H locs ls hP hD hS hl
        rw [x_GE_5, s_listed_1] at h
        refine lv_iload_n hx hb dX12_listed_41 rfl (lv_at hl 2 rfl) ?_
        refine lv_istore_n (lv' := [(3, .int (L 2)), (0, .ref (a 0)), (1, .int (L 1)), (2, .int (L 2))]) hx hb dX12_listed_42 rfl hl (by decide) rfl (fun ls hl => ?_)
        refine lv_iconst (v := 1) hx hb dX12_listed_43 (by decide) ?_
        refine lv_istore (lv' := [(4, .int 1), (3, .int (L 2)), (0, .ref (a 0)), (1, .int (L 1)), (2, .int (L 2))]) hx hb dX12_listed_44 hl (by decide) rfl (fun ls hl => ?_)
        exact ih.2.2.1 (upd (upd L 3 ((L 2))) 4 1) σ r h H locs ls hP hD hS (lv_sub hl [2, 3, 4, 1, 0] rfl)
      · intro L σ r h H locs ls hP hD hS hl
        rw [x_GE_5, s_listed_2] at h
        refine lv_aload_n hx hb dX12_listed_46 rfl (lv_at hl 0 rfl) ?_
        refine ng_10 hx hb hts in_x_listed hown hK hP (hts _ (List.mem_cons_of_mem _ (List.mem_append_left _ (List.mem_append_left _ (List.mem_of_getElem? (i := 24) rfl))))) dX12_listed_47 ?_
        refine lv_if_ne (tgt := 134) hx hb dX12_listed_50 (by decide) (fun c1 => ?_) (fun c1 => ?_)
        · rw [if_neg c1] at h
          exact ih.2.2.2.2.2.1 L σ r h H locs ls hP hD hS (lv_sub hl [0, 1, 2, 3, 4] rfl)
        · rw [if_pos c1] at h
          refine lv_aload_n hx hb dX12_listed_53 rfl (lv_at hl 0 rfl) ?_
          refine lv_bipush (v := 12) hx hb dX12_listed_54 (by decide) ?_
          obtain ⟨r2, hc2, h⟩ := ob_ex h
          refine nc_Vi (As := [.int 12]) (rest := []) ⟨hx, hb, hml, hown, hts⟩ (c_x_isSign l dC dI cy a k (upd (fun _ => 0) 1 12) σ r2 hc2 H.size) (cwV 1 hts g_x_listed_isSign_65 rfl rfl rfl hd_x_isSign (by show 0 + 1 ≤ 5 + d ∧ 8 + (2 + 11) + 0 ≤ 113 + 31 * d; omega)) hK hG hA hP hD hS rfl hl.1 rfl (Nat.le_of_ble_eq_true rfl) dX12_listed_56 ⟨Nat.le_refl _, Nat.le_refl _⟩ (fun H locs hP hD hS => ?_)
          refine lv_if_eq (tgt := 134) hx hb dX12_listed_59 (by decide) (fun c3 => ?_) (fun c3 => ?_)
          · rw [if_pos c3] at h
            exact ih.2.2.2.2.2.1 L r2.2 r h H locs ls hP hD hS (lv_sub hl [0, 1, 2, 3, 4] rfl)
          · rw [if_neg c3] at h
            refine lv_aload_n hx hb dX12_listed_62 rfl (lv_at hl 0 rfl) ?_
            obtain ⟨r4, hc4, h⟩ := ob_ex h
            refine nc_Vv (As := []) (rest := []) ⟨hx, hb, hml, hown, hts⟩ (c_x_take l dC dI cy a k (fun _ => 0) r2.2 r4 hc4 H.size) (cwV 0 hts g_x_listed_take_71 rfl rfl rfl hd_x_take (by show 2 + 1 ≤ 5 + d ∧ 8 + (2 + 11) + 43 ≤ 113 + 31 * d; omega)) hK hG hA hP hD hS rfl hl.1 rfl (Nat.le_of_ble_eq_true rfl) dX12_listed_63 ⟨Nat.le_refl _, Nat.le_refl _⟩ (fun H locs hP hD hS => ?_)
            refine lv_aload_n hx hb dX12_listed_66 rfl (lv_at hl 0 rfl) ?_
            obtain ⟨e5, he5, h⟩ := od_ex h
            obtain ⟨r5, hc5, h⟩ := ob_ex h
            refine nc_Vi (As := []) (rest := []) ⟨hx, hb, hml, hown, hts⟩ ((IH k (by omega)).2.2.2.1 e5 (fun _ => 0) r4.2 r5 hc5 H.size) (cwV 0 hts g_x_listed_exp_209 rfl rfl rfl hd_x_exp (by show (5 + e5) + 1 ≤ 5 + d ∧ 8 + (2 + 11) + (113 + 31 * e5) ≤ 113 + 31 * d; omega)) hK hG hA hP hD hS rfl hl.1 rfl (Nat.le_of_ble_eq_true rfl) dX12_listed_67 ⟨Nat.le_refl _, Nat.le_refl _⟩ (fun H locs hP hD hS => ?_)
            refine lv_istore (lv' := [(5, .int r5.1), (0, .ref (a 0)), (1, .int (L 1)), (2, .int (L 2)), (3, .int (L 3)), (4, .int (L 4))]) hx hb dX12_listed_70 hl (by decide) rfl (fun ls hl => ?_)
            refine lv_aload_n hx hb dX12_listed_72 rfl (lv_at hl 1 rfl) ?_
            refine ng_10 hx hb hts in_x_listed hown hK hP (hts _ (List.mem_cons_of_mem _ (List.mem_append_left _ (List.mem_append_left _ (List.mem_of_getElem? (i := 24) rfl))))) dX12_listed_73 ?_
            refine lv_if_ne (tgt := 117) hx hb dX12_listed_76 (by decide) (fun c6 => ?_) (fun c6 => ?_)
            · rw [if_neg c6] at h
              exact ih.2.2.2.1 (upd L 5 r5.1) r5.2 r h H locs ls hP hD hS (lv_sub hl [1, 2, 3, 4, 5, 0] rfl)
            · rw [if_pos c6] at h
              refine lv_iload hx hb dX12_listed_79 (lv_at hl 5 rfl) ?_
              refine lv_iconst (v := 1) hx hb dX12_listed_81 (by decide) ?_
              refine lv_icmp_ne (tgt := 117) hx hb dX12_listed_82 (by decide) (fun c7 => ?_) (fun c7 => ?_)
              · rw [if_neg c7] at h
                exact ih.2.2.2.1 (upd L 5 r5.1) r5.2 r h H locs ls hP hD hS (lv_sub hl [1, 2, 3, 4, 5, 0] rfl)
              · rw [if_pos c7] at h
                refine lv_aload_n hx hb dX12_listed_85 rfl (lv_at hl 1 rfl) ?_
                refine lv_bipush (v := 16) hx hb dX12_listed_86 (by decide) ?_
                obtain ⟨r8, hc8, h⟩ := ob_ex h
                refine nc_Vi (As := [.int 16]) (rest := []) ⟨hx, hb, hml, hown, hts⟩ (c_x_isSign l dC dI cy a k (upd (fun _ => 0) 1 16) r5.2 r8 hc8 H.size) (cwV 1 hts g_x_listed_isSign_65 rfl rfl rfl hd_x_isSign (by show 0 + 1 ≤ 5 + d ∧ 8 + (2 + 11) + 0 ≤ 113 + 31 * d; omega)) hK hG hA hP hD hS rfl hl.1 rfl (Nat.le_of_ble_eq_true rfl) dX12_listed_88 ⟨Nat.le_refl _, Nat.le_refl _⟩ (fun H locs hP hD hS => ?_)
                refine lv_if_eq (tgt := 117) hx hb dX12_listed_91 (by decide) (fun c9 => ?_) (fun c9 => ?_)
                · rw [if_pos c9] at h
                  exact ih.2.2.2.1 (upd L 5 r5.1) r8.2 r h H locs ls hP hD hS (lv_sub hl [1, 2, 3, 4, 5, 0] rfl)
                · rw [if_neg c9] at h
                  refine lv_aload_n hx hb dX12_listed_94 rfl (lv_at hl 1 rfl) ?_
                  obtain ⟨r10, hc10, h⟩ := ob_ex h
                  refine nc_Vv (As := []) (rest := []) ⟨hx, hb, hml, hown, hts⟩ (c_x_take l dC dI cy a k (fun _ => 0) r8.2 r10 hc10 H.size) (cwV 0 hts g_x_listed_take_71 rfl rfl rfl hd_x_take (by show 2 + 1 ≤ 5 + d ∧ 8 + (2 + 11) + 43 ≤ 113 + 31 * d; omega)) hK hG hA hP hD hS rfl hl.1 rfl (Nat.le_of_ble_eq_true rfl) dX12_listed_95 ⟨Nat.le_refl _, Nat.le_refl _⟩ (fun H locs hP hD hS => ?_)
                  refine lv_aload_n hx hb dX12_listed_98 rfl (lv_at hl 1 rfl) ?_
                  obtain ⟨e11, he11, h⟩ := od_ex h
                  obtain ⟨r11, hc11, h⟩ := ob_ex h
                  refine nc_Vi (As := []) (rest := []) ⟨hx, hb, hml, hown, hts⟩ ((IH k (by omega)).2.2.2.1 e11 (fun _ => 0) r10.2 r11 hc11 H.size) (cwV 0 hts g_x_listed_exp_209 rfl rfl rfl hd_x_exp (by show (5 + e11) + 1 ≤ 5 + d ∧ 8 + (2 + 11) + (113 + 31 * e11) ≤ 113 + 31 * d; omega)) hK hG hA hP hD hS rfl hl.1 rfl (Nat.le_of_ble_eq_true rfl) dX12_listed_99 ⟨Nat.le_refl _, Nat.le_refl _⟩ (fun H locs hP hD hS => ?_)
                  refine lv_istore (lv' := [(6, .int r11.1), (5, .int r5.1), (0, .ref (a 0)), (1, .int (L 1)), (2, .int (L 2)), (3, .int (L 3)), (4, .int (L 4))]) hx hb dX12_listed_102 hl (by decide) rfl (fun ls hl => ?_)
                  refine lv_aload_n hx hb dX12_listed_104 rfl (lv_at hl 2 rfl) ?_
                  refine lv_bipush (v := 12) hx hb dX12_listed_105 (by decide) ?_
                  refine lv_iload_n hx hb dX12_listed_107 rfl (lv_at hl 3 rfl) ?_
                  refine lv_iload_n hx hb dX12_listed_108 rfl (lv_at hl 4 rfl) ?_
                  refine lv_iload hx hb dX12_listed_109 (lv_at hl 1 rfl) ?_
                  refine lv_iload hx hb dX12_listed_111 (lv_at hl 0 rfl) ?_
                  obtain ⟨r12, hc12, h⟩ := ob_ex h
                  refine nc_Vi (As := [.int 12, .int (L 1), .int (L 2), .int r5.1, .int r11.1]) (rest := []) ⟨hx, hb, hml, hown, hts⟩ (c_x_wrapped l dC dI cy a k (upd (upd (upd (upd (upd (fun _ => 0) 1 12) 2 ((L 1))) 3 ((L 2))) 4 r5.1) 5 r11.1) r11.2 r12 hc12 H.size) (cwV 5 hts g_x_listed_wrapped_242 rfl rfl rfl hd_x_wrapped (by show 1 + 1 ≤ 5 + d ∧ 8 + (7 + 11) + 25 ≤ 113 + 31 * d; omega)) hK hG hA hP hD hS rfl hl.1 rfl (Nat.le_of_ble_eq_true rfl) dX12_listed_113 ⟨Nat.le_refl _, Nat.le_refl _⟩ (fun H locs hP hD hS => ?_)
                  cases h
                  exact W.iret (v := r12.1) hx hb hr (fun t ht hW => ⟨⟨r12.1, (), rfl, rfl, by rw [ht]; exact hP, va_K.moved hW.alike hK, hD⟩, hS.F ht⟩) hS.2.2 dX12_listed_116
      · intro L σ r h H locs ls hP hD hS hl
        rw [x_GE_5, s_listed_3] at h
        refine lv_aload_n hx hb dX12_listed_117 rfl (lv_at hl 0 rfl) ?_
        refine ng_19 hx hb hts in_x_listed hown hK hP (hts _ (List.mem_cons_of_mem _ (List.mem_append_left _ (List.mem_append_left _ (List.mem_of_getElem? (i := 54) rfl))))) dX12_listed_118 ?_
        refine lv_iload_n hx hb dX12_listed_121 rfl (lv_at hl 3 rfl) ?_
        refine lv_iload hx hb dX12_listed_122 (lv_at hl 5 rfl) ?_
        obtain ⟨q1, h⟩ := nb_ite1 h
        refine ns_9 hx hb hK hP hD hS q1 dX12_listed_124 (fun H locs hP hD hS => ?_)
        exact ih.2.2.2.2.1 L (σ.1, σ.2.1, updG σ.2.2 9 (upd (σ.2.2 9) ((L 3)).toNatClampNeg ((L 5)))) r h H locs ls hP hD hS (lv_sub hl [0, 1, 2, 3, 4, 5] rfl)
      · intro L σ r h H locs ls hP hD hS hl
        rw [x_GE_5, s_listed_4] at h
        refine lv_iload hx hb dX12_listed_125 (lv_at hl 5 rfl) ?_
        refine lv_istore_n (lv' := [(3, .int (L 5)), (0, .ref (a 0)), (1, .int (L 1)), (2, .int (L 2)), (4, .int (L 4)), (5, .int (L 5))]) hx hb dX12_listed_127 rfl hl (by decide) rfl (fun ls hl => ?_)
        refine lv_iinc (v := ((L 4)) + 1) (lv' := [(4, .int (((L 4)) + 1)), (3, .int (L 5)), (0, .ref (a 0)), (1, .int (L 1)), (2, .int (L 2)), (5, .int (L 5))]) hx hb dX12_listed_128 hl (k := 4) rfl rfl (by decide) rfl (fun ls hl => ?_)
        refine lv_goto (tgt := 46) hx hb dX12_listed_131 (by decide) ?_
        exact ih.2.2.1 (upd (upd L 3 ((L 5))) 4 (((L 4)) + 1)) σ r h H locs ls hP hD hS (lv_sub hl [2, 3, 4, 1, 0] rfl)
      · intro L σ r h H locs ls hP hD hS hl
        rw [x_GE_5, s_listed_5] at h
        refine lv_aload_n hx hb dX12_listed_134 rfl (lv_at hl 0 rfl) ?_
        refine lv_iload_n hx hb dX12_listed_135 rfl (lv_at hl 1 rfl) ?_
        refine lv_iconst (v := 1) hx hb dX12_listed_136 (by decide) ?_
        refine lv_icmp_ne (tgt := 145) hx hb dX12_listed_137 (by decide) (fun c1 => ?_) (fun c1 => ?_)
        · rw [if_neg c1] at h
          exact ih.2.2.2.2.2.2.1 L σ r h H locs ls hP hD hS (lv_sub hl [0, 1, 2, 3, 4] rfl)
        · rw [if_pos c1] at h
          refine lv_bipush (v := 10) hx hb dX12_listed_140 (by decide) ?_
          refine lv_goto (tgt := 147) hx hb dX12_listed_142 (by decide) ?_
          exact ih.2.2.2.2.2.2.2 (upd L 100 10) σ r h H locs ls hP hD hS (lv_sub hl [0, 1, 2, 3, 4] rfl)
      · intro L σ r h H locs ls hP hD hS hl
        rw [x_GE_5, s_listed_6] at h
        refine lv_bipush (v := 11) hx hb dX12_listed_145 (by decide) ?_
        exact ih.2.2.2.2.2.2.2 (upd L 100 11) σ r h H locs ls hP hD hS (lv_sub hl [0, 1, 2, 3, 4] rfl)
      · intro L σ r h H locs ls hP hD hS hl
        rw [x_GE_5, s_listed_7] at h
        refine lv_iconst (v := 0) hx hb dX12_listed_147 (by decide) ?_
        refine lv_iload_n hx hb dX12_listed_148 rfl (lv_at hl 2 rfl) ?_
        refine lv_iload hx hb dX12_listed_149 (lv_at hl 4 rfl) ?_
        obtain ⟨r1, hc1, h⟩ := ob_ex h
        refine nc_Vi (As := [.int (L 100), .int 0, .int (L 2), .int (L 4)]) (rest := []) ⟨hx, hb, hml, hown, hts⟩ (c_x_node l dC dI cy a k (upd (upd (upd (upd (fun _ => 0) 1 ((L 100))) 2 0) 3 ((L 2))) 4 ((L 4))) σ r1 hc1 H.size) (cwV 4 hts g_x_listed_node_101 rfl rfl rfl hd_x_node (by show 0 + 1 ≤ 5 + d ∧ 8 + (6 + 11) + 0 ≤ 113 + 31 * d; omega)) hK hG hA hP hD hS rfl hl.1 rfl (Nat.le_of_ble_eq_true rfl) dX12_listed_151 ⟨Nat.le_refl _, Nat.le_refl _⟩ (fun H locs hP hD hS => ?_)
        cases h
        exact W.iret (v := r1.1) hx hb hr (fun t ht hW => ⟨⟨r1.1, (), rfl, rfl, by rw [ht]; exact hP, va_K.moved hW.alike hK, hD⟩, hS.F ht⟩) hS.2.2 dX12_listed_154
  exact (blk k0 (Nat.le_refl _)).1 L0 σ0 r0 h0 s.heap [] ls hP hD hS hl

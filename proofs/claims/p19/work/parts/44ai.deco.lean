theorem gg_x_fors_block : GoodIn w_x_fors w_x_block := goodIn_sub (fun w h => (List.mem_cons.mp h).elim (fun e => e ▸ (List.mem_cons_of_mem _ (List.mem_append_left _ (List.mem_append_left _ (List.mem_of_getElem? (i := 0) rfl))))) (fun h => List.mem_cons_of_mem _ h)) w_x_block_good
theorem g_x_fors_block_336 : GoodIn w_x_fors (wsV RX12 336 RX12 yX12_block w_x_block) := goodIn_app (nb_g4 (List.mem_cons_of_mem _ (List.mem_append_left _ (List.mem_append_left _ (List.mem_of_getElem? (i := 40) rfl)))) (List.mem_cons_of_mem _ (List.mem_append_left _ (List.mem_append_left _ (List.mem_of_getElem? (i := 41) rfl)))) (List.mem_cons_of_mem _ (List.mem_append_left _ (List.mem_append_left _ (List.mem_of_getElem? (i := 42) rfl)))) (List.mem_cons_of_mem _ (List.mem_append_left _ (List.mem_append_left _ (List.mem_of_getElem? (i := 9) rfl)))) (by decide +kernel)) gg_x_fors_block
theorem gg_x_fors_exp : GoodIn w_x_fors w_x_exp := goodIn_sub (fun w h => (List.mem_cons.mp h).elim (fun e => (List.mem_cons_of_mem _ (List.mem_append_left _ (List.mem_append_right _ (List.mem_append_right _ (List.mem_append_right _ (List.mem_append_right _ (List.mem_append_right _ (List.mem_append_right _ (List.mem_append_left _ (List.mem_cons.mpr (Or.inl e)))))))))))) (fun h => (List.mem_append.mp h).elim (fun h => (List.mem_cons_of_mem _ (List.mem_append_left _ (List.mem_append_right _ (List.mem_append_right _ (List.mem_append_right _ (List.mem_append_right _ (List.mem_append_right _ (List.mem_append_right _ (List.mem_append_left _ (List.mem_cons_of_mem _ h))))))))))) (fun h => List.mem_cons_of_mem _ (List.mem_append_right _ h)))) w_x_exp_good
theorem g_x_fors_exp_209 : GoodIn w_x_fors (wsV RX12 209 RX12 yX12_exp w_x_exp) := goodIn_app (nb_g4 (List.mem_cons_of_mem _ (List.mem_append_left _ (List.mem_append_left _ (List.mem_of_getElem? (i := 32) rfl)))) (List.mem_cons_of_mem _ (List.mem_append_left _ (List.mem_append_left _ (List.mem_of_getElem? (i := 33) rfl)))) (List.mem_cons_of_mem _ (List.mem_append_left _ (List.mem_append_left _ (List.mem_of_getElem? (i := 34) rfl)))) (List.mem_cons_of_mem _ (List.mem_append_left _ (List.mem_append_left _ (List.mem_of_getElem? (i := 9) rfl)))) (by decide +kernel)) gg_x_fors_exp
theorem gg_x_fors_isSign : GoodIn w_x_fors w_x_isSign := goodIn_sub (fun w h => (List.mem_cons.mp h).elim (fun e => (List.mem_cons_of_mem _ (List.mem_append_left _ (List.mem_append_right _ (List.mem_append_right _ (List.mem_append_right _ (List.mem_append_right _ (List.mem_append_right _ (List.mem_append_left _ (List.mem_cons.mpr (Or.inl e))))))))))) (fun h => (List.mem_append.mp h).elim (fun h => (List.mem_cons_of_mem _ (List.mem_append_left _ (List.mem_append_right _ (List.mem_append_right _ (List.mem_append_right _ (List.mem_append_right _ (List.mem_append_right _ (List.mem_append_left _ (List.mem_cons_of_mem _ h)))))))))) (fun h => List.mem_cons_of_mem _ (List.mem_append_right _ h)))) w_x_isSign_good
theorem g_x_fors_isSign_65 : GoodIn w_x_fors (wsV RX12 65 RX12 yX12_isSign w_x_isSign) := goodIn_app (nb_g4 (List.mem_cons_of_mem _ (List.mem_append_left _ (List.mem_append_left _ (List.mem_of_getElem? (i := 28) rfl)))) (List.mem_cons_of_mem _ (List.mem_append_left _ (List.mem_append_left _ (List.mem_of_getElem? (i := 29) rfl)))) (List.mem_cons_of_mem _ (List.mem_append_left _ (List.mem_append_left _ (List.mem_of_getElem? (i := 30) rfl)))) (List.mem_cons_of_mem _ (List.mem_append_left _ (List.mem_append_left _ (List.mem_of_getElem? (i := 9) rfl)))) (by decide +kernel)) gg_x_fors_isSign
theorem gg_x_fors_iters : GoodIn w_x_fors w_x_iters := goodIn_sub (fun w h => (List.mem_cons.mp h).elim (fun e => (List.mem_cons_of_mem _ (List.mem_append_left _ (List.mem_append_right _ (List.mem_append_right _ (List.mem_append_right _ (List.mem_append_right _ (List.mem_append_left _ (List.mem_cons.mpr (Or.inl e)))))))))) (fun h => (List.mem_append.mp h).elim (fun h => (List.mem_cons_of_mem _ (List.mem_append_left _ (List.mem_append_right _ (List.mem_append_right _ (List.mem_append_right _ (List.mem_append_right _ (List.mem_append_left _ (List.mem_cons_of_mem _ h))))))))) (fun h => List.mem_cons_of_mem _ (List.mem_append_right _ h)))) w_x_iters_good
theorem g_x_fors_iters_246 : GoodIn w_x_fors (wsV RX12 246 RX12 yX12_iters w_x_iters) := goodIn_app (nb_g4 (List.mem_cons_of_mem _ (List.mem_append_left _ (List.mem_append_left _ (List.mem_of_getElem? (i := 25) rfl)))) (List.mem_cons_of_mem _ (List.mem_append_left _ (List.mem_append_left _ (List.mem_of_getElem? (i := 26) rfl)))) (List.mem_cons_of_mem _ (List.mem_append_left _ (List.mem_append_left _ (List.mem_of_getElem? (i := 27) rfl)))) (List.mem_cons_of_mem _ (List.mem_append_left _ (List.mem_append_left _ (List.mem_of_getElem? (i := 9) rfl)))) (by decide +kernel)) gg_x_fors_iters
theorem gg_x_fors_node : GoodIn w_x_fors w_x_node := goodIn_sub (fun w h => (List.mem_cons.mp h).elim (fun e => (List.mem_cons_of_mem _ (List.mem_append_left _ (List.mem_append_right _ (List.mem_append_right _ (List.mem_append_left _ (List.mem_cons.mpr (Or.inl e)))))))) (fun h => (List.mem_append.mp h).elim (fun h => (List.mem_cons_of_mem _ (List.mem_append_left _ (List.mem_append_right _ (List.mem_append_right _ (List.mem_append_left _ (List.mem_cons_of_mem _ h))))))) (fun h => List.mem_cons_of_mem _ (List.mem_append_right _ h)))) w_x_node_good
theorem g_x_fors_node_101 : GoodIn w_x_fors (wsV RX12 101 RX12 yX12_node w_x_node) := goodIn_app (nb_g4 (List.mem_cons_of_mem _ (List.mem_append_left _ (List.mem_append_left _ (List.mem_of_getElem? (i := 16) rfl)))) (List.mem_cons_of_mem _ (List.mem_append_left _ (List.mem_append_left _ (List.mem_of_getElem? (i := 17) rfl)))) (List.mem_cons_of_mem _ (List.mem_append_left _ (List.mem_append_left _ (List.mem_of_getElem? (i := 18) rfl)))) (List.mem_cons_of_mem _ (List.mem_append_left _ (List.mem_append_left _ (List.mem_of_getElem? (i := 9) rfl)))) (by decide +kernel)) gg_x_fors_node
theorem gg_x_fors_take : GoodIn w_x_fors w_x_take := goodIn_sub (fun w h => (List.mem_cons.mp h).elim (fun e => (List.mem_cons_of_mem _ (List.mem_append_left _ (List.mem_append_right _ (List.mem_append_right _ (List.mem_append_right _ (List.mem_append_left _ (List.mem_cons.mpr (Or.inl e))))))))) (fun h => (List.mem_append.mp h).elim (fun h => (List.mem_cons_of_mem _ (List.mem_append_left _ (List.mem_append_right _ (List.mem_append_right _ (List.mem_append_right _ (List.mem_append_left _ (List.mem_cons_of_mem _ h)))))))) (fun h => List.mem_cons_of_mem _ (List.mem_append_right _ h)))) w_x_take_good
theorem g_x_fors_take_71 : GoodIn w_x_fors (wsV RX12 71 RX12 yX12_take w_x_take) := goodIn_app (nb_g4 (List.mem_cons_of_mem _ (List.mem_append_left _ (List.mem_append_left _ (List.mem_of_getElem? (i := 20) rfl)))) (List.mem_cons_of_mem _ (List.mem_append_left _ (List.mem_append_left _ (List.mem_of_getElem? (i := 21) rfl)))) (List.mem_cons_of_mem _ (List.mem_append_left _ (List.mem_append_left _ (List.mem_of_getElem? (i := 22) rfl)))) (List.mem_cons_of_mem _ (List.mem_append_left _ (List.mem_append_left _ (List.mem_of_getElem? (i := 9) rfl)))) (by decide +kernel)) gg_x_fors_take
theorem gg_x_fors_wantWord : GoodIn w_x_fors w_x_wantWord := goodIn_sub (fun w h => (List.mem_cons.mp h).elim (fun e => (List.mem_cons_of_mem _ (List.mem_append_left _ (List.mem_append_right _ (List.mem_append_right _ (List.mem_append_right _ (List.mem_append_right _ (List.mem_append_right _ (List.mem_append_right _ (List.mem_append_right _ (List.mem_append_left _ (List.mem_cons.mpr (Or.inl e))))))))))))) (fun h => (List.mem_append.mp h).elim (fun h => (List.mem_cons_of_mem _ (List.mem_append_left _ (List.mem_append_right _ (List.mem_append_right _ (List.mem_append_right _ (List.mem_append_right _ (List.mem_append_right _ (List.mem_append_right _ (List.mem_append_right _ (List.mem_append_left _ (List.mem_cons_of_mem _ h)))))))))))) (fun h => List.mem_cons_of_mem _ (List.mem_append_right _ h)))) w_x_wantWord_good
theorem g_x_fors_wantWord_253 : GoodIn w_x_fors (wsV RX12 253 RX12 yX12_wantWord w_x_wantWord) := goodIn_app (nb_g4 (List.mem_cons_of_mem _ (List.mem_append_left _ (List.mem_append_left _ (List.mem_of_getElem? (i := 35) rfl)))) (List.mem_cons_of_mem _ (List.mem_append_left _ (List.mem_append_left _ (List.mem_of_getElem? (i := 36) rfl)))) (List.mem_cons_of_mem _ (List.mem_append_left _ (List.mem_append_left _ (List.mem_of_getElem? (i := 37) rfl)))) (List.mem_cons_of_mem _ (List.mem_append_left _ (List.mem_append_left _ (List.mem_of_getElem? (i := 9) rfl)))) (by decide +kernel)) gg_x_fors_wantWord
theorem gg_x_fors_want : GoodIn w_x_fors w_x_want := goodIn_sub (fun w h => (List.mem_cons.mp h).elim (fun e => (List.mem_cons_of_mem _ (List.mem_append_left _ (List.mem_append_right _ (List.mem_append_right _ (List.mem_append_right _ (List.mem_append_right _ (List.mem_append_right _ (List.mem_append_right _ (List.mem_append_right _ (List.mem_append_right _ (List.mem_append_left _ (List.mem_cons.mpr (Or.inl e)))))))))))))) (fun h => (List.mem_append.mp h).elim (fun h => (List.mem_cons_of_mem _ (List.mem_append_left _ (List.mem_append_right _ (List.mem_append_right _ (List.mem_append_right _ (List.mem_append_right _ (List.mem_append_right _ (List.mem_append_right _ (List.mem_append_right _ (List.mem_append_right _ (List.mem_append_left _ (List.mem_cons_of_mem _ h))))))))))))) (fun h => List.mem_cons_of_mem _ (List.mem_append_right _ h)))) w_x_want_good
theorem g_x_fors_want_199 : GoodIn w_x_fors (wsV RX12 199 RX12 yX12_want w_x_want) := goodIn_app (nb_g4 (List.mem_cons_of_mem _ (List.mem_append_left _ (List.mem_append_left _ (List.mem_of_getElem? (i := 43) rfl)))) (List.mem_cons_of_mem _ (List.mem_append_left _ (List.mem_append_left _ (List.mem_of_getElem? (i := 44) rfl)))) (List.mem_cons_of_mem _ (List.mem_append_left _ (List.mem_append_left _ (List.mem_of_getElem? (i := 45) rfl)))) (List.mem_cons_of_mem _ (List.mem_append_left _ (List.mem_append_left _ (List.mem_of_getElem? (i := 9) rfl)))) (by decide +kernel)) gg_x_fors_want
set_option maxHeartbeats 40000000 in
set_option maxRecDepth 100000 in
theorem c_s_fors (l : Launch) (dC : Nat → ClassId) (dI : Nat → Nat → Nat) (cy : Nat → ClassId) (a : Nat → Nat) (k0 : Nat) (IH : ∀ j : Nat, j < k0 → P_GS l dC dI cy a j) (d : Nat) (L0 : Nat → Int32) (σ0 : MS) (r0 : Int32 × MS) (h0 : x_GS k0 d 1 0 L0 σ0 = some r0) (sz : Nat) : Met l yX12_fors w_x_fors ({ frames := 328 + d, cells := 0, slots := 0, locals := 10106 + 26 * d }) (va_Pc [.ref (a 0)] (nIn (dC, dI) cy sz (vM cy a σ0))) (va_Qi (fun (z : Int32) (_ : Unit) => z = r0.1) (fun _ t => nOut (dC, dI) cy (va_A (vM cy a σ0) sz) (vM cy a r0.2) t) (va_A (vM cy a σ0) sz)) 0 0 (va_A (vM cy a σ0) sz) := by
  refine Met.ofW (cc := cX12_fors) (maxL := 3) (ret := (some .int)) (by decide) rfl ?_
  intro p e s m args below meth c s₁ B hml hv
  obtain ⟨rfl, hsz, hP, hK, hD0, hG⟩ := hv
  have hx := B.exec
  have hb := B.bytes
  have hr := B.returns
  have hts := atoms_spec (ws := w_x_fors) B.pre
  have hown : s.vm.findClass RX12 = some m.cls := findClass_of_methodNamed B.named
  have hlocks := B.notSynchronized
  subst hsz
  have hD := hD0.self (sz := s.heap.size)
  generalize hAe : va_A (vM cy a σ0) s.heap.size = A at hD ⊢
  have hA : ∀ q : Nat, s.heap.size ≤ q → A q := fun q h => by rw [← hAe]; exact Or.inr h
  have hS : va_S A s.heap s.heap [] := va_S.rf
  have hl := lv_entry ([.ref (a 0)]) (n := 3) (Nat.le_of_ble_eq_true rfl)
  rw [lg_entry_eq]
  generalize (lg_sl ([.ref (a 0)]) ++ List.replicate (3 - (lg_sl ([.ref (a 0)])).length) Slot.unset).toArray = ls at hl ⊢
  have hl : lv_has ls 3 [(0, .ref (a 0))] := hl
  have blk : ∀ k : Nat, k ≤ k0 → (bT p l e (headSpec w_x_fors ({ frames := 328 + d, cells := 0, slots := 0, locals := 10106 + 26 * d })).room s m #[.ref (a 0)] below meth c dC dI cy a A (qI dC dI cy a A below #[.ref (a 0)] s) 3 (x_GS k d 1 0) (fun L => [(0, .ref (a 0))]) 0 (fun L => [])) ∧ (bT p l e (headSpec w_x_fors ({ frames := 328 + d, cells := 0, slots := 0, locals := 10106 + 26 * d })).room s m #[.ref (a 0)] below meth c dC dI cy a A (qI dC dI cy a A below #[.ref (a 0)] s) 3 (x_GS k d 1 1) (fun L => [(0, .ref (a 0)), (1, .int (L 1))]) 20 (fun L => [])) ∧ (bT p l e (headSpec w_x_fors ({ frames := 328 + d, cells := 0, slots := 0, locals := 10106 + 26 * d })).room s m #[.ref (a 0)] below meth c dC dI cy a A (qI dC dI cy a A below #[.ref (a 0)] s) 3 (x_GS k d 1 2) (fun L => [(0, .ref (a 0)), (1, .int (L 1)), (2, .int (L 2))]) 40 (fun L => [])) ∧ (bT p l e (headSpec w_x_fors ({ frames := 328 + d, cells := 0, slots := 0, locals := 10106 + 26 * d })).room s m #[.ref (a 0)] below meth c dC dI cy a A (qI dC dI cy a A below #[.ref (a 0)] s) 3 (x_GS k d 1 3) (fun L => [(0, .ref (a 0)), (1, .int (L 1)), (2, .int (L 2))]) 70 (fun L => [])) ∧ (bT p l e (headSpec w_x_fors ({ frames := 328 + d, cells := 0, slots := 0, locals := 10106 + 26 * d })).room s m #[.ref (a 0)] below meth c dC dI cy a A (qI dC dI cy a A below #[.ref (a 0)] s) 3 (x_GS k d 1 4) (fun L => [(0, .ref (a 0)), (1, .int (L 1)), (2, .int (L 2))]) 86 (fun L => [])) ∧ (bT p l e (headSpec w_x_fors ({ frames := 328 + d, cells := 0, slots := 0, locals := 10106 + 26 * d })).room s m #[.ref (a 0)] below meth c dC dI cy a A (qI dC dI cy a A below #[.ref (a 0)] s) 3 (x_GS k d 1 5) (fun L => [(0, .ref (a 0)), (1, .int (L 1)), (2, .int (L 2))]) 97 (fun L => [])) ∧ (bT p l e (headSpec w_x_fors ({ frames := 328 + d, cells := 0, slots := 0, locals := 10106 + 26 * d })).room s m #[.ref (a 0)] below meth c dC dI cy a A (qI dC dI cy a A below #[.ref (a 0)] s) 3 (x_GS k d 1 6) (fun L => [(0, .ref (a 0)), (1, .int (L 1)), (2, .int (L 2))]) 107 (fun L => [])) ∧ (bT p l e (headSpec w_x_fors ({ frames := 328 + d, cells := 0, slots := 0, locals := 10106 + 26 * d })).room s m #[.ref (a 0)] below meth c dC dI cy a A (qI dC dI cy a A below #[.ref (a 0)] s) 3 (x_GS k d 1 7) (fun L => [(0, .ref (a 0)), (1, .int (L 1)), (2, .int (L 2))]) 124 (fun L => [])) ∧ (bT p l e (headSpec w_x_fors ({ frames := 328 + d, cells := 0, slots := 0, locals := 10106 + 26 * d })).room s m #[.ref (a 0)] below meth c dC dI cy a A (qI dC dI cy a A below #[.ref (a 0)] s) 3 (x_GS k d 1 8) (fun L => [(0, .ref (a 0)), (1, .int (L 1)), (2, .int (L 2))]) 134 (fun L => [])) := by
    intro k
    induction k with
    | zero => exact fun _ => ⟨fun L σ r h => (by cases h), fun L σ r h => (by cases h), fun L σ r h => (by cases h), fun L σ r h => (by cases h), fun L σ r h => (by cases h), fun L σ r h => (by cases h), fun L σ r h => (by cases h), fun L σ r h => (by cases h), fun L σ r h => (by cases h)⟩
    | succ k ih =>
      intro hk
      replace ih := ih (by omega)
      refine ⟨?_, ?_, ?_, ?_, ?_, ?_, ?_, ?_, ?_⟩
      · intro L σ r h H locs ls hP hD hS hl
        rw [x_GS_1, s_fors_0] at h
        refine lv_aload_n hx hb dX12_fors_0 rfl (lv_at hl 0 rfl) ?_
        refine lv_bipush (v := 48) hx hb dX12_fors_1 (by decide) ?_
        refine lv_iconst (v := 0) hx hb dX12_fors_3 (by decide) ?_
        refine lv_iconst (v := (-1)) hx hb dX12_fors_4 (by decide) ?_
        refine lv_iconst (v := 0) hx hb dX12_fors_5 (by decide) ?_
        obtain ⟨r1, hc1, h⟩ := ob_ex h
        refine nc_Vi (As := [.int 48, .int 0, .int (-1), .int 0]) (rest := []) ⟨hx, hb, hml, hown, hts⟩ (c_x_node l dC dI cy a k (upd (upd (upd (upd (fun _ => 0) 1 48) 2 0) 3 ((-1))) 4 0) σ r1 hc1 H.size) (cwV 4 hts g_x_fors_node_101 rfl rfl rfl hd_x_node (by show 0 + 1 ≤ 328 + d ∧ 8 + (6 + 11) + 0 ≤ 10106 + 26 * d; omega)) hK hG hA hP hD hS rfl hl.1 rfl (Nat.le_of_ble_eq_true rfl) dX12_fors_6 ⟨Nat.le_refl _, Nat.le_refl _⟩ (fun H locs hP hD hS => ?_)
        refine lv_istore_n (lv' := [(1, .int r1.1), (0, .ref (a 0))]) hx hb dX12_fors_9 rfl hl (by decide) rfl (fun ls hl => ?_)
        refine lv_aload_n hx hb dX12_fors_10 rfl (lv_at hl 1 rfl) ?_
        refine lv_dup hx hb dX12_fors_11 rfl ?_
        refine ng_13 hx hb hts in_x_fors hown hK hP (hts _ (List.mem_cons_of_mem _ (List.mem_append_left _ (List.mem_append_left _ (List.mem_of_getElem? (i := 19) rfl))))) dX12_fors_12 ?_
        refine lv_iconst (v := 1) hx hb dX12_fors_15 (by decide) ?_
        refine lv_iadd hx hb dX12_fors_16 ?_
        refine np_13 hx hb hts in_x_fors hown hK hP hD hS (hts _ (List.mem_cons_of_mem _ (List.mem_append_left _ (List.mem_append_left _ (List.mem_of_getElem? (i := 19) rfl))))) dX12_fors_17 (fun H locs hP hD hS => ?_)
        exact ih.2.1 (upd L 1 r1.1) (upd r1.2.1 13 ((((r1.2.1 13)) + 1)), r1.2.2.1, r1.2.2.2) r h H locs ls hP hD hS (lv_sub hl [1, 0] rfl)
      · intro L σ r h H locs ls hP hD hS hl
        rw [x_GS_1, s_fors_1] at h
        refine lv_aload_n hx hb dX12_fors_20 rfl (lv_at hl 0 rfl) ?_
        obtain ⟨r1, hc1, h⟩ := ob_ex h
        refine nc_Vv (As := []) (rest := []) ⟨hx, hb, hml, hown, hts⟩ (c_x_take l dC dI cy a k (fun _ => 0) σ r1 hc1 H.size) (cwV 0 hts g_x_fors_take_71 rfl rfl rfl hd_x_take (by show 2 + 1 ≤ 328 + d ∧ 8 + (2 + 11) + 43 ≤ 10106 + 26 * d; omega)) hK hG hA hP hD hS rfl hl.1 rfl (Nat.le_of_ble_eq_true rfl) dX12_fors_21 ⟨Nat.le_refl _, Nat.le_refl _⟩ (fun H locs hP hD hS => ?_)
        refine lv_aload_n hx hb dX12_fors_24 rfl (lv_at hl 0 rfl) ?_
        refine ng_38 hx hb hts in_x_fors hown hK hP (hts _ (List.mem_cons_of_mem _ (List.mem_append_left _ (List.mem_append_left _ (List.mem_of_getElem? (i := 23) rfl))))) dX12_fors_25 ?_
        refine lv_istore_n (lv' := [(2, .int (r1.2.1 38)), (0, .ref (a 0)), (1, .int (L 1))]) hx hb dX12_fors_28 rfl hl (by decide) rfl (fun ls hl => ?_)
        refine lv_aload_n hx hb dX12_fors_29 rfl (lv_at hl 1 rfl) ?_
        refine ng_15 hx hb hts in_x_fors hown hK hP (hts _ (List.mem_cons_of_mem _ (List.mem_append_left _ (List.mem_append_left _ (List.mem_of_getElem? (i := 24) rfl))))) dX12_fors_30 ?_
        refine lv_iload_n hx hb dX12_fors_33 rfl (lv_at hl 2 rfl) ?_
        refine lv_aload_n hx hb dX12_fors_34 rfl (lv_at hl 1 rfl) ?_
        refine lv_iconst (v := 1) hx hb dX12_fors_35 (by decide) ?_
        obtain ⟨r2, hc2, h⟩ := ob_ex h
        refine nc_Vi (As := [.int 1]) (rest := [.int (L 1), .ref (a 5)]) ⟨hx, hb, hml, hown, hts⟩ (c_x_iters l dC dI cy a k (upd (fun _ => 0) 1 1) r1.2 r2 hc2 H.size) (cwV 1 hts g_x_fors_iters_246 rfl rfl rfl hd_x_iters (by show 325 + 1 ≤ 328 + d ∧ 8 + (12 + 11) + 10033 ≤ 10106 + 26 * d; omega)) hK hG hA hP hD hS rfl hl.1 rfl (Nat.le_of_ble_eq_true rfl) dX12_fors_36 ⟨Nat.le_refl _, Nat.le_refl _⟩ (fun H locs hP hD hS => ?_)
        obtain ⟨q3, h⟩ := nb_ite1 h
        refine ns_5 hx hb hK hP hD hS q3 dX12_fors_39 (fun H locs hP hD hS => ?_)
        exact ih.2.2.1 (upd L 2 ((r1.2.1 38))) (r2.2.1, r2.2.2.1, updG r2.2.2.2 5 (upd (r2.2.2.2 5) ((L 1)).toNatClampNeg r2.1)) r h H locs ls hP hD hS (lv_sub hl [1, 2, 0] rfl)
      · intro L σ r h H locs ls hP hD hS hl
        rw [x_GS_1, s_fors_2] at h
        refine lv_aload_n hx hb dX12_fors_40 rfl (lv_at hl 0 rfl) ?_
        refine ng_10 hx hb hts in_x_fors hown hK hP (hts _ (List.mem_cons_of_mem _ (List.mem_append_left _ (List.mem_append_left _ (List.mem_of_getElem? (i := 5) rfl))))) dX12_fors_41 ?_
        refine lv_if_ne (tgt := 70) hx hb dX12_fors_44 (by decide) (fun c1 => ?_) (fun c1 => ?_)
        · rw [if_neg c1] at h
          exact ih.2.2.2.1 L σ r h H locs ls hP hD hS (lv_sub hl [0, 1, 2] rfl)
        · rw [if_pos c1] at h
          refine lv_aload_n hx hb dX12_fors_47 rfl (lv_at hl 0 rfl) ?_
          refine lv_bipush (v := 15) hx hb dX12_fors_48 (by decide) ?_
          obtain ⟨r2, hc2, h⟩ := ob_ex h
          refine nc_Vi (As := [.int 15]) (rest := []) ⟨hx, hb, hml, hown, hts⟩ (c_x_isSign l dC dI cy a k (upd (fun _ => 0) 1 15) σ r2 hc2 H.size) (cwV 1 hts g_x_fors_isSign_65 rfl rfl rfl hd_x_isSign (by show 0 + 1 ≤ 328 + d ∧ 8 + (2 + 11) + 0 ≤ 10106 + 26 * d; omega)) hK hG hA hP hD hS rfl hl.1 rfl (Nat.le_of_ble_eq_true rfl) dX12_fors_50 ⟨Nat.le_refl _, Nat.le_refl _⟩ (fun H locs hP hD hS => ?_)
          refine lv_if_eq (tgt := 70) hx hb dX12_fors_53 (by decide) (fun c3 => ?_) (fun c3 => ?_)
          · rw [if_pos c3] at h
            exact ih.2.2.2.1 L r2.2 r h H locs ls hP hD hS (lv_sub hl [0, 1, 2] rfl)
          · rw [if_neg c3] at h
            refine lv_aload_n hx hb dX12_fors_56 rfl (lv_at hl 0 rfl) ?_
            obtain ⟨r4, hc4, h⟩ := ob_ex h
            refine nc_Vv (As := []) (rest := []) ⟨hx, hb, hml, hown, hts⟩ (c_x_take l dC dI cy a k (fun _ => 0) r2.2 r4 hc4 H.size) (cwV 0 hts g_x_fors_take_71 rfl rfl rfl hd_x_take (by show 2 + 1 ≤ 328 + d ∧ 8 + (2 + 11) + 43 ≤ 10106 + 26 * d; omega)) hK hG hA hP hD hS rfl hl.1 rfl (Nat.le_of_ble_eq_true rfl) dX12_fors_57 ⟨Nat.le_refl _, Nat.le_refl _⟩ (fun H locs hP hD hS => ?_)
            refine lv_aload_n hx hb dX12_fors_60 rfl (lv_at hl 0 rfl) ?_
            refine ng_16 hx hb hts in_x_fors hown hK hP (hts _ (List.mem_cons_of_mem _ (List.mem_append_left _ (List.mem_append_left _ (List.mem_of_getElem? (i := 31) rfl))))) dX12_fors_61 ?_
            refine lv_iload_n hx hb dX12_fors_64 rfl (lv_at hl 1 rfl) ?_
            refine lv_aload_n hx hb dX12_fors_65 rfl (lv_at hl 0 rfl) ?_
            obtain ⟨r5, hc5, h⟩ := ob_ex h
            refine nc_Vi (As := []) (rest := [.int (L 1), .ref (a 6)]) ⟨hx, hb, hml, hown, hts⟩ (c_x_exp l dC dI cy a k (fun _ => 0) r4.2 r5 hc5 H.size) (cwV 0 hts g_x_fors_exp_209 rfl rfl rfl hd_x_exp (by show 325 + 1 ≤ 328 + d ∧ 8 + (2 + 11) + 10033 ≤ 10106 + 26 * d; omega)) hK hG hA hP hD hS rfl hl.1 rfl (Nat.le_of_ble_eq_true rfl) dX12_fors_66 ⟨Nat.le_refl _, Nat.le_refl _⟩ (fun H locs hP hD hS => ?_)
            obtain ⟨q6, h⟩ := nb_ite1 h
            refine ns_6 hx hb hK hP hD hS q6 dX12_fors_69 (fun H locs hP hD hS => ?_)
            exact ih.2.2.2.1 L (r5.2.1, r5.2.2.1, updG r5.2.2.2 6 (upd (r5.2.2.2 6) ((L 1)).toNatClampNeg r5.1)) r h H locs ls hP hD hS (lv_sub hl [0, 1, 2] rfl)
      · intro L σ r h H locs ls hP hD hS hl
        rw [x_GS_1, s_fors_3] at h
        refine lv_aload_n hx hb dX12_fors_70 rfl (lv_at hl 0 rfl) ?_
        refine lv_bipush (v := 12) hx hb dX12_fors_71 (by decide) ?_
        obtain ⟨r1, hc1, h⟩ := ob_ex h
        refine nc_Vv (As := [.int 12]) (rest := []) ⟨hx, hb, hml, hown, hts⟩ (c_x_wantWord l dC dI cy a k (upd (fun _ => 0) 1 12) σ r1 hc1 H.size) (cwV 1 hts g_x_fors_wantWord_253 rfl rfl rfl hd_x_wantWord (by show 3 + 1 ≤ 328 + d ∧ 8 + (2 + 11) + 64 ≤ 10106 + 26 * d; omega)) hK hG hA hP hD hS rfl hl.1 rfl (Nat.le_of_ble_eq_true rfl) dX12_fors_73 ⟨Nat.le_refl _, Nat.le_refl _⟩ (fun H locs hP hD hS => ?_)
        refine lv_aload_n hx hb dX12_fors_76 rfl (lv_at hl 0 rfl) ?_
        refine lv_dup hx hb dX12_fors_77 rfl ?_
        refine ng_45 hx hb hts in_x_fors hown hK hP (hts _ (List.mem_cons_of_mem _ (List.mem_append_left _ (List.mem_append_left _ (List.mem_of_getElem? (i := 38) rfl))))) dX12_fors_78 ?_
        refine lv_iconst (v := 1) hx hb dX12_fors_81 (by decide) ?_
        refine lv_iadd hx hb dX12_fors_82 ?_
        refine np_45 hx hb hts in_x_fors hown hK hP hD hS (hts _ (List.mem_cons_of_mem _ (List.mem_append_left _ (List.mem_append_left _ (List.mem_of_getElem? (i := 38) rfl))))) dX12_fors_83 (fun H locs hP hD hS => ?_)
        exact ih.2.2.2.2.1 L (upd r1.2.1 45 ((((r1.2.1 45)) + 1)), r1.2.2.1, r1.2.2.2) r h H locs ls hP hD hS (lv_sub hl [0, 1, 2] rfl)
      · intro L σ r h H locs ls hP hD hS hl
        rw [x_GS_1, s_fors_4] at h
        refine lv_aload_n hx hb dX12_fors_86 rfl (lv_at hl 0 rfl) ?_
        refine ng_17 hx hb hts in_x_fors hown hK hP (hts _ (List.mem_cons_of_mem _ (List.mem_append_left _ (List.mem_append_left _ (List.mem_of_getElem? (i := 39) rfl))))) dX12_fors_87 ?_
        refine lv_iload_n hx hb dX12_fors_90 rfl (lv_at hl 1 rfl) ?_
        refine lv_aload_n hx hb dX12_fors_91 rfl (lv_at hl 0 rfl) ?_
        refine lv_iload_n hx hb dX12_fors_92 rfl (lv_at hl 1 rfl) ?_
        obtain ⟨e1, he1, h⟩ := od_ex h
        obtain ⟨r1, hc1, h⟩ := ob_ex h
        refine nc_Vi (As := [.int (L 1)]) (rest := [.int (L 1), .ref (a 7)]) ⟨hx, hb, hml, hown, hts⟩ ((IH k (by omega)).1 e1 (upd (fun _ => 0) 1 ((L 1))) σ r1 hc1 H.size) (cwV 1 hts g_x_fors_block_336 rfl rfl rfl hd_x_block (by show (328 + e1) + 1 ≤ 328 + d ∧ 8 + (5 + 11) + (10106 + 26 * e1) ≤ 10106 + 26 * d; omega)) hK hG hA hP hD hS rfl hl.1 rfl (Nat.le_of_ble_eq_true rfl) dX12_fors_93 ⟨Nat.le_refl _, Nat.le_refl _⟩ (fun H locs hP hD hS => ?_)
        obtain ⟨q2, h⟩ := nb_ite1 h
        refine ns_7 hx hb hK hP hD hS q2 dX12_fors_96 (fun H locs hP hD hS => ?_)
        exact ih.2.2.2.2.2.1 L (r1.2.1, r1.2.2.1, updG r1.2.2.2 7 (upd (r1.2.2.2 7) ((L 1)).toNatClampNeg r1.1)) r h H locs ls hP hD hS (lv_sub hl [0, 1, 2] rfl)
      · intro L σ r h H locs ls hP hD hS hl
        rw [x_GS_1, s_fors_5] at h
        refine lv_aload_n hx hb dX12_fors_97 rfl (lv_at hl 0 rfl) ?_
        refine lv_dup hx hb dX12_fors_98 rfl ?_
        refine ng_45 hx hb hts in_x_fors hown hK hP (hts _ (List.mem_cons_of_mem _ (List.mem_append_left _ (List.mem_append_left _ (List.mem_of_getElem? (i := 38) rfl))))) dX12_fors_99 ?_
        refine lv_iconst (v := 1) hx hb dX12_fors_102 (by decide) ?_
        refine lv_isub hx hb dX12_fors_103 ?_
        refine np_45 hx hb hts in_x_fors hown hK hP hD hS (hts _ (List.mem_cons_of_mem _ (List.mem_append_left _ (List.mem_append_left _ (List.mem_of_getElem? (i := 38) rfl))))) dX12_fors_104 (fun H locs hP hD hS => ?_)
        exact ih.2.2.2.2.2.2.1 L (upd σ.1 45 ((((σ.1 45)) - 1)), σ.2.1, σ.2.2) r h H locs ls hP hD hS (lv_sub hl [0, 1, 2] rfl)
      · intro L σ r h H locs ls hP hD hS hl
        rw [x_GS_1, s_fors_6] at h
        refine lv_aload_n hx hb dX12_fors_107 rfl (lv_at hl 0 rfl) ?_
        refine lv_bipush (v := 6) hx hb dX12_fors_108 (by decide) ?_
        obtain ⟨r1, hc1, h⟩ := ob_ex h
        refine nc_Vv (As := [.int 6]) (rest := []) ⟨hx, hb, hml, hown, hts⟩ (c_x_wantWord l dC dI cy a k (upd (fun _ => 0) 1 6) σ r1 hc1 H.size) (cwV 1 hts g_x_fors_wantWord_253 rfl rfl rfl hd_x_wantWord (by show 3 + 1 ≤ 328 + d ∧ 8 + (2 + 11) + 64 ≤ 10106 + 26 * d; omega)) hK hG hA hP hD hS rfl hl.1 rfl (Nat.le_of_ble_eq_true rfl) dX12_fors_110 ⟨Nat.le_refl _, Nat.le_refl _⟩ (fun H locs hP hD hS => ?_)
        refine lv_aload_n hx hb dX12_fors_113 rfl (lv_at hl 0 rfl) ?_
        refine lv_bipush (v := 13) hx hb dX12_fors_114 (by decide) ?_
        obtain ⟨r2, hc2, h⟩ := ob_ex h
        refine nc_Vv (As := [.int 13]) (rest := []) ⟨hx, hb, hml, hown, hts⟩ (c_x_want l dC dI cy a k (upd (fun _ => 0) 1 13) r1.2 r2 hc2 H.size) (cwV 1 hts g_x_fors_want_199 rfl rfl rfl hd_x_want (by show 3 + 1 ≤ 328 + d ∧ 8 + (2 + 11) + 64 ≤ 10106 + 26 * d; omega)) hK hG hA hP hD hS rfl hl.1 rfl (Nat.le_of_ble_eq_true rfl) dX12_fors_116 ⟨Nat.le_refl _, Nat.le_refl _⟩ (fun H locs hP hD hS => ?_)
        refine lv_aload_n hx hb dX12_fors_119 rfl (lv_at hl 0 rfl) ?_
        refine lv_iload_n hx hb dX12_fors_120 rfl (lv_at hl 2 rfl) ?_
        refine np_38 hx hb hts in_x_fors hown hK hP hD hS (hts _ (List.mem_cons_of_mem _ (List.mem_append_left _ (List.mem_append_left _ (List.mem_of_getElem? (i := 23) rfl))))) dX12_fors_121 (fun H locs hP hD hS => ?_)
        exact ih.2.2.2.2.2.2.2.1 L (upd r2.2.1 38 ((L 2)), r2.2.2.1, r2.2.2.2) r h H locs ls hP hD hS (lv_sub hl [0, 1, 2] rfl)
      · intro L σ r h H locs ls hP hD hS hl
        rw [x_GS_1, s_fors_7] at h
        refine lv_aload_n hx hb dX12_fors_124 rfl (lv_at hl 0 rfl) ?_
        refine lv_dup hx hb dX12_fors_125 rfl ?_
        refine ng_13 hx hb hts in_x_fors hown hK hP (hts _ (List.mem_cons_of_mem _ (List.mem_append_left _ (List.mem_append_left _ (List.mem_of_getElem? (i := 19) rfl))))) dX12_fors_126 ?_
        refine lv_iconst (v := 1) hx hb dX12_fors_129 (by decide) ?_
        refine lv_isub hx hb dX12_fors_130 ?_
        refine np_13 hx hb hts in_x_fors hown hK hP hD hS (hts _ (List.mem_cons_of_mem _ (List.mem_append_left _ (List.mem_append_left _ (List.mem_of_getElem? (i := 19) rfl))))) dX12_fors_131 (fun H locs hP hD hS => ?_)
        exact ih.2.2.2.2.2.2.2.2 L (upd σ.1 13 ((((σ.1 13)) - 1)), σ.2.1, σ.2.2) r h H locs ls hP hD hS (lv_sub hl [0, 1, 2] rfl)
      · intro L σ r h H locs ls hP hD hS hl
        rw [x_GS_1, s_fors_8] at h
        refine lv_iload_n hx hb dX12_fors_134 rfl (lv_at hl 1 rfl) ?_
        cases h
        exact W.iret (v := (L 1)) hx hb hr (fun t ht hW => ⟨⟨(L 1), (), rfl, rfl, by rw [ht]; exact hP, va_K.moved hW.alike hK, hD⟩, hS.F ht⟩) hS.2.2 dX12_fors_135
  exact (blk k0 (Nat.le_refl _)).1 L0 σ0 r0 h0 s.heap [] ls hP hD hS hl
theorem gg_x_ifs_block : GoodIn w_x_ifs w_x_block := goodIn_sub (fun w h => (List.mem_cons.mp h).elim (fun e => e ▸ (List.mem_cons_of_mem _ (List.mem_append_left _ (List.mem_append_left _ (List.mem_of_getElem? (i := 0) rfl))))) (fun h => List.mem_cons_of_mem _ h)) w_x_block_good
theorem g_x_ifs_block_336 : GoodIn w_x_ifs (wsV RX12 336 RX12 yX12_block w_x_block) := goodIn_app (nb_g4 (List.mem_cons_of_mem _ (List.mem_append_left _ (List.mem_append_left _ (List.mem_of_getElem? (i := 40) rfl)))) (List.mem_cons_of_mem _ (List.mem_append_left _ (List.mem_append_left _ (List.mem_of_getElem? (i := 41) rfl)))) (List.mem_cons_of_mem _ (List.mem_append_left _ (List.mem_append_left _ (List.mem_of_getElem? (i := 42) rfl)))) (List.mem_cons_of_mem _ (List.mem_append_left _ (List.mem_append_left _ (List.mem_of_getElem? (i := 9) rfl)))) (by decide +kernel)) gg_x_ifs_block
theorem gg_x_ifs_exp : GoodIn w_x_ifs w_x_exp := goodIn_sub (fun w h => (List.mem_cons.mp h).elim (fun e => (List.mem_cons_of_mem _ (List.mem_append_left _ (List.mem_append_right _ (List.mem_append_right _ (List.mem_append_right _ (List.mem_append_right _ (List.mem_append_right _ (List.mem_append_right _ (List.mem_append_left _ (List.mem_cons.mpr (Or.inl e)))))))))))) (fun h => (List.mem_append.mp h).elim (fun h => (List.mem_cons_of_mem _ (List.mem_append_left _ (List.mem_append_right _ (List.mem_append_right _ (List.mem_append_right _ (List.mem_append_right _ (List.mem_append_right _ (List.mem_append_right _ (List.mem_append_left _ (List.mem_cons_of_mem _ h))))))))))) (fun h => List.mem_cons_of_mem _ (List.mem_append_right _ h)))) w_x_exp_good
theorem g_x_ifs_exp_209 : GoodIn w_x_ifs (wsV RX12 209 RX12 yX12_exp w_x_exp) := goodIn_app (nb_g4 (List.mem_cons_of_mem _ (List.mem_append_left _ (List.mem_append_left _ (List.mem_of_getElem? (i := 32) rfl)))) (List.mem_cons_of_mem _ (List.mem_append_left _ (List.mem_append_left _ (List.mem_of_getElem? (i := 33) rfl)))) (List.mem_cons_of_mem _ (List.mem_append_left _ (List.mem_append_left _ (List.mem_of_getElem? (i := 34) rfl)))) (List.mem_cons_of_mem _ (List.mem_append_left _ (List.mem_append_left _ (List.mem_of_getElem? (i := 9) rfl)))) (by decide +kernel)) gg_x_ifs_exp
theorem gg_x_ifs_isWord : GoodIn w_x_ifs w_x_isWord := goodIn_sub (fun w h => (List.mem_cons.mp h).elim (fun e => (List.mem_cons_of_mem _ (List.mem_append_left _ (List.mem_append_right _ (List.mem_append_right _ (List.mem_append_right _ (List.mem_append_right _ (List.mem_append_right _ (List.mem_append_right _ (List.mem_append_right _ (List.mem_append_right _ (List.mem_append_right _ (List.mem_append_left _ (List.mem_cons.mpr (Or.inl e))))))))))))))) (fun h => (List.mem_append.mp h).elim (fun h => (List.mem_cons_of_mem _ (List.mem_append_left _ (List.mem_append_right _ (List.mem_append_right _ (List.mem_append_right _ (List.mem_append_right _ (List.mem_append_right _ (List.mem_append_right _ (List.mem_append_right _ (List.mem_append_right _ (List.mem_append_right _ (List.mem_append_left _ (List.mem_cons_of_mem _ h)))))))))))))) (fun h => List.mem_cons_of_mem _ (List.mem_append_right _ h)))) w_x_isWord_good
theorem g_x_ifs_isWord_74 : GoodIn w_x_ifs (wsV RX12 74 RX12 yX12_isWord w_x_isWord) := goodIn_app (nb_g4 (List.mem_cons_of_mem _ (List.mem_append_left _ (List.mem_append_left _ (List.mem_of_getElem? (i := 46) rfl)))) (List.mem_cons_of_mem _ (List.mem_append_left _ (List.mem_append_left _ (List.mem_of_getElem? (i := 47) rfl)))) (List.mem_cons_of_mem _ (List.mem_append_left _ (List.mem_append_left _ (List.mem_of_getElem? (i := 48) rfl)))) (List.mem_cons_of_mem _ (List.mem_append_left _ (List.mem_append_left _ (List.mem_of_getElem? (i := 9) rfl)))) (by decide +kernel)) gg_x_ifs_isWord
theorem gg_x_ifs_node : GoodIn w_x_ifs w_x_node := goodIn_sub (fun w h => (List.mem_cons.mp h).elim (fun e => (List.mem_cons_of_mem _ (List.mem_append_left _ (List.mem_append_right _ (List.mem_append_right _ (List.mem_append_left _ (List.mem_cons.mpr (Or.inl e)))))))) (fun h => (List.mem_append.mp h).elim (fun h => (List.mem_cons_of_mem _ (List.mem_append_left _ (List.mem_append_right _ (List.mem_append_right _ (List.mem_append_left _ (List.mem_cons_of_mem _ h))))))) (fun h => List.mem_cons_of_mem _ (List.mem_append_right _ h)))) w_x_node_good
theorem g_x_ifs_node_101 : GoodIn w_x_ifs (wsV RX12 101 RX12 yX12_node w_x_node) := goodIn_app (nb_g4 (List.mem_cons_of_mem _ (List.mem_append_left _ (List.mem_append_left _ (List.mem_of_getElem? (i := 16) rfl)))) (List.mem_cons_of_mem _ (List.mem_append_left _ (List.mem_append_left _ (List.mem_of_getElem? (i := 17) rfl)))) (List.mem_cons_of_mem _ (List.mem_append_left _ (List.mem_append_left _ (List.mem_of_getElem? (i := 18) rfl)))) (List.mem_cons_of_mem _ (List.mem_append_left _ (List.mem_append_left _ (List.mem_of_getElem? (i := 9) rfl)))) (by decide +kernel)) gg_x_ifs_node
theorem gg_x_ifs_take : GoodIn w_x_ifs w_x_take := goodIn_sub (fun w h => (List.mem_cons.mp h).elim (fun e => (List.mem_cons_of_mem _ (List.mem_append_left _ (List.mem_append_right _ (List.mem_append_right _ (List.mem_append_right _ (List.mem_append_left _ (List.mem_cons.mpr (Or.inl e))))))))) (fun h => (List.mem_append.mp h).elim (fun h => (List.mem_cons_of_mem _ (List.mem_append_left _ (List.mem_append_right _ (List.mem_append_right _ (List.mem_append_right _ (List.mem_append_left _ (List.mem_cons_of_mem _ h)))))))) (fun h => List.mem_cons_of_mem _ (List.mem_append_right _ h)))) w_x_take_good
theorem g_x_ifs_take_71 : GoodIn w_x_ifs (wsV RX12 71 RX12 yX12_take w_x_take) := goodIn_app (nb_g4 (List.mem_cons_of_mem _ (List.mem_append_left _ (List.mem_append_left _ (List.mem_of_getElem? (i := 20) rfl)))) (List.mem_cons_of_mem _ (List.mem_append_left _ (List.mem_append_left _ (List.mem_of_getElem? (i := 21) rfl)))) (List.mem_cons_of_mem _ (List.mem_append_left _ (List.mem_append_left _ (List.mem_of_getElem? (i := 22) rfl)))) (List.mem_cons_of_mem _ (List.mem_append_left _ (List.mem_append_left _ (List.mem_of_getElem? (i := 9) rfl)))) (by decide +kernel)) gg_x_ifs_take
theorem gg_x_ifs_wantWord : GoodIn w_x_ifs w_x_wantWord := goodIn_sub (fun w h => (List.mem_cons.mp h).elim (fun e => (List.mem_cons_of_mem _ (List.mem_append_left _ (List.mem_append_right _ (List.mem_append_right _ (List.mem_append_right _ (List.mem_append_right _ (List.mem_append_right _ (List.mem_append_right _ (List.mem_append_right _ (List.mem_append_left _ (List.mem_cons.mpr (Or.inl e))))))))))))) (fun h => (List.mem_append.mp h).elim (fun h => (List.mem_cons_of_mem _ (List.mem_append_left _ (List.mem_append_right _ (List.mem_append_right _ (List.mem_append_right _ (List.mem_append_right _ (List.mem_append_right _ (List.mem_append_right _ (List.mem_append_right _ (List.mem_append_left _ (List.mem_cons_of_mem _ h)))))))))))) (fun h => List.mem_cons_of_mem _ (List.mem_append_right _ h)))) w_x_wantWord_good
theorem g_x_ifs_wantWord_253 : GoodIn w_x_ifs (wsV RX12 253 RX12 yX12_wantWord w_x_wantWord) := goodIn_app (nb_g4 (List.mem_cons_of_mem _ (List.mem_append_left _ (List.mem_append_left _ (List.mem_of_getElem? (i := 35) rfl)))) (List.mem_cons_of_mem _ (List.mem_append_left _ (List.mem_append_left _ (List.mem_of_getElem? (i := 36) rfl)))) (List.mem_cons_of_mem _ (List.mem_append_left _ (List.mem_append_left _ (List.mem_of_getElem? (i := 37) rfl)))) (List.mem_cons_of_mem _ (List.mem_append_left _ (List.mem_append_left _ (List.mem_of_getElem? (i := 9) rfl)))) (by decide +kernel)) gg_x_ifs_wantWord
theorem gg_x_ifs_want : GoodIn w_x_ifs w_x_want := goodIn_sub (fun w h => (List.mem_cons.mp h).elim (fun e => (List.mem_cons_of_mem _ (List.mem_append_left _ (List.mem_append_right _ (List.mem_append_right _ (List.mem_append_right _ (List.mem_append_right _ (List.mem_append_right _ (List.mem_append_right _ (List.mem_append_right _ (List.mem_append_right _ (List.mem_append_left _ (List.mem_cons.mpr (Or.inl e)))))))))))))) (fun h => (List.mem_append.mp h).elim (fun h => (List.mem_cons_of_mem _ (List.mem_append_left _ (List.mem_append_right _ (List.mem_append_right _ (List.mem_append_right _ (List.mem_append_right _ (List.mem_append_right _ (List.mem_append_right _ (List.mem_append_right _ (List.mem_append_right _ (List.mem_append_left _ (List.mem_cons_of_mem _ h))))))))))))) (fun h => List.mem_cons_of_mem _ (List.mem_append_right _ h)))) w_x_want_good
theorem g_x_ifs_want_199 : GoodIn w_x_ifs (wsV RX12 199 RX12 yX12_want w_x_want) := goodIn_app (nb_g4 (List.mem_cons_of_mem _ (List.mem_append_left _ (List.mem_append_left _ (List.mem_of_getElem? (i := 43) rfl)))) (List.mem_cons_of_mem _ (List.mem_append_left _ (List.mem_append_left _ (List.mem_of_getElem? (i := 44) rfl)))) (List.mem_cons_of_mem _ (List.mem_append_left _ (List.mem_append_left _ (List.mem_of_getElem? (i := 45) rfl)))) (List.mem_cons_of_mem _ (List.mem_append_left _ (List.mem_append_left _ (List.mem_of_getElem? (i := 9) rfl)))) (by decide +kernel)) gg_x_ifs_want
set_option maxHeartbeats 40000000 in
set_option maxRecDepth 100000 in
theorem c_s_ifs (l : Launch) (dC : Nat → ClassId) (dI : Nat → Nat → Nat) (cy : Nat → ClassId) (a : Nat → Nat) (k0 : Nat) (IH : ∀ j : Nat, j < k0 → P_GS l dC dI cy a j) (d : Nat) (L0 : Nat → Int32) (σ0 : MS) (r0 : Int32 × MS) (h0 : x_GS k0 d 2 0 L0 σ0 = some r0) (sz : Nat) : Met l yX12_ifs w_x_ifs ({ frames := 328 + d, cells := 0, slots := 0, locals := 10106 + 26 * d }) (va_Pc [.ref (a 0)] (nIn (dC, dI) cy sz (vM cy a σ0))) (va_Qi (fun (z : Int32) (_ : Unit) => z = r0.1) (fun _ t => nOut (dC, dI) cy (va_A (vM cy a σ0) sz) (vM cy a r0.2) t) (va_A (vM cy a σ0) sz)) 0 0 (va_A (vM cy a σ0) sz) := by
  refine Met.ofW (cc := cX12_ifs) (maxL := 7) (ret := (some .int)) (by decide) rfl ?_
  intro p e s m args below meth c s₁ B hml hv
  obtain ⟨rfl, hsz, hP, hK, hD0, hG⟩ := hv
  have hx := B.exec
  have hb := B.bytes
  have hr := B.returns
  have hts := atoms_spec (ws := w_x_ifs) B.pre
  have hown : s.vm.findClass RX12 = some m.cls := findClass_of_methodNamed B.named
  have hlocks := B.notSynchronized
  subst hsz
  have hD := hD0.self (sz := s.heap.size)
  generalize hAe : va_A (vM cy a σ0) s.heap.size = A at hD ⊢
  have hA : ∀ q : Nat, s.heap.size ≤ q → A q := fun q h => by rw [← hAe]; exact Or.inr h
  have hS : va_S A s.heap s.heap [] := va_S.rf
  have hl := lv_entry ([.ref (a 0)]) (n := 7) (Nat.le_of_ble_eq_true rfl)
  rw [lg_entry_eq]
  generalize (lg_sl ([.ref (a 0)]) ++ List.replicate (7 - (lg_sl ([.ref (a 0)])).length) Slot.unset).toArray = ls at hl ⊢
  have hl : lv_has ls 7 [(0, .ref (a 0))] := hl
  have blk : ∀ k : Nat, k ≤ k0 → (bT p l e (headSpec w_x_ifs ({ frames := 328 + d, cells := 0, slots := 0, locals := 10106 + 26 * d })).room s m #[.ref (a 0)] below meth c dC dI cy a A (qI dC dI cy a A below #[.ref (a 0)] s) 7 (x_GS k d 2 0) (fun L => [(0, .ref (a 0))]) 0 (fun L => [])) ∧ (bT p l e (headSpec w_x_ifs ({ frames := 328 + d, cells := 0, slots := 0, locals := 10106 + 26 * d })).room s m #[.ref (a 0)] below meth c dC dI cy a A (qI dC dI cy a A below #[.ref (a 0)] s) 7 (x_GS k d 2 1) (fun L => [(0, .ref (a 0)), (1, .int (L 1))]) 20 (fun L => [])) ∧ (bT p l e (headSpec w_x_ifs ({ frames := 328 + d, cells := 0, slots := 0, locals := 10106 + 26 * d })).room s m #[.ref (a 0)] below meth c dC dI cy a A (qI dC dI cy a A below #[.ref (a 0)] s) 7 (x_GS k d 2 2) (fun L => [(0, .ref (a 0)), (1, .int (L 1)), (2, .int (L 2)), (3, .int (L 3)), (4, .int (L 4))]) 31 (fun L => [])) ∧ (bT p l e (headSpec w_x_ifs ({ frames := 328 + d, cells := 0, slots := 0, locals := 10106 + 26 * d })).room s m #[.ref (a 0)] below meth c dC dI cy a A (qI dC dI cy a A below #[.ref (a 0)] s) 7 (x_GS k d 2 3) (fun L => [(0, .ref (a 0)), (1, .int (L 1)), (2, .int (L 2)), (3, .int (L 3)), (4, .int (L 4)), (5, .int (L 5))]) 70 (fun L => [])) ∧ (bT p l e (headSpec w_x_ifs ({ frames := 328 + d, cells := 0, slots := 0, locals := 10106 + 26 * d })).room s m #[.ref (a 0)] below meth c dC dI cy a A (qI dC dI cy a A below #[.ref (a 0)] s) 7 (x_GS k d 2 4) (fun L => [(0, .ref (a 0)), (1, .int (L 1)), (2, .int (L 2)), (3, .int (L 3)), (4, .int (L 4)), (5, .int (L 5))]) 76 (fun L => [])) ∧ (bT p l e (headSpec w_x_ifs ({ frames := 328 + d, cells := 0, slots := 0, locals := 10106 + 26 * d })).room s m #[.ref (a 0)] below meth c dC dI cy a A (qI dC dI cy a A below #[.ref (a 0)] s) 7 (x_GS k d 2 5) (fun L => [(0, .ref (a 0)), (1, .int (L 1)), (2, .int (L 2)), (3, .int (L 3)), (4, .int (L 4)), (5, .int (L 5)), (6, .int (L 6))]) 114 (fun L => [])) ∧ (bT p l e (headSpec w_x_ifs ({ frames := 328 + d, cells := 0, slots := 0, locals := 10106 + 26 * d })).room s m #[.ref (a 0)] below meth c dC dI cy a A (qI dC dI cy a A below #[.ref (a 0)] s) 7 (x_GS k d 2 6) (fun L => [(0, .ref (a 0)), (1, .int (L 1)), (2, .int (L 2)), (3, .int (L 3)), (4, .int (L 4)), (5, .int (L 5)), (6, .int (L 6))]) 122 (fun L => [])) ∧ (bT p l e (headSpec w_x_ifs ({ frames := 328 + d, cells := 0, slots := 0, locals := 10106 + 26 * d })).room s m #[.ref (a 0)] below meth c dC dI cy a A (qI dC dI cy a A below #[.ref (a 0)] s) 7 (x_GS k d 2 7) (fun L => [(0, .ref (a 0)), (1, .int (L 1)), (2, .int (L 2)), (3, .int (L 3)), (4, .int (L 4)), (5, .int (L 5)), (6, .int (L 6))]) 148 (fun L => [])) ∧ (bT p l e (headSpec w_x_ifs ({ frames := 328 + d, cells := 0, slots := 0, locals := 10106 + 26 * d })).room s m #[.ref (a 0)] below meth c dC dI cy a A (qI dC dI cy a A below #[.ref (a 0)] s) 7 (x_GS k d 2 8) (fun L => [(0, .ref (a 0)), (1, .int (L 1)), (2, .int (L 2)), (3, .int (L 3)), (4, .int (L 4)), (5, .int (L 5)), (6, .int (L 6))]) 149 (fun L => [.int (L 100)])) ∧ (bT p l e (headSpec w_x_ifs ({ frames := 328 + d, cells := 0, slots := 0, locals := 10106 + 26 * d })).room s m #[.ref (a 0)] below meth c dC dI cy a A (qI dC dI cy a A below #[.ref (a 0)] s) 7 (x_GS k d 2 9) (fun L => [(0, .ref (a 0)), (1, .int (L 1)), (2, .int (L 2)), (3, .int (L 3)), (4, .int (L 4)), (5, .int (L 5)), (6, .int (L 6))]) 158 (fun L => [])) ∧ (bT p l e (headSpec w_x_ifs ({ frames := 328 + d, cells := 0, slots := 0, locals := 10106 + 26 * d })).room s m #[.ref (a 0)] below meth c dC dI cy a A (qI dC dI cy a A below #[.ref (a 0)] s) 7 (x_GS k d 2 10) (fun L => [(0, .ref (a 0)), (1, .int (L 1)), (2, .int (L 2)), (3, .int (L 3)), (4, .int (L 4))]) 161 (fun L => [])) ∧ (bT p l e (headSpec w_x_ifs ({ frames := 328 + d, cells := 0, slots := 0, locals := 10106 + 26 * d })).room s m #[.ref (a 0)] below meth c dC dI cy a A (qI dC dI cy a A below #[.ref (a 0)] s) 7 (x_GS k d 2 11) (fun L => [(0, .ref (a 0)), (1, .int (L 1)), (2, .int (L 2)), (3, .int (L 3)), (4, .int (L 4))]) 201 (fun L => [])) ∧ (bT p l e (headSpec w_x_ifs ({ frames := 328 + d, cells := 0, slots := 0, locals := 10106 + 26 * d })).room s m #[.ref (a 0)] below meth c dC dI cy a A (qI dC dI cy a A below #[.ref (a 0)] s) 7 (x_GS k d 2 12) (fun L => [(0, .ref (a 0)), (1, .int (L 1)), (2, .int (L 2)), (3, .int (L 3)), (4, .int (L 4))]) 223 (fun L => [])) := by
    intro k
    induction k with
    | zero => exact fun _ => ⟨fun L σ r h => (by cases h), fun L σ r h => (by cases h), fun L σ r h => (by cases h), fun L σ r h => (by cases h), fun L σ r h => (by cases h), fun L σ r h => (by cases h), fun L σ r h => (by cases h), fun L σ r h => (by cases h), fun L σ r h => (by cases h), fun L σ r h => (by cases h), fun L σ r h => (by cases h), fun L σ r h => (by cases h), fun L σ r h => (by cases h)⟩
    | succ k ih =>
      intro hk
      replace ih := ih (by omega)
      refine ⟨?_, ?_, ?_, ?_, ?_, ?_, ?_, ?_, ?_, ?_, ?_, ?_, ?_⟩
      · intro L σ r h H locs ls hP hD hS hl
        rw [x_GS_2, s_ifs_0] at h
        refine lv_aload_n hx hb dX12_ifs_0 rfl (lv_at hl 0 rfl) ?_
        refine lv_bipush (v := 46) hx hb dX12_ifs_1 (by decide) ?_
        refine lv_iconst (v := (-1)) hx hb dX12_ifs_3 (by decide) ?_
        refine lv_iconst (v := 0) hx hb dX12_ifs_4 (by decide) ?_
        refine lv_iconst (v := 0) hx hb dX12_ifs_5 (by decide) ?_
        obtain ⟨r1, hc1, h⟩ := ob_ex h
        refine nc_Vi (As := [.int 46, .int (-1), .int 0, .int 0]) (rest := []) ⟨hx, hb, hml, hown, hts⟩ (c_x_node l dC dI cy a k (upd (upd (upd (upd (fun _ => 0) 1 46) 2 ((-1))) 3 0) 4 0) σ r1 hc1 H.size) (cwV 4 hts g_x_ifs_node_101 rfl rfl rfl hd_x_node (by show 0 + 1 ≤ 328 + d ∧ 8 + (6 + 11) + 0 ≤ 10106 + 26 * d; omega)) hK hG hA hP hD hS rfl hl.1 rfl (Nat.le_of_ble_eq_true rfl) dX12_ifs_6 ⟨Nat.le_refl _, Nat.le_refl _⟩ (fun H locs hP hD hS => ?_)
        refine lv_istore_n (lv' := [(1, .int r1.1), (0, .ref (a 0))]) hx hb dX12_ifs_9 rfl hl (by decide) rfl (fun ls hl => ?_)
        refine lv_aload_n hx hb dX12_ifs_10 rfl (lv_at hl 1 rfl) ?_
        refine lv_dup hx hb dX12_ifs_11 rfl ?_
        refine ng_13 hx hb hts in_x_ifs hown hK hP (hts _ (List.mem_cons_of_mem _ (List.mem_append_left _ (List.mem_append_left _ (List.mem_of_getElem? (i := 19) rfl))))) dX12_ifs_12 ?_
        refine lv_iconst (v := 1) hx hb dX12_ifs_15 (by decide) ?_
        refine lv_iadd hx hb dX12_ifs_16 ?_
        refine np_13 hx hb hts in_x_ifs hown hK hP hD hS (hts _ (List.mem_cons_of_mem _ (List.mem_append_left _ (List.mem_append_left _ (List.mem_of_getElem? (i := 19) rfl))))) dX12_ifs_17 (fun H locs hP hD hS => ?_)
        exact ih.2.1 (upd L 1 r1.1) (upd r1.2.1 13 ((((r1.2.1 13)) + 1)), r1.2.2.1, r1.2.2.2) r h H locs ls hP hD hS (lv_sub hl [1, 0] rfl)
      · intro L σ r h H locs ls hP hD hS hl
        rw [x_GS_2, s_ifs_1] at h
        refine lv_aload_n hx hb dX12_ifs_20 rfl (lv_at hl 0 rfl) ?_
        obtain ⟨r1, hc1, h⟩ := ob_ex h
        refine nc_Vv (As := []) (rest := []) ⟨hx, hb, hml, hown, hts⟩ (c_x_take l dC dI cy a k (fun _ => 0) σ r1 hc1 H.size) (cwV 0 hts g_x_ifs_take_71 rfl rfl rfl hd_x_take (by show 2 + 1 ≤ 328 + d ∧ 8 + (2 + 11) + 43 ≤ 10106 + 26 * d; omega)) hK hG hA hP hD hS rfl hl.1 rfl (Nat.le_of_ble_eq_true rfl) dX12_ifs_21 ⟨Nat.le_refl _, Nat.le_refl _⟩ (fun H locs hP hD hS => ?_)
        refine lv_iconst (v := (-1)) hx hb dX12_ifs_24 (by decide) ?_
        refine lv_istore_n (lv' := [(2, .int (-1)), (0, .ref (a 0)), (1, .int (L 1))]) hx hb dX12_ifs_25 rfl hl (by decide) rfl (fun ls hl => ?_)
        refine lv_iconst (v := 1) hx hb dX12_ifs_26 (by decide) ?_
        refine lv_istore_n (lv' := [(3, .int 1), (2, .int (-1)), (0, .ref (a 0)), (1, .int (L 1))]) hx hb dX12_ifs_27 rfl hl (by decide) rfl (fun ls hl => ?_)
        refine lv_iconst (v := 1) hx hb dX12_ifs_28 (by decide) ?_
        refine lv_istore (lv' := [(4, .int 1), (3, .int 1), (2, .int (-1)), (0, .ref (a 0)), (1, .int (L 1))]) hx hb dX12_ifs_29 hl (by decide) rfl (fun ls hl => ?_)
        exact ih.2.2.1 (upd (upd (upd L 2 ((-1))) 3 1) 4 1) r1.2 r h H locs ls hP hD hS (lv_sub hl [3, 4, 2, 1, 0] rfl)
      · intro L σ r h H locs ls hP hD hS hl
        rw [x_GS_2, s_ifs_2] at h
        refine lv_iload_n hx hb dX12_ifs_31 rfl (lv_at hl 3 rfl) ?_
        refine lv_if_eq (tgt := 161) hx hb dX12_ifs_32 (by decide) (fun c1 => ?_) (fun c1 => ?_)
        · rw [if_pos c1] at h
          exact ih.2.2.2.2.2.2.2.2.2.2.1 L σ r h H locs ls hP hD hS (lv_sub hl [0, 1, 2, 3, 4] rfl)
        · rw [if_neg c1] at h
          refine lv_aload_n hx hb dX12_ifs_35 rfl (lv_at hl 0 rfl) ?_
          refine ng_10 hx hb hts in_x_ifs hown hK hP (hts _ (List.mem_cons_of_mem _ (List.mem_append_left _ (List.mem_append_left _ (List.mem_of_getElem? (i := 5) rfl))))) dX12_ifs_36 ?_
          refine lv_if_ne (tgt := 161) hx hb dX12_ifs_39 (by decide) (fun c2 => ?_) (fun c2 => ?_)
          · rw [if_neg c2] at h
            exact ih.2.2.2.2.2.2.2.2.2.2.1 L σ r h H locs ls hP hD hS (lv_sub hl [0, 1, 2, 3, 4] rfl)
          · rw [if_pos c2] at h
            refine lv_iconst (v := (-1)) hx hb dX12_ifs_42 (by decide) ?_
            refine lv_istore (lv' := [(5, .int (-1)), (0, .ref (a 0)), (1, .int (L 1)), (2, .int (L 2)), (3, .int (L 3)), (4, .int (L 4))]) hx hb dX12_ifs_43 hl (by decide) rfl (fun ls hl => ?_)
            refine lv_iload hx hb dX12_ifs_45 (lv_at hl 5 rfl) ?_
            refine lv_if_eq (tgt := 70) hx hb dX12_ifs_47 (by decide) (fun c3 => ?_) (fun c3 => ?_)
            · rw [if_pos c3] at h
              exact ih.2.2.2.1 (upd L 5 ((-1))) σ r h H locs ls hP hD hS (lv_sub hl [1, 2, 3, 4, 5, 0] rfl)
            · rw [if_neg c3] at h
              refine lv_aload_n hx hb dX12_ifs_50 rfl (lv_at hl 1 rfl) ?_
              refine lv_bipush (v := 31) hx hb dX12_ifs_51 (by decide) ?_
              obtain ⟨r4, hc4, h⟩ := ob_ex h
              refine nc_Vi (As := [.int 31]) (rest := []) ⟨hx, hb, hml, hown, hts⟩ (c_x_isWord l dC dI cy a k (upd (fun _ => 0) 1 31) σ r4 hc4 H.size) (cwV 1 hts g_x_ifs_isWord_74 rfl rfl rfl hd_x_isWord (by show 0 + 1 ≤ 328 + d ∧ 8 + (2 + 11) + 0 ≤ 10106 + 26 * d; omega)) hK hG hA hP hD hS rfl hl.1 rfl (Nat.le_of_ble_eq_true rfl) dX12_ifs_53 ⟨Nat.le_refl _, Nat.le_refl _⟩ (fun H locs hP hD hS => ?_)
              refine lv_if_eq (tgt := 70) hx hb dX12_ifs_56 (by decide) (fun c5 => ?_) (fun c5 => ?_)
              · rw [if_pos c5] at h
                exact ih.2.2.2.1 (upd L 5 ((-1))) r4.2 r h H locs ls hP hD hS (lv_sub hl [1, 2, 3, 4, 5, 0] rfl)
              · rw [if_neg c5] at h
                refine lv_bipush (v := (-3)) hx hb dX12_ifs_59 (by decide) ?_
                refine lv_istore (lv' := [(5, .int (-3)), (0, .ref (a 0)), (1, .int (L 1)), (2, .int (L 2)), (3, .int (L 3)), (4, .int (L 4))]) hx hb dX12_ifs_61 hl (by decide) rfl (fun ls hl => ?_)
                refine lv_aload_n hx hb dX12_ifs_63 rfl (lv_at hl 1 rfl) ?_
                obtain ⟨r6, hc6, h⟩ := ob_ex h
                refine nc_Vv (As := []) (rest := []) ⟨hx, hb, hml, hown, hts⟩ (c_x_take l dC dI cy a k (fun _ => 0) r4.2 r6 hc6 H.size) (cwV 0 hts g_x_ifs_take_71 rfl rfl rfl hd_x_take (by show 2 + 1 ≤ 328 + d ∧ 8 + (2 + 11) + 43 ≤ 10106 + 26 * d; omega)) hK hG hA hP hD hS rfl hl.1 rfl (Nat.le_of_ble_eq_true rfl) dX12_ifs_64 ⟨Nat.le_refl _, Nat.le_refl _⟩ (fun H locs hP hD hS => ?_)
                refine lv_goto (tgt := 76) hx hb dX12_ifs_67 (by decide) ?_
                exact ih.2.2.2.2.1 (upd L 5 ((-3))) r6.2 r h H locs ls hP hD hS (lv_sub hl [1, 2, 3, 4, 5, 0] rfl)
      · intro L σ r h H locs ls hP hD hS hl
        rw [x_GS_2, s_ifs_3] at h
        refine lv_aload_n hx hb dX12_ifs_70 rfl (lv_at hl 0 rfl) ?_
        obtain ⟨r1, hc1, h⟩ := ob_ex h
        refine nc_Vi (As := []) (rest := []) ⟨hx, hb, hml, hown, hts⟩ (c_x_exp l dC dI cy a k (fun _ => 0) σ r1 hc1 H.size) (cwV 0 hts g_x_ifs_exp_209 rfl rfl rfl hd_x_exp (by show 325 + 1 ≤ 328 + d ∧ 8 + (2 + 11) + 10033 ≤ 10106 + 26 * d; omega)) hK hG hA hP hD hS rfl hl.1 rfl (Nat.le_of_ble_eq_true rfl) dX12_ifs_71 ⟨Nat.le_refl _, Nat.le_refl _⟩ (fun H locs hP hD hS => ?_)
        refine lv_istore (lv' := [(5, .int r1.1), (0, .ref (a 0)), (1, .int (L 1)), (2, .int (L 2)), (3, .int (L 3)), (4, .int (L 4))]) hx hb dX12_ifs_74 hl (by decide) rfl (fun ls hl => ?_)
        exact ih.2.2.2.2.1 (upd L 5 r1.1) r1.2 r h H locs ls hP hD hS (lv_sub hl [1, 2, 3, 4, 5, 0] rfl)
      · intro L σ r h H locs ls hP hD hS hl
        rw [x_GS_2, s_ifs_4] at h
        refine lv_aload_n hx hb dX12_ifs_76 rfl (lv_at hl 0 rfl) ?_
        refine lv_bipush (v := 8) hx hb dX12_ifs_77 (by decide) ?_
        obtain ⟨r1, hc1, h⟩ := ob_ex h
        refine nc_Vv (As := [.int 8]) (rest := []) ⟨hx, hb, hml, hown, hts⟩ (c_x_wantWord l dC dI cy a k (upd (fun _ => 0) 1 8) σ r1 hc1 H.size) (cwV 1 hts g_x_ifs_wantWord_253 rfl rfl rfl hd_x_wantWord (by show 3 + 1 ≤ 328 + d ∧ 8 + (2 + 11) + 64 ≤ 10106 + 26 * d; omega)) hK hG hA hP hD hS rfl hl.1 rfl (Nat.le_of_ble_eq_true rfl) dX12_ifs_79 ⟨Nat.le_refl _, Nat.le_refl _⟩ (fun H locs hP hD hS => ?_)
        refine lv_aload_n hx hb dX12_ifs_82 rfl (lv_at hl 0 rfl) ?_
        refine lv_bipush (v := 33) hx hb dX12_ifs_83 (by decide) ?_
        refine lv_iload hx hb dX12_ifs_85 (lv_at hl 5 rfl) ?_
        refine lv_aload_n hx hb dX12_ifs_87 rfl (lv_at hl 0 rfl) ?_
        refine lv_iload_n hx hb dX12_ifs_88 rfl (lv_at hl 1 rfl) ?_
        obtain ⟨e2, he2, h⟩ := od_ex h
        obtain ⟨r2, hc2, h⟩ := ob_ex h
        refine nc_Vi (As := [.int (L 1)]) (rest := [.int (L 5), .int 33, .ref (a 0)]) ⟨hx, hb, hml, hown, hts⟩ ((IH k (by omega)).1 e2 (upd (fun _ => 0) 1 ((L 1))) r1.2 r2 hc2 H.size) (cwV 1 hts g_x_ifs_block_336 rfl rfl rfl hd_x_block (by show (328 + e2) + 1 ≤ 328 + d ∧ 8 + (5 + 11) + (10106 + 26 * e2) ≤ 10106 + 26 * d; omega)) hK hG hA hP hD hS rfl hl.1 rfl (Nat.le_of_ble_eq_true rfl) dX12_ifs_89 ⟨Nat.le_refl _, Nat.le_refl _⟩ (fun H locs hP hD hS => ?_)
        refine lv_iconst (v := 0) hx hb dX12_ifs_92 (by decide) ?_
        obtain ⟨r3, hc3, h⟩ := ob_ex h
        refine nc_Vi (As := [.int 33, .int (L 5), .int r2.1, .int 0]) (rest := []) ⟨hx, hb, hml, hown, hts⟩ (c_x_node l dC dI cy a k (upd (upd (upd (upd (fun _ => 0) 1 33) 2 ((L 5))) 3 r2.1) 4 0) r2.2 r3 hc3 H.size) (cwV 4 hts g_x_ifs_node_101 rfl rfl rfl hd_x_node (by show 0 + 1 ≤ 328 + d ∧ 8 + (6 + 11) + 0 ≤ 10106 + 26 * d; omega)) hK hG hA hP hD hS rfl hl.1 rfl (Nat.le_of_ble_eq_true rfl) dX12_ifs_93 ⟨Nat.le_refl _, Nat.le_refl _⟩ (fun H locs hP hD hS => ?_)
        refine lv_istore (lv' := [(6, .int r3.1), (0, .ref (a 0)), (1, .int (L 1)), (2, .int (L 2)), (3, .int (L 3)), (4, .int (L 4)), (5, .int (L 5))]) hx hb dX12_ifs_96 hl (by decide) rfl (fun ls hl => ?_)
        refine lv_iload hx hb dX12_ifs_98 (lv_at hl 5 rfl) ?_
        refine lv_if_eq (tgt := 114) hx hb dX12_ifs_100 (by decide) (fun c4 => ?_) (fun c4 => ?_)
        · rw [if_pos c4] at h
          exact ih.2.2.2.2.2.1 (upd L 6 r3.1) r3.2 r h H locs ls hP hD hS (lv_sub hl [1, 2, 3, 4, 5, 6, 0] rfl)
        · rw [if_neg c4] at h
          refine lv_aload_n hx hb dX12_ifs_103 rfl (lv_at hl 1 rfl) ?_
          refine ng_15 hx hb hts in_x_ifs hown hK hP (hts _ (List.mem_cons_of_mem _ (List.mem_append_left _ (List.mem_append_left _ (List.mem_of_getElem? (i := 24) rfl))))) dX12_ifs_104 ?_
          refine lv_iload_n hx hb dX12_ifs_107 rfl (lv_at hl 2 rfl) ?_
          refine lv_iload hx hb dX12_ifs_108 (lv_at hl 0 rfl) ?_
          obtain ⟨q5, h⟩ := nb_ite1 h
          refine ns_5 hx hb hK hP hD hS q5 dX12_ifs_110 (fun H locs hP hD hS => ?_)
          refine lv_goto (tgt := 122) hx hb dX12_ifs_111 (by decide) ?_
          exact ih.2.2.2.2.2.2.1 (upd L 6 r3.1) (r3.2.1, r3.2.2.1, updG r3.2.2.2 5 (upd (r3.2.2.2 5) ((L 1)).toNatClampNeg r3.1)) r h H locs ls hP hD hS (lv_sub hl [1, 2, 3, 4, 5, 6, 0] rfl)
      · intro L σ r h H locs ls hP hD hS hl
        rw [x_GS_2, s_ifs_5] at h
        refine lv_aload_n hx hb dX12_ifs_114 rfl (lv_at hl 0 rfl) ?_
        refine ng_19 hx hb hts in_x_ifs hown hK hP (hts _ (List.mem_cons_of_mem _ (List.mem_append_left _ (List.mem_append_left _ (List.mem_of_getElem? (i := 15) rfl))))) dX12_ifs_115 ?_
        refine lv_iload_n hx hb dX12_ifs_118 rfl (lv_at hl 2 rfl) ?_
        refine lv_iload hx hb dX12_ifs_119 (lv_at hl 6 rfl) ?_
        obtain ⟨q1, h⟩ := nb_ite1 h
        refine ns_9 hx hb hK hP hD hS q1 dX12_ifs_121 (fun H locs hP hD hS => ?_)
        exact ih.2.2.2.2.2.2.1 L (σ.1, σ.2.1, updG σ.2.2 9 (upd (σ.2.2 9) ((L 2)).toNatClampNeg ((L 6)))) r h H locs ls hP hD hS (lv_sub hl [0, 1, 2, 3, 4, 5, 6] rfl)
      · intro L σ r h H locs ls hP hD hS hl
        rw [x_GS_2, s_ifs_6] at h
        refine lv_iload hx hb dX12_ifs_122 (lv_at hl 6 rfl) ?_
        refine lv_istore_n (lv' := [(2, .int (L 6)), (0, .ref (a 0)), (1, .int (L 1)), (3, .int (L 3)), (4, .int (L 4)), (5, .int (L 5)), (6, .int (L 6))]) hx hb dX12_ifs_124 rfl hl (by decide) rfl (fun ls hl => ?_)
        refine lv_iconst (v := 0) hx hb dX12_ifs_125 (by decide) ?_
        refine lv_istore (lv' := [(4, .int 0), (2, .int (L 6)), (0, .ref (a 0)), (1, .int (L 1)), (3, .int (L 3)), (5, .int (L 5)), (6, .int (L 6))]) hx hb dX12_ifs_126 hl (by decide) rfl (fun ls hl => ?_)
        refine lv_aload_n hx hb dX12_ifs_128 rfl (lv_at hl 2 rfl) ?_
        refine ng_10 hx hb hts in_x_ifs hown hK hP (hts _ (List.mem_cons_of_mem _ (List.mem_append_left _ (List.mem_append_left _ (List.mem_of_getElem? (i := 5) rfl))))) dX12_ifs_129 ?_
        refine lv_if_ne (tgt := 148) hx hb dX12_ifs_132 (by decide) (fun c1 => ?_) (fun c1 => ?_)
        · rw [if_neg c1] at h
          exact ih.2.2.2.2.2.2.2.1 (upd (upd L 2 ((L 6))) 4 0) σ r h H locs ls hP hD hS (lv_sub hl [2, 3, 1, 4, 0, 5, 6] rfl)
        · rw [if_pos c1] at h
          refine lv_aload_n hx hb dX12_ifs_135 rfl (lv_at hl 2 rfl) ?_
          refine lv_bipush (v := 9) hx hb dX12_ifs_136 (by decide) ?_
          obtain ⟨r2, hc2, h⟩ := ob_ex h
          refine nc_Vi (As := [.int 9]) (rest := []) ⟨hx, hb, hml, hown, hts⟩ (c_x_isWord l dC dI cy a k (upd (fun _ => 0) 1 9) σ r2 hc2 H.size) (cwV 1 hts g_x_ifs_isWord_74 rfl rfl rfl hd_x_isWord (by show 0 + 1 ≤ 328 + d ∧ 8 + (2 + 11) + 0 ≤ 10106 + 26 * d; omega)) hK hG hA hP hD hS rfl hl.1 rfl (Nat.le_of_ble_eq_true rfl) dX12_ifs_138 ⟨Nat.le_refl _, Nat.le_refl _⟩ (fun H locs hP hD hS => ?_)
          refine lv_if_eq (tgt := 148) hx hb dX12_ifs_141 (by decide) (fun c3 => ?_) (fun c3 => ?_)
          · rw [if_pos c3] at h
            exact ih.2.2.2.2.2.2.2.1 (upd (upd L 2 ((L 6))) 4 0) r2.2 r h H locs ls hP hD hS (lv_sub hl [2, 3, 1, 4, 0, 5, 6] rfl)
          · rw [if_neg c3] at h
            refine lv_iconst (v := 1) hx hb dX12_ifs_144 (by decide) ?_
            refine lv_goto (tgt := 149) hx hb dX12_ifs_145 (by decide) ?_
            exact ih.2.2.2.2.2.2.2.2.1 (upd (upd (upd L 2 ((L 6))) 4 0) 100 1) r2.2 r h H locs ls hP hD hS (lv_sub hl [2, 3, 1, 4, 0, 5, 6] rfl)
      · intro L σ r h H locs ls hP hD hS hl
        rw [x_GS_2, s_ifs_7] at h
        refine lv_iconst (v := 0) hx hb dX12_ifs_148 (by decide) ?_
        exact ih.2.2.2.2.2.2.2.2.1 (upd L 100 0) σ r h H locs ls hP hD hS (lv_sub hl [0, 1, 2, 3, 4, 5, 6] rfl)
      · intro L σ r h H locs ls hP hD hS hl
        rw [x_GS_2, s_ifs_8] at h
        refine lv_istore_n (lv' := [(3, .int (L 100)), (0, .ref (a 0)), (1, .int (L 1)), (2, .int (L 2)), (4, .int (L 4)), (5, .int (L 5)), (6, .int (L 6))]) hx hb dX12_ifs_149 rfl hl (by decide) rfl (fun ls hl => ?_)
        refine lv_iload_n hx hb dX12_ifs_150 rfl (lv_at hl 0 rfl) ?_
        refine lv_if_eq (tgt := 158) hx hb dX12_ifs_151 (by decide) (fun c1 => ?_) (fun c1 => ?_)
        · rw [if_pos c1] at h
          exact ih.2.2.2.2.2.2.2.2.2.1 (upd L 3 ((L 100))) σ r h H locs ls hP hD hS (lv_sub hl [1, 2, 3, 0, 4, 5, 6] rfl)
        · rw [if_neg c1] at h
          refine lv_aload_n hx hb dX12_ifs_154 rfl (lv_at hl 1 rfl) ?_
          obtain ⟨r2, hc2, h⟩ := ob_ex h
          refine nc_Vv (As := []) (rest := []) ⟨hx, hb, hml, hown, hts⟩ (c_x_take l dC dI cy a k (fun _ => 0) σ r2 hc2 H.size) (cwV 0 hts g_x_ifs_take_71 rfl rfl rfl hd_x_take (by show 2 + 1 ≤ 328 + d ∧ 8 + (2 + 11) + 43 ≤ 10106 + 26 * d; omega)) hK hG hA hP hD hS rfl hl.1 rfl (Nat.le_of_ble_eq_true rfl) dX12_ifs_155 ⟨Nat.le_refl _, Nat.le_refl _⟩ (fun H locs hP hD hS => ?_)
          exact ih.2.2.2.2.2.2.2.2.2.1 (upd L 3 ((L 100))) r2.2 r h H locs ls hP hD hS (lv_sub hl [1, 2, 3, 0, 4, 5, 6] rfl)
      · intro L σ r h H locs ls hP hD hS hl
        rw [x_GS_2, s_ifs_9] at h
        refine lv_goto (tgt := 31) hx hb dX12_ifs_158 (by decide) ?_
        exact ih.2.2.1 L σ r h H locs ls hP hD hS (lv_sub hl [0, 1, 2, 3, 4] rfl)
      · intro L σ r h H locs ls hP hD hS hl
        rw [x_GS_2, s_ifs_10] at h
        refine lv_aload_n hx hb dX12_ifs_161 rfl (lv_at hl 0 rfl) ?_
        refine ng_10 hx hb hts in_x_ifs hown hK hP (hts _ (List.mem_cons_of_mem _ (List.mem_append_left _ (List.mem_append_left _ (List.mem_of_getElem? (i := 5) rfl))))) dX12_ifs_162 ?_
        refine lv_if_ne (tgt := 201) hx hb dX12_ifs_165 (by decide) (fun c1 => ?_) (fun c1 => ?_)
        · rw [if_neg c1] at h
          exact ih.2.2.2.2.2.2.2.2.2.2.2.1 L σ r h H locs ls hP hD hS (lv_sub hl [0, 1, 2, 3, 4] rfl)
        · rw [if_pos c1] at h
          refine lv_aload_n hx hb dX12_ifs_168 rfl (lv_at hl 0 rfl) ?_
          refine lv_bipush (v := 10) hx hb dX12_ifs_169 (by decide) ?_
          obtain ⟨r2, hc2, h⟩ := ob_ex h
          refine nc_Vi (As := [.int 10]) (rest := []) ⟨hx, hb, hml, hown, hts⟩ (c_x_isWord l dC dI cy a k (upd (fun _ => 0) 1 10) σ r2 hc2 H.size) (cwV 1 hts g_x_ifs_isWord_74 rfl rfl rfl hd_x_isWord (by show 0 + 1 ≤ 328 + d ∧ 8 + (2 + 11) + 0 ≤ 10106 + 26 * d; omega)) hK hG hA hP hD hS rfl hl.1 rfl (Nat.le_of_ble_eq_true rfl) dX12_ifs_171 ⟨Nat.le_refl _, Nat.le_refl _⟩ (fun H locs hP hD hS => ?_)
          refine lv_if_eq (tgt := 201) hx hb dX12_ifs_174 (by decide) (fun c3 => ?_) (fun c3 => ?_)
          · rw [if_pos c3] at h
            exact ih.2.2.2.2.2.2.2.2.2.2.2.1 L r2.2 r h H locs ls hP hD hS (lv_sub hl [0, 1, 2, 3, 4] rfl)
          · rw [if_neg c3] at h
            refine lv_aload_n hx hb dX12_ifs_177 rfl (lv_at hl 0 rfl) ?_
            obtain ⟨r4, hc4, h⟩ := ob_ex h
            refine nc_Vv (As := []) (rest := []) ⟨hx, hb, hml, hown, hts⟩ (c_x_take l dC dI cy a k (fun _ => 0) r2.2 r4 hc4 H.size) (cwV 0 hts g_x_ifs_take_71 rfl rfl rfl hd_x_take (by show 2 + 1 ≤ 328 + d ∧ 8 + (2 + 11) + 43 ≤ 10106 + 26 * d; omega)) hK hG hA hP hD hS rfl hl.1 rfl (Nat.le_of_ble_eq_true rfl) dX12_ifs_178 ⟨Nat.le_refl _, Nat.le_refl _⟩ (fun H locs hP hD hS => ?_)
            refine lv_aload_n hx hb dX12_ifs_181 rfl (lv_at hl 0 rfl) ?_
            refine ng_19 hx hb hts in_x_ifs hown hK hP (hts _ (List.mem_cons_of_mem _ (List.mem_append_left _ (List.mem_append_left _ (List.mem_of_getElem? (i := 15) rfl))))) dX12_ifs_182 ?_
            refine lv_iload_n hx hb dX12_ifs_185 rfl (lv_at hl 2 rfl) ?_
            refine lv_aload_n hx hb dX12_ifs_186 rfl (lv_at hl 0 rfl) ?_
            refine lv_bipush (v := 33) hx hb dX12_ifs_187 (by decide) ?_
            refine lv_bipush (v := (-2)) hx hb dX12_ifs_189 (by decide) ?_
            refine lv_aload_n hx hb dX12_ifs_191 rfl (lv_at hl 0 rfl) ?_
            refine lv_iload_n hx hb dX12_ifs_192 rfl (lv_at hl 1 rfl) ?_
            obtain ⟨e5, he5, h⟩ := od_ex h
            obtain ⟨r5, hc5, h⟩ := ob_ex h
            refine nc_Vi (As := [.int (L 1)]) (rest := [.int (-2), .int 33, .ref (a 0), .int (L 2), .ref (a 9)]) ⟨hx, hb, hml, hown, hts⟩ ((IH k (by omega)).1 e5 (upd (fun _ => 0) 1 ((L 1))) r4.2 r5 hc5 H.size) (cwV 1 hts g_x_ifs_block_336 rfl rfl rfl hd_x_block (by show (328 + e5) + 1 ≤ 328 + d ∧ 8 + (5 + 11) + (10106 + 26 * e5) ≤ 10106 + 26 * d; omega)) hK hG hA hP hD hS rfl hl.1 rfl (Nat.le_of_ble_eq_true rfl) dX12_ifs_193 ⟨Nat.le_refl _, Nat.le_refl _⟩ (fun H locs hP hD hS => ?_)
            refine lv_iconst (v := 0) hx hb dX12_ifs_196 (by decide) ?_
            obtain ⟨r6, hc6, h⟩ := ob_ex h
            refine nc_Vi (As := [.int 33, .int (-2), .int r5.1, .int 0]) (rest := [.int (L 2), .ref (a 9)]) ⟨hx, hb, hml, hown, hts⟩ (c_x_node l dC dI cy a k (upd (upd (upd (upd (fun _ => 0) 1 33) 2 ((-2))) 3 r5.1) 4 0) r5.2 r6 hc6 H.size) (cwV 4 hts g_x_ifs_node_101 rfl rfl rfl hd_x_node (by show 0 + 1 ≤ 328 + d ∧ 8 + (6 + 11) + 0 ≤ 10106 + 26 * d; omega)) hK hG hA hP hD hS rfl hl.1 rfl (Nat.le_of_ble_eq_true rfl) dX12_ifs_197 ⟨Nat.le_refl _, Nat.le_refl _⟩ (fun H locs hP hD hS => ?_)
            obtain ⟨q7, h⟩ := nb_ite1 h
            refine ns_9 hx hb hK hP hD hS q7 dX12_ifs_200 (fun H locs hP hD hS => ?_)
            exact ih.2.2.2.2.2.2.2.2.2.2.2.1 L (r6.2.1, r6.2.2.1, updG r6.2.2.2 9 (upd (r6.2.2.2 9) ((L 2)).toNatClampNeg r6.1)) r h H locs ls hP hD hS (lv_sub hl [0, 1, 2, 3, 4] rfl)
      · intro L σ r h H locs ls hP hD hS hl
        rw [x_GS_2, s_ifs_11] at h
        refine lv_aload_n hx hb dX12_ifs_201 rfl (lv_at hl 0 rfl) ?_
        refine lv_bipush (v := 6) hx hb dX12_ifs_202 (by decide) ?_
        obtain ⟨r1, hc1, h⟩ := ob_ex h
        refine nc_Vv (As := [.int 6]) (rest := []) ⟨hx, hb, hml, hown, hts⟩ (c_x_wantWord l dC dI cy a k (upd (fun _ => 0) 1 6) σ r1 hc1 H.size) (cwV 1 hts g_x_ifs_wantWord_253 rfl rfl rfl hd_x_wantWord (by show 3 + 1 ≤ 328 + d ∧ 8 + (2 + 11) + 64 ≤ 10106 + 26 * d; omega)) hK hG hA hP hD hS rfl hl.1 rfl (Nat.le_of_ble_eq_true rfl) dX12_ifs_204 ⟨Nat.le_refl _, Nat.le_refl _⟩ (fun H locs hP hD hS => ?_)
        refine lv_aload_n hx hb dX12_ifs_207 rfl (lv_at hl 0 rfl) ?_
        refine lv_bipush (v := 13) hx hb dX12_ifs_208 (by decide) ?_
        obtain ⟨r2, hc2, h⟩ := ob_ex h
        refine nc_Vv (As := [.int 13]) (rest := []) ⟨hx, hb, hml, hown, hts⟩ (c_x_want l dC dI cy a k (upd (fun _ => 0) 1 13) r1.2 r2 hc2 H.size) (cwV 1 hts g_x_ifs_want_199 rfl rfl rfl hd_x_want (by show 3 + 1 ≤ 328 + d ∧ 8 + (2 + 11) + 64 ≤ 10106 + 26 * d; omega)) hK hG hA hP hD hS rfl hl.1 rfl (Nat.le_of_ble_eq_true rfl) dX12_ifs_210 ⟨Nat.le_refl _, Nat.le_refl _⟩ (fun H locs hP hD hS => ?_)
        refine lv_aload_n hx hb dX12_ifs_213 rfl (lv_at hl 0 rfl) ?_
        refine lv_dup hx hb dX12_ifs_214 rfl ?_
        refine ng_13 hx hb hts in_x_ifs hown hK hP (hts _ (List.mem_cons_of_mem _ (List.mem_append_left _ (List.mem_append_left _ (List.mem_of_getElem? (i := 19) rfl))))) dX12_ifs_215 ?_
        refine lv_iconst (v := 1) hx hb dX12_ifs_218 (by decide) ?_
        refine lv_isub hx hb dX12_ifs_219 ?_
        refine np_13 hx hb hts in_x_ifs hown hK hP hD hS (hts _ (List.mem_cons_of_mem _ (List.mem_append_left _ (List.mem_append_left _ (List.mem_of_getElem? (i := 19) rfl))))) dX12_ifs_220 (fun H locs hP hD hS => ?_)
        exact ih.2.2.2.2.2.2.2.2.2.2.2.2 L (upd r2.2.1 13 ((((r2.2.1 13)) - 1)), r2.2.2.1, r2.2.2.2) r h H locs ls hP hD hS (lv_sub hl [0, 1, 2, 3, 4] rfl)
      · intro L σ r h H locs ls hP hD hS hl
        rw [x_GS_2, s_ifs_12] at h
        refine lv_iload_n hx hb dX12_ifs_223 rfl (lv_at hl 1 rfl) ?_
        cases h
        exact W.iret (v := (L 1)) hx hb hr (fun t ht hW => ⟨⟨(L 1), (), rfl, rfl, by rw [ht]; exact hP, va_K.moved hW.alike hK, hD⟩, hS.F ht⟩) hS.2.2 dX12_ifs_224
  exact (blk k0 (Nat.le_refl _)).1 L0 σ0 r0 h0 s.heap [] ls hP hD hS hl
theorem gg_x_statement_begun : GoodIn w_x_statement w_x_begun := goodIn_sub (fun w h => (List.mem_cons.mp h).elim (fun e => (List.mem_cons_of_mem _ (List.mem_append_left _ (List.mem_append_right _ (List.mem_append_right _ (List.mem_append_right _ (List.mem_append_right _ (List.mem_append_right _ (List.mem_append_right _ (List.mem_append_right _ (List.mem_append_right _ (List.mem_append_right _ (List.mem_append_right _ (List.mem_append_right _ (List.mem_append_right _ (List.mem_append_right _ (List.mem_append_left _ (List.mem_cons.mpr (Or.inl e))))))))))))))))))) (fun h => (List.mem_append.mp h).elim (fun h => (List.mem_cons_of_mem _ (List.mem_append_left _ (List.mem_append_right _ (List.mem_append_right _ (List.mem_append_right _ (List.mem_append_right _ (List.mem_append_right _ (List.mem_append_right _ (List.mem_append_right _ (List.mem_append_right _ (List.mem_append_right _ (List.mem_append_right _ (List.mem_append_right _ (List.mem_append_right _ (List.mem_append_right _ (List.mem_append_left _ (List.mem_cons_of_mem _ h)))))))))))))))))) (fun h => List.mem_cons_of_mem _ (List.mem_append_right _ h)))) w_x_begun_good
theorem g_x_statement_begun_300 : GoodIn w_x_statement (wsV RX12 300 RX12 yX12_begun w_x_begun) := goodIn_app (nb_g4 (List.mem_cons_of_mem _ (List.mem_append_left _ (List.mem_append_left _ (List.mem_of_getElem? (i := 61) rfl)))) (List.mem_cons_of_mem _ (List.mem_append_left _ (List.mem_append_left _ (List.mem_of_getElem? (i := 62) rfl)))) (List.mem_cons_of_mem _ (List.mem_append_left _ (List.mem_append_left _ (List.mem_of_getElem? (i := 63) rfl)))) (List.mem_cons_of_mem _ (List.mem_append_left _ (List.mem_append_left _ (List.mem_of_getElem? (i := 9) rfl)))) (by decide +kernel)) gg_x_statement_begun
theorem gg_x_statement_cannot : GoodIn w_x_statement w_x_cannot := goodIn_sub (fun w h => (List.mem_cons.mp h).elim (fun e => (List.mem_cons_of_mem _ (List.mem_append_left _ (List.mem_append_right _ (List.mem_append_right _ (List.mem_append_right _ (List.mem_append_right _ (List.mem_append_right _ (List.mem_append_right _ (List.mem_append_right _ (List.mem_append_right _ (List.mem_append_right _ (List.mem_append_right _ (List.mem_append_right _ (List.mem_append_left _ (List.mem_cons.mpr (Or.inl e))))))))))))))))) (fun h => (List.mem_append.mp h).elim (fun h => (List.mem_cons_of_mem _ (List.mem_append_left _ (List.mem_append_right _ (List.mem_append_right _ (List.mem_append_right _ (List.mem_append_right _ (List.mem_append_right _ (List.mem_append_right _ (List.mem_append_right _ (List.mem_append_right _ (List.mem_append_right _ (List.mem_append_right _ (List.mem_append_right _ (List.mem_append_left _ (List.mem_cons_of_mem _ h)))))))))))))))) (fun h => List.mem_cons_of_mem _ (List.mem_append_right _ h)))) w_x_cannot_good
theorem g_x_statement_cannot_68 : GoodIn w_x_statement (wsV RX12 68 RX12 yX12_cannot w_x_cannot) := goodIn_app (nb_g4 (List.mem_cons_of_mem _ (List.mem_append_left _ (List.mem_append_left _ (List.mem_of_getElem? (i := 52) rfl)))) (List.mem_cons_of_mem _ (List.mem_append_left _ (List.mem_append_left _ (List.mem_of_getElem? (i := 53) rfl)))) (List.mem_cons_of_mem _ (List.mem_append_left _ (List.mem_append_left _ (List.mem_of_getElem? (i := 54) rfl)))) (List.mem_cons_of_mem _ (List.mem_append_left _ (List.mem_append_left _ (List.mem_of_getElem? (i := 9) rfl)))) (by decide +kernel)) gg_x_statement_cannot
theorem gg_x_statement_fault : GoodIn w_x_statement w_x_fault := goodIn_sub (fun w h => (List.mem_cons.mp h).elim (fun e => (List.mem_cons_of_mem _ (List.mem_append_left _ (List.mem_append_right _ (List.mem_append_right _ (List.mem_append_right _ (List.mem_append_right _ (List.mem_append_right _ (List.mem_append_right _ (List.mem_append_right _ (List.mem_append_right _ (List.mem_append_right _ (List.mem_append_right _ (List.mem_append_right _ (List.mem_append_right _ (List.mem_append_left _ (List.mem_cons.mpr (Or.inl e)))))))))))))))))) (fun h => (List.mem_append.mp h).elim (fun h => (List.mem_cons_of_mem _ (List.mem_append_left _ (List.mem_append_right _ (List.mem_append_right _ (List.mem_append_right _ (List.mem_append_right _ (List.mem_append_right _ (List.mem_append_right _ (List.mem_append_right _ (List.mem_append_right _ (List.mem_append_right _ (List.mem_append_right _ (List.mem_append_right _ (List.mem_append_right _ (List.mem_append_left _ (List.mem_cons_of_mem _ h))))))))))))))))) (fun h => List.mem_cons_of_mem _ (List.mem_append_right _ h)))) w_x_fault_good
theorem g_x_statement_fault_58 : GoodIn w_x_statement (wsV RX12 58 RX12 yX12_fault w_x_fault) := goodIn_app (nb_g4 (List.mem_cons_of_mem _ (List.mem_append_left _ (List.mem_append_left _ (List.mem_of_getElem? (i := 56) rfl)))) (List.mem_cons_of_mem _ (List.mem_append_left _ (List.mem_append_left _ (List.mem_of_getElem? (i := 57) rfl)))) (List.mem_cons_of_mem _ (List.mem_append_left _ (List.mem_append_left _ (List.mem_of_getElem? (i := 58) rfl)))) (List.mem_cons_of_mem _ (List.mem_append_left _ (List.mem_append_left _ (List.mem_of_getElem? (i := 9) rfl)))) (by decide +kernel)) gg_x_statement_fault
theorem gg_x_statement_fors : GoodIn w_x_statement w_x_fors := goodIn_sub (fun w h => (List.mem_cons.mp h).elim (fun e => e ▸ (List.mem_cons_of_mem _ (List.mem_append_left _ (List.mem_append_left _ (List.mem_of_getElem? (i := 1) rfl))))) (fun h => List.mem_cons_of_mem _ h)) w_x_fors_good
theorem g_x_statement_fors_312 : GoodIn w_x_statement (wsV RX12 312 RX12 yX12_fors w_x_fors) := goodIn_app (nb_g4 (List.mem_cons_of_mem _ (List.mem_append_left _ (List.mem_append_left _ (List.mem_of_getElem? (i := 74) rfl)))) (List.mem_cons_of_mem _ (List.mem_append_left _ (List.mem_append_left _ (List.mem_of_getElem? (i := 75) rfl)))) (List.mem_cons_of_mem _ (List.mem_append_left _ (List.mem_append_left _ (List.mem_of_getElem? (i := 76) rfl)))) (List.mem_cons_of_mem _ (List.mem_append_left _ (List.mem_append_left _ (List.mem_of_getElem? (i := 9) rfl)))) (by decide +kernel)) gg_x_statement_fors
theorem gg_x_statement_ifs : GoodIn w_x_statement w_x_ifs := goodIn_sub (fun w h => (List.mem_cons.mp h).elim (fun e => e ▸ (List.mem_cons_of_mem _ (List.mem_append_left _ (List.mem_append_left _ (List.mem_of_getElem? (i := 2) rfl))))) (fun h => List.mem_cons_of_mem _ h)) w_x_ifs_good
theorem g_x_statement_ifs_306 : GoodIn w_x_statement (wsV RX12 306 RX12 yX12_ifs w_x_ifs) := goodIn_app (nb_g4 (List.mem_cons_of_mem _ (List.mem_append_left _ (List.mem_append_left _ (List.mem_of_getElem? (i := 68) rfl)))) (List.mem_cons_of_mem _ (List.mem_append_left _ (List.mem_append_left _ (List.mem_of_getElem? (i := 69) rfl)))) (List.mem_cons_of_mem _ (List.mem_append_left _ (List.mem_append_left _ (List.mem_of_getElem? (i := 70) rfl)))) (List.mem_cons_of_mem _ (List.mem_append_left _ (List.mem_append_left _ (List.mem_of_getElem? (i := 9) rfl)))) (by decide +kernel)) gg_x_statement_ifs
theorem gg_x_statement_isSign : GoodIn w_x_statement w_x_isSign := goodIn_sub (fun w h => (List.mem_cons.mp h).elim (fun e => (List.mem_cons_of_mem _ (List.mem_append_left _ (List.mem_append_right _ (List.mem_append_right _ (List.mem_append_right _ (List.mem_append_right _ (List.mem_append_right _ (List.mem_append_left _ (List.mem_cons.mpr (Or.inl e))))))))))) (fun h => (List.mem_append.mp h).elim (fun h => (List.mem_cons_of_mem _ (List.mem_append_left _ (List.mem_append_right _ (List.mem_append_right _ (List.mem_append_right _ (List.mem_append_right _ (List.mem_append_right _ (List.mem_append_left _ (List.mem_cons_of_mem _ h)))))))))) (fun h => List.mem_cons_of_mem _ (List.mem_append_right _ h)))) w_x_isSign_good
theorem g_x_statement_isSign_65 : GoodIn w_x_statement (wsV RX12 65 RX12 yX12_isSign w_x_isSign) := goodIn_app (nb_g4 (List.mem_cons_of_mem _ (List.mem_append_left _ (List.mem_append_left _ (List.mem_of_getElem? (i := 28) rfl)))) (List.mem_cons_of_mem _ (List.mem_append_left _ (List.mem_append_left _ (List.mem_of_getElem? (i := 29) rfl)))) (List.mem_cons_of_mem _ (List.mem_append_left _ (List.mem_append_left _ (List.mem_of_getElem? (i := 30) rfl)))) (List.mem_cons_of_mem _ (List.mem_append_left _ (List.mem_append_left _ (List.mem_of_getElem? (i := 9) rfl)))) (by decide +kernel)) gg_x_statement_isSign
theorem gg_x_statement_isStatement : GoodIn w_x_statement w_x_isStatement := goodIn_sub (fun w h => (List.mem_cons.mp h).elim (fun e => (List.mem_cons_of_mem _ (List.mem_append_left _ (List.mem_append_right _ (List.mem_append_right _ (List.mem_append_right _ (List.mem_append_right _ (List.mem_append_right _ (List.mem_append_right _ (List.mem_append_right _ (List.mem_append_right _ (List.mem_append_right _ (List.mem_append_right _ (List.mem_append_left _ (List.mem_cons.mpr (Or.inl e)))))))))))))))) (fun h => (List.mem_append.mp h).elim (fun h => (List.mem_cons_of_mem _ (List.mem_append_left _ (List.mem_append_right _ (List.mem_append_right _ (List.mem_append_right _ (List.mem_append_right _ (List.mem_append_right _ (List.mem_append_right _ (List.mem_append_right _ (List.mem_append_right _ (List.mem_append_right _ (List.mem_append_right _ (List.mem_append_left _ (List.mem_cons_of_mem _ h))))))))))))))) (fun h => List.mem_cons_of_mem _ (List.mem_append_right _ h)))) w_x_isStatement_good
theorem g_x_statement_isStatement_294 : GoodIn w_x_statement (wsV RX12 294 RX12 yX12_isStatement w_x_isStatement) := goodIn_app (nb_g4 (List.mem_cons_of_mem _ (List.mem_append_left _ (List.mem_append_left _ (List.mem_of_getElem? (i := 49) rfl)))) (List.mem_cons_of_mem _ (List.mem_append_left _ (List.mem_append_left _ (List.mem_of_getElem? (i := 50) rfl)))) (List.mem_cons_of_mem _ (List.mem_append_left _ (List.mem_append_left _ (List.mem_of_getElem? (i := 51) rfl)))) (List.mem_cons_of_mem _ (List.mem_append_left _ (List.mem_append_left _ (List.mem_of_getElem? (i := 9) rfl)))) (by decide +kernel)) gg_x_statement_isStatement
theorem gg_x_statement_isWord : GoodIn w_x_statement w_x_isWord := goodIn_sub (fun w h => (List.mem_cons.mp h).elim (fun e => (List.mem_cons_of_mem _ (List.mem_append_left _ (List.mem_append_right _ (List.mem_append_right _ (List.mem_append_right _ (List.mem_append_right _ (List.mem_append_right _ (List.mem_append_right _ (List.mem_append_right _ (List.mem_append_right _ (List.mem_append_right _ (List.mem_append_left _ (List.mem_cons.mpr (Or.inl e))))))))))))))) (fun h => (List.mem_append.mp h).elim (fun h => (List.mem_cons_of_mem _ (List.mem_append_left _ (List.mem_append_right _ (List.mem_append_right _ (List.mem_append_right _ (List.mem_append_right _ (List.mem_append_right _ (List.mem_append_right _ (List.mem_append_right _ (List.mem_append_right _ (List.mem_append_right _ (List.mem_append_left _ (List.mem_cons_of_mem _ h)))))))))))))) (fun h => List.mem_cons_of_mem _ (List.mem_append_right _ h)))) w_x_isWord_good
theorem g_x_statement_isWord_74 : GoodIn w_x_statement (wsV RX12 74 RX12 yX12_isWord w_x_isWord) := goodIn_app (nb_g4 (List.mem_cons_of_mem _ (List.mem_append_left _ (List.mem_append_left _ (List.mem_of_getElem? (i := 46) rfl)))) (List.mem_cons_of_mem _ (List.mem_append_left _ (List.mem_append_left _ (List.mem_of_getElem? (i := 47) rfl)))) (List.mem_cons_of_mem _ (List.mem_append_left _ (List.mem_append_left _ (List.mem_of_getElem? (i := 48) rfl)))) (List.mem_cons_of_mem _ (List.mem_append_left _ (List.mem_append_left _ (List.mem_of_getElem? (i := 9) rfl)))) (by decide +kernel)) gg_x_statement_isWord
theorem gg_x_statement_partsOf : GoodIn w_x_statement w_x_partsOf := goodIn_sub (fun w h => (List.mem_cons.mp h).elim (fun e => (List.mem_cons_of_mem _ (List.mem_append_left _ (List.mem_append_right _ (List.mem_append_right _ (List.mem_append_right _ (List.mem_append_right _ (List.mem_append_right _ (List.mem_append_right _ (List.mem_append_right _ (List.mem_append_right _ (List.mem_append_right _ (List.mem_append_right _ (List.mem_append_right _ (List.mem_append_right _ (List.mem_append_right _ (List.mem_append_right _ (List.mem_append_left _ (List.mem_cons.mpr (Or.inl e)))))))))))))))))))) (fun h => (List.mem_append.mp h).elim (fun h => (List.mem_cons_of_mem _ (List.mem_append_left _ (List.mem_append_right _ (List.mem_append_right _ (List.mem_append_right _ (List.mem_append_right _ (List.mem_append_right _ (List.mem_append_right _ (List.mem_append_right _ (List.mem_append_right _ (List.mem_append_right _ (List.mem_append_right _ (List.mem_append_right _ (List.mem_append_right _ (List.mem_append_right _ (List.mem_append_right _ (List.mem_append_left _ (List.mem_cons_of_mem _ h))))))))))))))))))) (fun h => List.mem_cons_of_mem _ (List.mem_append_right _ h)))) w_x_partsOf_good
theorem g_x_statement_partsOf_303 : GoodIn w_x_statement (wsV RX12 303 RX12 yX12_partsOf w_x_partsOf) := goodIn_app (nb_g4 (List.mem_cons_of_mem _ (List.mem_append_left _ (List.mem_append_left _ (List.mem_of_getElem? (i := 64) rfl)))) (List.mem_cons_of_mem _ (List.mem_append_left _ (List.mem_append_left _ (List.mem_of_getElem? (i := 65) rfl)))) (List.mem_cons_of_mem _ (List.mem_append_left _ (List.mem_append_left _ (List.mem_of_getElem? (i := 66) rfl)))) (List.mem_cons_of_mem _ (List.mem_append_left _ (List.mem_append_left _ (List.mem_of_getElem? (i := 9) rfl)))) (by decide +kernel)) gg_x_statement_partsOf
theorem gg_x_statement_simple : GoodIn w_x_statement w_x_simple := goodIn_sub (fun w h => (List.mem_cons.mp h).elim (fun e => (List.mem_cons_of_mem _ (List.mem_append_left _ (List.mem_append_right _ (List.mem_append_right _ (List.mem_append_right _ (List.mem_append_right _ (List.mem_append_right _ (List.mem_append_right _ (List.mem_append_right _ (List.mem_append_right _ (List.mem_append_right _ (List.mem_append_right _ (List.mem_append_right _ (List.mem_append_right _ (List.mem_append_right _ (List.mem_append_right _ (List.mem_append_right _ (List.mem_append_left _ (List.mem_cons.mpr (Or.inl e))))))))))))))))))))) (fun h => (List.mem_append.mp h).elim (fun h => (List.mem_cons_of_mem _ (List.mem_append_left _ (List.mem_append_right _ (List.mem_append_right _ (List.mem_append_right _ (List.mem_append_right _ (List.mem_append_right _ (List.mem_append_right _ (List.mem_append_right _ (List.mem_append_right _ (List.mem_append_right _ (List.mem_append_right _ (List.mem_append_right _ (List.mem_append_right _ (List.mem_append_right _ (List.mem_append_right _ (List.mem_append_right _ (List.mem_append_left _ (List.mem_cons_of_mem _ h)))))))))))))))))))) (fun h => List.mem_cons_of_mem _ (List.mem_append_right _ h)))) w_x_simple_good
theorem g_x_statement_simple_315 : GoodIn w_x_statement (wsV RX12 315 RX12 yX12_simple w_x_simple) := goodIn_app (nb_g4 (List.mem_cons_of_mem _ (List.mem_append_left _ (List.mem_append_left _ (List.mem_of_getElem? (i := 77) rfl)))) (List.mem_cons_of_mem _ (List.mem_append_left _ (List.mem_append_left _ (List.mem_of_getElem? (i := 78) rfl)))) (List.mem_cons_of_mem _ (List.mem_append_left _ (List.mem_append_left _ (List.mem_of_getElem? (i := 79) rfl)))) (List.mem_cons_of_mem _ (List.mem_append_left _ (List.mem_append_left _ (List.mem_of_getElem? (i := 9) rfl)))) (by decide +kernel)) gg_x_statement_simple
theorem gg_x_statement_whiles : GoodIn w_x_statement w_x_whiles := goodIn_sub (fun w h => (List.mem_cons.mp h).elim (fun e => e ▸ (List.mem_cons_of_mem _ (List.mem_append_left _ (List.mem_append_left _ (List.mem_of_getElem? (i := 4) rfl))))) (fun h => List.mem_cons_of_mem _ h)) w_x_whiles_good
theorem g_x_statement_whiles_309 : GoodIn w_x_statement (wsV RX12 309 RX12 yX12_whiles w_x_whiles) := goodIn_app (nb_g4 (List.mem_cons_of_mem _ (List.mem_append_left _ (List.mem_append_left _ (List.mem_of_getElem? (i := 71) rfl)))) (List.mem_cons_of_mem _ (List.mem_append_left _ (List.mem_append_left _ (List.mem_of_getElem? (i := 72) rfl)))) (List.mem_cons_of_mem _ (List.mem_append_left _ (List.mem_append_left _ (List.mem_of_getElem? (i := 73) rfl)))) (List.mem_cons_of_mem _ (List.mem_append_left _ (List.mem_append_left _ (List.mem_of_getElem? (i := 9) rfl)))) (by decide +kernel)) gg_x_statement_whiles
set_option maxHeartbeats 40000000 in
set_option maxRecDepth 100000 in
theorem c_s_statement (l : Launch) (dC : Nat → ClassId) (dI : Nat → Nat → Nat) (cy : Nat → ClassId) (a : Nat → Nat) (k0 : Nat) (IH : ∀ j : Nat, j < k0 → P_GS l dC dI cy a j) (d : Nat) (L0 : Nat → Int32) (σ0 : MS) (r0 : Int32 × MS) (h0 : x_GS k0 d 3 0 L0 σ0 = some r0) (sz : Nat) : Met l yX12_statement w_x_statement ({ frames := 328 + d, cells := 0, slots := 0, locals := 10106 + 26 * d }) (va_Pc [.ref (a 0)] (nIn (dC, dI) cy sz (vM cy a σ0))) (va_Qi (fun (z : Int32) (_ : Unit) => z = r0.1) (fun _ t => nOut (dC, dI) cy (va_A (vM cy a σ0) sz) (vM cy a r0.2) t) (va_A (vM cy a σ0) sz)) 0 0 (va_A (vM cy a σ0) sz) := by
  refine Met.ofW (cc := cX12_statement) (maxL := 5) (ret := (some .int)) (by decide) rfl ?_
  intro p e s m args below meth c s₁ B hml hv
  obtain ⟨rfl, hsz, hP, hK, hD0, hG⟩ := hv
  have hx := B.exec
  have hb := B.bytes
  have hr := B.returns
  have hts := atoms_spec (ws := w_x_statement) B.pre
  have hown : s.vm.findClass RX12 = some m.cls := findClass_of_methodNamed B.named
  have hlocks := B.notSynchronized
  subst hsz
  have hD := hD0.self (sz := s.heap.size)
  generalize hAe : va_A (vM cy a σ0) s.heap.size = A at hD ⊢
  have hA : ∀ q : Nat, s.heap.size ≤ q → A q := fun q h => by rw [← hAe]; exact Or.inr h
  have hS : va_S A s.heap s.heap [] := va_S.rf
  have hl := lv_entry ([.ref (a 0)]) (n := 5) (Nat.le_of_ble_eq_true rfl)
  rw [lg_entry_eq]
  generalize (lg_sl ([.ref (a 0)]) ++ List.replicate (5 - (lg_sl ([.ref (a 0)])).length) Slot.unset).toArray = ls at hl ⊢
  have hl : lv_has ls 5 [(0, .ref (a 0))] := hl
  have blk : ∀ k : Nat, k ≤ k0 → (bT p l e (headSpec w_x_statement ({ frames := 328 + d, cells := 0, slots := 0, locals := 10106 + 26 * d })).room s m #[.ref (a 0)] below meth c dC dI cy a A (qI dC dI cy a A below #[.ref (a 0)] s) 5 (x_GS k d 3 0) (fun L => [(0, .ref (a 0))]) 0 (fun L => [])) ∧ (bT p l e (headSpec w_x_statement ({ frames := 328 + d, cells := 0, slots := 0, locals := 10106 + 26 * d })).room s m #[.ref (a 0)] below meth c dC dI cy a A (qI dC dI cy a A below #[.ref (a 0)] s) 5 (x_GS k d 3 1) (fun L => [(0, .ref (a 0))]) 13 (fun L => [])) ∧ (bT p l e (headSpec w_x_statement ({ frames := 328 + d, cells := 0, slots := 0, locals := 10106 + 26 * d })).room s m #[.ref (a 0)] below meth c dC dI cy a A (qI dC dI cy a A below #[.ref (a 0)] s) 5 (x_GS k d 3 2) (fun L => [(0, .ref (a 0))]) 49 (fun L => [])) ∧ (bT p l e (headSpec w_x_statement ({ frames := 328 + d, cells := 0, slots := 0, locals := 10106 + 26 * d })).room s m #[.ref (a 0)] below meth c dC dI cy a A (qI dC dI cy a A below #[.ref (a 0)] s) 5 (x_GS k d 3 3) (fun L => [(0, .ref (a 0))]) 53 (fun L => [])) ∧ (bT p l e (headSpec w_x_statement ({ frames := 328 + d, cells := 0, slots := 0, locals := 10106 + 26 * d })).room s m #[.ref (a 0)] below meth c dC dI cy a A (qI dC dI cy a A below #[.ref (a 0)] s) 5 (x_GS k d 3 4) (fun L => [(0, .ref (a 0))]) 54 (fun L => [.int (L 100)])) ∧ (bT p l e (headSpec w_x_statement ({ frames := 328 + d, cells := 0, slots := 0, locals := 10106 + 26 * d })).room s m #[.ref (a 0)] below meth c dC dI cy a A (qI dC dI cy a A below #[.ref (a 0)] s) 5 (x_GS k d 3 5) (fun L => [(0, .ref (a 0)), (1, .int (L 1))]) 77 (fun L => [])) ∧ (bT p l e (headSpec w_x_statement ({ frames := 328 + d, cells := 0, slots := 0, locals := 10106 + 26 * d })).room s m #[.ref (a 0)] below meth c dC dI cy a A (qI dC dI cy a A below #[.ref (a 0)] s) 5 (x_GS k d 3 6) (fun L => [(0, .ref (a 0)), (1, .int (L 1))]) 104 (fun L => [])) ∧ (bT p l e (headSpec w_x_statement ({ frames := 328 + d, cells := 0, slots := 0, locals := 10106 + 26 * d })).room s m #[.ref (a 0)] below meth c dC dI cy a A (qI dC dI cy a A below #[.ref (a 0)] s) 5 (x_GS k d 3 7) (fun L => [(0, .ref (a 0)), (1, .int (L 1))]) 113 (fun L => [])) ∧ (bT p l e (headSpec w_x_statement ({ frames := 328 + d, cells := 0, slots := 0, locals := 10106 + 26 * d })).room s m #[.ref (a 0)] below meth c dC dI cy a A (qI dC dI cy a A below #[.ref (a 0)] s) 5 (x_GS k d 3 8) (fun L => [(0, .ref (a 0)), (1, .int (L 1)), (2, .int (L 2))]) 128 (fun L => [])) ∧ (bT p l e (headSpec w_x_statement ({ frames := 328 + d, cells := 0, slots := 0, locals := 10106 + 26 * d })).room s m #[.ref (a 0)] below meth c dC dI cy a A (qI dC dI cy a A below #[.ref (a 0)] s) 5 (x_GS k d 3 9) (fun L => [(0, .ref (a 0)), (1, .int (L 1)), (2, .int (L 2)), (3, .int (L 3)), (4, .int (L 4))]) 153 (fun L => [])) ∧ (bT p l e (headSpec w_x_statement ({ frames := 328 + d, cells := 0, slots := 0, locals := 10106 + 26 * d })).room s m #[.ref (a 0)] below meth c dC dI cy a A (qI dC dI cy a A below #[.ref (a 0)] s) 5 (x_GS k d 3 10) (fun L => [(0, .ref (a 0)), (1, .int (L 1)), (2, .int (L 2)), (3, .int (L 3)), (4, .int (L 4))]) 171 (fun L => [])) ∧ (bT p l e (headSpec w_x_statement ({ frames := 328 + d, cells := 0, slots := 0, locals := 10106 + 26 * d })).room s m #[.ref (a 0)] below meth c dC dI cy a A (qI dC dI cy a A below #[.ref (a 0)] s) 5 (x_GS k d 3 11) (fun L => [(0, .ref (a 0)), (1, .int (L 1)), (2, .int (L 2)), (3, .int (L 3)), (4, .int (L 4))]) 189 (fun L => [])) ∧ (bT p l e (headSpec w_x_statement ({ frames := 328 + d, cells := 0, slots := 0, locals := 10106 + 26 * d })).room s m #[.ref (a 0)] below meth c dC dI cy a A (qI dC dI cy a A below #[.ref (a 0)] s) 5 (x_GS k d 3 12) (fun L => [(0, .ref (a 0)), (1, .int (L 1)), (2, .int (L 2)), (3, .int (L 3)), (4, .int (L 4))]) 207 (fun L => [])) ∧ (bT p l e (headSpec w_x_statement ({ frames := 328 + d, cells := 0, slots := 0, locals := 10106 + 26 * d })).room s m #[.ref (a 0)] below meth c dC dI cy a A (qI dC dI cy a A below #[.ref (a 0)] s) 5 (x_GS k d 3 13) (fun L => [(0, .ref (a 0)), (1, .int (L 1)), (2, .int (L 2)), (3, .int (L 3)), (4, .int (L 4))]) 225 (fun L => [])) ∧ (bT p l e (headSpec w_x_statement ({ frames := 328 + d, cells := 0, slots := 0, locals := 10106 + 26 * d })).room s m #[.ref (a 0)] below meth c dC dI cy a A (qI dC dI cy a A below #[.ref (a 0)] s) 5 (x_GS k d 3 14) (fun L => [(0, .ref (a 0)), (1, .int (L 1)), (2, .int (L 2)), (3, .int (L 3)), (4, .int (L 4))]) 231 (fun L => [])) ∧ (bT p l e (headSpec w_x_statement ({ frames := 328 + d, cells := 0, slots := 0, locals := 10106 + 26 * d })).room s m #[.ref (a 0)] below meth c dC dI cy a A (qI dC dI cy a A below #[.ref (a 0)] s) 5 (x_GS k d 3 15) (fun L => [(0, .ref (a 0)), (1, .int (L 1)), (2, .int (L 2)), (3, .int (L 3)), (4, .int (L 4))]) 239 (fun L => [])) ∧ (bT p l e (headSpec w_x_statement ({ frames := 328 + d, cells := 0, slots := 0, locals := 10106 + 26 * d })).room s m #[.ref (a 0)] below meth c dC dI cy a A (qI dC dI cy a A below #[.ref (a 0)] s) 5 (x_GS k d 3 16) (fun L => [(0, .ref (a 0)), (1, .int (L 1)), (2, .int (L 2)), (3, .int (L 3)), (4, .int (L 4))]) 246 (fun L => [])) := by
    intro k
    induction k with
    | zero => exact fun _ => ⟨fun L σ r h => (by cases h), fun L σ r h => (by cases h), fun L σ r h => (by cases h), fun L σ r h => (by cases h), fun L σ r h => (by cases h), fun L σ r h => (by cases h), fun L σ r h => (by cases h), fun L σ r h => (by cases h), fun L σ r h => (by cases h), fun L σ r h => (by cases h), fun L σ r h => (by cases h), fun L σ r h => (by cases h), fun L σ r h => (by cases h), fun L σ r h => (by cases h), fun L σ r h => (by cases h), fun L σ r h => (by cases h), fun L σ r h => (by cases h)⟩
    | succ k ih =>
      intro hk
      replace ih := ih (by omega)
      refine ⟨?_, ?_, ?_, ?_, ?_, ?_, ?_, ?_, ?_, ?_, ?_, ?_, ?_, ?_, ?_, ?_, ?_⟩
      · intro L σ r h H locs ls hP hD hS hl
        rw [x_GS_3, s_statement_0] at h
        refine lv_aload_n hx hb dX12_statement_0 rfl (lv_at hl 0 rfl) ?_
        obtain ⟨r1, hc1, h⟩ := ob_ex h
        refine nc_Vi (As := []) (rest := []) ⟨hx, hb, hml, hown, hts⟩ (c_x_isStatement l dC dI cy a k (fun _ => 0) σ r1 hc1 H.size) (cwV 0 hts g_x_statement_isStatement_294 rfl rfl rfl hd_x_isStatement (by show 1 + 1 ≤ 328 + d ∧ 8 + (1 + 11) + 21 ≤ 10106 + 26 * d; omega)) hK hG hA hP hD hS rfl hl.1 rfl (Nat.le_of_ble_eq_true rfl) dX12_statement_1 ⟨Nat.le_refl _, Nat.le_refl _⟩ (fun H locs hP hD hS => ?_)
        refine lv_if_ne (tgt := 13) hx hb dX12_statement_4 (by decide) (fun c2 => ?_) (fun c2 => ?_)
        · rw [if_neg c2] at h
          exact ih.2.1 L r1.2 r h H locs ls hP hD hS (lv_sub hl [0] rfl)
        · rw [if_pos c2] at h
          refine lv_aload_n hx hb dX12_statement_7 rfl (lv_at hl 0 rfl) ?_
          obtain ⟨r3, hc3, h⟩ := ob_ex h
          refine nc_Vv (As := []) (rest := []) ⟨hx, hb, hml, hown, hts⟩ (c_x_cannot l dC dI cy a k (fun _ => 0) r1.2 r3 hc3 H.size) (cwV 0 hts g_x_statement_cannot_68 rfl rfl rfl hd_x_cannot (by show 1 + 1 ≤ 328 + d ∧ 8 + (1 + 11) + 22 ≤ 10106 + 26 * d; omega)) hK hG hA hP hD hS rfl hl.1 rfl (Nat.le_of_ble_eq_true rfl) dX12_statement_8 ⟨Nat.le_refl _, Nat.le_refl _⟩ (fun H locs hP hD hS => ?_)
          refine lv_iconst (v := 0) hx hb dX12_statement_11 (by decide) ?_
          cases h
          exact W.iret (v := 0) hx hb hr (fun t ht hW => ⟨⟨0, (), rfl, rfl, by rw [ht]; exact hP, va_K.moved hW.alike hK, hD⟩, hS.F ht⟩) hS.2.2 dX12_statement_12
      · intro L σ r h H locs ls hP hD hS hl
        rw [x_GS_3, s_statement_1] at h
        refine lv_aload_n hx hb dX12_statement_13 rfl (lv_at hl 0 rfl) ?_
        refine lv_bipush (v := 7) hx hb dX12_statement_14 (by decide) ?_
        obtain ⟨r1, hc1, h⟩ := ob_ex h
        refine nc_Vi (As := [.int 7]) (rest := []) ⟨hx, hb, hml, hown, hts⟩ (c_x_isWord l dC dI cy a k (upd (fun _ => 0) 1 7) σ r1 hc1 H.size) (cwV 1 hts g_x_statement_isWord_74 rfl rfl rfl hd_x_isWord (by show 0 + 1 ≤ 328 + d ∧ 8 + (2 + 11) + 0 ≤ 10106 + 26 * d; omega)) hK hG hA hP hD hS rfl hl.1 rfl (Nat.le_of_ble_eq_true rfl) dX12_statement_16 ⟨Nat.le_refl _, Nat.le_refl _⟩ (fun H locs hP hD hS => ?_)
        refine lv_if_ne (tgt := 49) hx hb dX12_statement_19 (by decide) (fun c2 => ?_) (fun c2 => ?_)
        · rw [if_neg c2] at h
          exact ih.2.2.1 L r1.2 r h H locs ls hP hD hS (lv_sub hl [0] rfl)
        · rw [if_pos c2] at h
          refine lv_aload_n hx hb dX12_statement_22 rfl (lv_at hl 0 rfl) ?_
          refine lv_bipush (v := 11) hx hb dX12_statement_23 (by decide) ?_
          obtain ⟨r3, hc3, h⟩ := ob_ex h
          refine nc_Vi (As := [.int 11]) (rest := []) ⟨hx, hb, hml, hown, hts⟩ (c_x_isWord l dC dI cy a k (upd (fun _ => 0) 1 11) r1.2 r3 hc3 H.size) (cwV 1 hts g_x_statement_isWord_74 rfl rfl rfl hd_x_isWord (by show 0 + 1 ≤ 328 + d ∧ 8 + (2 + 11) + 0 ≤ 10106 + 26 * d; omega)) hK hG hA hP hD hS rfl hl.1 rfl (Nat.le_of_ble_eq_true rfl) dX12_statement_25 ⟨Nat.le_refl _, Nat.le_refl _⟩ (fun H locs hP hD hS => ?_)
          refine lv_if_ne (tgt := 49) hx hb dX12_statement_28 (by decide) (fun c4 => ?_) (fun c4 => ?_)
          · rw [if_neg c4] at h
            exact ih.2.2.1 L r3.2 r h H locs ls hP hD hS (lv_sub hl [0] rfl)
          · rw [if_pos c4] at h
            refine lv_aload_n hx hb dX12_statement_31 rfl (lv_at hl 0 rfl) ?_
            refine lv_bipush (v := 13) hx hb dX12_statement_32 (by decide) ?_
            obtain ⟨r5, hc5, h⟩ := ob_ex h
            refine nc_Vi (As := [.int 13]) (rest := []) ⟨hx, hb, hml, hown, hts⟩ (c_x_isWord l dC dI cy a k (upd (fun _ => 0) 1 13) r3.2 r5 hc5 H.size) (cwV 1 hts g_x_statement_isWord_74 rfl rfl rfl hd_x_isWord (by show 0 + 1 ≤ 328 + d ∧ 8 + (2 + 11) + 0 ≤ 10106 + 26 * d; omega)) hK hG hA hP hD hS rfl hl.1 rfl (Nat.le_of_ble_eq_true rfl) dX12_statement_34 ⟨Nat.le_refl _, Nat.le_refl _⟩ (fun H locs hP hD hS => ?_)
            refine lv_if_ne (tgt := 49) hx hb dX12_statement_37 (by decide) (fun c6 => ?_) (fun c6 => ?_)
            · rw [if_neg c6] at h
              exact ih.2.2.1 L r5.2 r h H locs ls hP hD hS (lv_sub hl [0] rfl)
            · rw [if_pos c6] at h
              refine lv_aload_n hx hb dX12_statement_40 rfl (lv_at hl 0 rfl) ?_
              refine lv_bipush (v := 10) hx hb dX12_statement_41 (by decide) ?_
              obtain ⟨r7, hc7, h⟩ := ob_ex h
              refine nc_Vi (As := [.int 10]) (rest := []) ⟨hx, hb, hml, hown, hts⟩ (c_x_isSign l dC dI cy a k (upd (fun _ => 0) 1 10) r5.2 r7 hc7 H.size) (cwV 1 hts g_x_statement_isSign_65 rfl rfl rfl hd_x_isSign (by show 0 + 1 ≤ 328 + d ∧ 8 + (2 + 11) + 0 ≤ 10106 + 26 * d; omega)) hK hG hA hP hD hS rfl hl.1 rfl (Nat.le_of_ble_eq_true rfl) dX12_statement_43 ⟨Nat.le_refl _, Nat.le_refl _⟩ (fun H locs hP hD hS => ?_)
              refine lv_if_eq (tgt := 53) hx hb dX12_statement_46 (by decide) (fun c8 => ?_) (fun c8 => ?_)
              · rw [if_pos c8] at h
                exact ih.2.2.2.1 L r7.2 r h H locs ls hP hD hS (lv_sub hl [0] rfl)
              · rw [if_neg c8] at h
                exact ih.2.2.1 L r7.2 r h H locs ls hP hD hS (lv_sub hl [0] rfl)
      · intro L σ r h H locs ls hP hD hS hl
        rw [x_GS_3, s_statement_2] at h
        refine lv_iconst (v := 1) hx hb dX12_statement_49 (by decide) ?_
        refine lv_goto (tgt := 54) hx hb dX12_statement_50 (by decide) ?_
        exact ih.2.2.2.2.1 (upd L 100 1) σ r h H locs ls hP hD hS (lv_sub hl [0] rfl)
      · intro L σ r h H locs ls hP hD hS hl
        rw [x_GS_3, s_statement_3] at h
        refine lv_iconst (v := 0) hx hb dX12_statement_53 (by decide) ?_
        exact ih.2.2.2.2.1 (upd L 100 0) σ r h H locs ls hP hD hS (lv_sub hl [0] rfl)
      · intro L σ r h H locs ls hP hD hS hl
        rw [x_GS_3, s_statement_4] at h
        refine lv_istore_n (lv' := [(1, .int (L 100)), (0, .ref (a 0))]) hx hb dX12_statement_54 rfl hl (by decide) rfl (fun ls hl => ?_)
        refine lv_iload_n hx hb dX12_statement_55 rfl (lv_at hl 0 rfl) ?_
        refine lv_if_eq (tgt := 77) hx hb dX12_statement_56 (by decide) (fun c1 => ?_) (fun c1 => ?_)
        · rw [if_pos c1] at h
          exact ih.2.2.2.2.2.1 (upd L 1 ((L 100))) σ r h H locs ls hP hD hS (lv_sub hl [1, 0] rfl)
        · rw [if_neg c1] at h
          refine lv_aload_n hx hb dX12_statement_59 rfl (lv_at hl 1 rfl) ?_
          refine ng_13 hx hb hts in_x_statement hown hK hP (hts _ (List.mem_cons_of_mem _ (List.mem_append_left _ (List.mem_append_left _ (List.mem_of_getElem? (i := 19) rfl))))) dX12_statement_60 ?_
          refine lv_bipush (v := 20) hx hb dX12_statement_63 (by decide) ?_
          refine lv_icmp_ne (tgt := 77) hx hb dX12_statement_65 (by decide) (fun c2 => ?_) (fun c2 => ?_)
          · rw [if_neg c2] at h
            exact ih.2.2.2.2.2.1 (upd L 1 ((L 100))) σ r h H locs ls hP hD hS (lv_sub hl [1, 0] rfl)
          · rw [if_pos c2] at h
            refine lv_aload_n hx hb dX12_statement_68 rfl (lv_at hl 1 rfl) ?_
            refine lv_iconst (v := 3) hx hb dX12_statement_69 (by decide) ?_
            refine lv_aload_n hx hb dX12_statement_70 rfl (lv_at hl 1 rfl) ?_
            refine ng_8 hx hb hts in_x_statement hown hK hP (hts _ (List.mem_cons_of_mem _ (List.mem_append_left _ (List.mem_append_left _ (List.mem_of_getElem? (i := 55) rfl))))) dX12_statement_71 ?_
            obtain ⟨r3, hc3, h⟩ := ob_ex h
            refine nc_Vv (As := [.int 3, .int (σ.1 8)]) (rest := []) ⟨hx, hb, hml, hown, hts⟩ (c_x_fault l dC dI cy a k (upd (upd (fun _ => 0) 1 3) 2 ((σ.1 8))) σ r3 hc3 H.size) (cwV 2 hts g_x_statement_fault_58 rfl rfl rfl hd_x_fault (by show 0 + 1 ≤ 328 + d ∧ 8 + (3 + 11) + 0 ≤ 10106 + 26 * d; omega)) hK hG hA hP hD hS rfl hl.1 rfl (Nat.le_of_ble_eq_true rfl) dX12_statement_74 ⟨Nat.le_refl _, Nat.le_refl _⟩ (fun H locs hP hD hS => ?_)
            exact ih.2.2.2.2.2.1 (upd L 1 ((L 100))) r3.2 r h H locs ls hP hD hS (lv_sub hl [1, 0] rfl)
      · intro L σ r h H locs ls hP hD hS hl
        rw [x_GS_3, s_statement_5] at h
        refine lv_aload_n hx hb dX12_statement_77 rfl (lv_at hl 0 rfl) ?_
        refine ng_10 hx hb hts in_x_statement hown hK hP (hts _ (List.mem_cons_of_mem _ (List.mem_append_left _ (List.mem_append_left _ (List.mem_of_getElem? (i := 5) rfl))))) dX12_statement_78 ?_
        refine lv_if_ne (tgt := 104) hx hb dX12_statement_81 (by decide) (fun c1 => ?_) (fun c1 => ?_)
        · rw [if_neg c1] at h
          exact ih.2.2.2.2.2.2.1 L σ r h H locs ls hP hD hS (lv_sub hl [0, 1] rfl)
        · rw [if_pos c1] at h
          refine lv_aload_n hx hb dX12_statement_84 rfl (lv_at hl 0 rfl) ?_
          refine ng_44 hx hb hts in_x_statement hown hK hP (hts _ (List.mem_cons_of_mem _ (List.mem_append_left _ (List.mem_append_left _ (List.mem_of_getElem? (i := 59) rfl))))) dX12_statement_85 ?_
          refine lv_sipush (v := 400) hx hb dX12_statement_88 (by decide) ?_
          refine lv_icmp_ne (tgt := 104) hx hb dX12_statement_91 (by decide) (fun c2 => ?_) (fun c2 => ?_)
          · rw [if_neg c2] at h
            exact ih.2.2.2.2.2.2.1 L σ r h H locs ls hP hD hS (lv_sub hl [0, 1] rfl)
          · rw [if_pos c2] at h
            refine lv_aload_n hx hb dX12_statement_94 rfl (lv_at hl 0 rfl) ?_
            refine lv_bipush (v := 8) hx hb dX12_statement_95 (by decide) ?_
            refine lv_aload_n hx hb dX12_statement_97 rfl (lv_at hl 0 rfl) ?_
            refine ng_8 hx hb hts in_x_statement hown hK hP (hts _ (List.mem_cons_of_mem _ (List.mem_append_left _ (List.mem_append_left _ (List.mem_of_getElem? (i := 55) rfl))))) dX12_statement_98 ?_
            obtain ⟨r3, hc3, h⟩ := ob_ex h
            refine nc_Vv (As := [.int 8, .int (σ.1 8)]) (rest := []) ⟨hx, hb, hml, hown, hts⟩ (c_x_fault l dC dI cy a k (upd (upd (fun _ => 0) 1 8) 2 ((σ.1 8))) σ r3 hc3 H.size) (cwV 2 hts g_x_statement_fault_58 rfl rfl rfl hd_x_fault (by show 0 + 1 ≤ 328 + d ∧ 8 + (3 + 11) + 0 ≤ 10106 + 26 * d; omega)) hK hG hA hP hD hS rfl hl.1 rfl (Nat.le_of_ble_eq_true rfl) dX12_statement_101 ⟨Nat.le_refl _, Nat.le_refl _⟩ (fun H locs hP hD hS => ?_)
            exact ih.2.2.2.2.2.2.1 L r3.2 r h H locs ls hP hD hS (lv_sub hl [0, 1] rfl)
      · intro L σ r h H locs ls hP hD hS hl
        rw [x_GS_3, s_statement_6] at h
        refine lv_aload_n hx hb dX12_statement_104 rfl (lv_at hl 0 rfl) ?_
        refine ng_10 hx hb hts in_x_statement hown hK hP (hts _ (List.mem_cons_of_mem _ (List.mem_append_left _ (List.mem_append_left _ (List.mem_of_getElem? (i := 5) rfl))))) dX12_statement_105 ?_
        refine lv_if_eq (tgt := 113) hx hb dX12_statement_108 (by decide) (fun c1 => ?_) (fun c1 => ?_)
        · rw [if_pos c1] at h
          exact ih.2.2.2.2.2.2.2.1 L σ r h H locs ls hP hD hS (lv_sub hl [0, 1] rfl)
        · rw [if_neg c1] at h
          refine lv_iconst (v := 0) hx hb dX12_statement_111 (by decide) ?_
          cases h
          exact W.iret (v := 0) hx hb hr (fun t ht hW => ⟨⟨0, (), rfl, rfl, by rw [ht]; exact hP, va_K.moved hW.alike hK, hD⟩, hS.F ht⟩) hS.2.2 dX12_statement_112
      · intro L σ r h H locs ls hP hD hS hl
        rw [x_GS_3, s_statement_7] at h
        refine lv_aload_n hx hb dX12_statement_113 rfl (lv_at hl 0 rfl) ?_
        refine ng_44 hx hb hts in_x_statement hown hK hP (hts _ (List.mem_cons_of_mem _ (List.mem_append_left _ (List.mem_append_left _ (List.mem_of_getElem? (i := 59) rfl))))) dX12_statement_114 ?_
        refine lv_istore_n (lv' := [(2, .int (σ.1 44)), (0, .ref (a 0)), (1, .int (L 1))]) hx hb dX12_statement_117 rfl hl (by decide) rfl (fun ls hl => ?_)
        refine lv_aload_n hx hb dX12_statement_118 rfl (lv_at hl 1 rfl) ?_
        refine lv_dup hx hb dX12_statement_119 rfl ?_
        refine ng_44 hx hb hts in_x_statement hown hK hP (hts _ (List.mem_cons_of_mem _ (List.mem_append_left _ (List.mem_append_left _ (List.mem_of_getElem? (i := 59) rfl))))) dX12_statement_120 ?_
        refine lv_iconst (v := 1) hx hb dX12_statement_123 (by decide) ?_
        refine lv_iadd hx hb dX12_statement_124 ?_
        refine np_44 hx hb hts in_x_statement hown hK hP hD hS (hts _ (List.mem_cons_of_mem _ (List.mem_append_left _ (List.mem_append_left _ (List.mem_of_getElem? (i := 59) rfl))))) dX12_statement_125 (fun H locs hP hD hS => ?_)
        exact ih.2.2.2.2.2.2.2.2.1 (upd L 2 ((σ.1 44))) (upd σ.1 44 ((((σ.1 44)) + 1)), σ.2.1, σ.2.2) r h H locs ls hP hD hS (lv_sub hl [1, 2, 0] rfl)
      · intro L σ r h H locs ls hP hD hS hl
        rw [x_GS_3, s_statement_8] at h
        refine lv_aload_n hx hb dX12_statement_128 rfl (lv_at hl 0 rfl) ?_
        refine ng_8 hx hb hts in_x_statement hown hK hP (hts _ (List.mem_cons_of_mem _ (List.mem_append_left _ (List.mem_append_left _ (List.mem_of_getElem? (i := 55) rfl))))) dX12_statement_129 ?_
        refine lv_istore_n (lv' := [(3, .int (σ.1 8)), (0, .ref (a 0)), (1, .int (L 1)), (2, .int (L 2))]) hx hb dX12_statement_132 rfl hl (by decide) rfl (fun ls hl => ?_)
        refine lv_iconst (v := 0) hx hb dX12_statement_133 (by decide) ?_
        refine lv_istore (lv' := [(4, .int 0), (3, .int (σ.1 8)), (0, .ref (a 0)), (1, .int (L 1)), (2, .int (L 2))]) hx hb dX12_statement_134 hl (by decide) rfl (fun ls hl => ?_)
        refine lv_aload_n hx hb dX12_statement_136 rfl (lv_at hl 2 rfl) ?_
        refine ng_6 hx hb hts in_x_statement hown hK hP (hts _ (List.mem_cons_of_mem _ (List.mem_append_left _ (List.mem_append_left _ (List.mem_of_getElem? (i := 60) rfl))))) dX12_statement_137 ?_
        refine lv_iconst (v := 1) hx hb dX12_statement_140 (by decide) ?_
        refine lv_icmp_ne (tgt := 153) hx hb dX12_statement_141 (by decide) (fun c1 => ?_) (fun c1 => ?_)
        · rw [if_neg c1] at h
          exact ih.2.2.2.2.2.2.2.2.2.1 (upd (upd L 3 ((σ.1 8))) 4 0) σ r h H locs ls hP hD hS (lv_sub hl [2, 3, 4, 1, 0] rfl)
        · rw [if_pos c1] at h
          refine lv_aload_n hx hb dX12_statement_144 rfl (lv_at hl 2 rfl) ?_
          obtain ⟨r2, hc2, h⟩ := ob_ex h
          refine nc_Vi (As := []) (rest := []) ⟨hx, hb, hml, hown, hts⟩ (c_x_begun l dC dI cy a k (fun _ => 0) σ r2 hc2 H.size) (cwV 0 hts g_x_statement_begun_300 rfl rfl rfl hd_x_begun (by show 327 + 1 ≤ 328 + d ∧ 8 + (4 + 11) + 10082 ≤ 10106 + 26 * d; omega)) hK hG hA hP hD hS rfl hl.1 rfl (Nat.le_of_ble_eq_true rfl) dX12_statement_145 ⟨Nat.le_refl _, Nat.le_refl _⟩ (fun H locs hP hD hS => ?_)
          refine lv_istore (lv' := [(4, .int r2.1), (3, .int (σ.1 8)), (0, .ref (a 0)), (1, .int (L 1)), (2, .int (L 2))]) hx hb dX12_statement_148 hl (by decide) rfl (fun ls hl => ?_)
          refine lv_goto (tgt := 231) hx hb dX12_statement_150 (by decide) ?_
          exact ih.2.2.2.2.2.2.2.2.2.2.2.2.2.2.1 (upd (upd L 3 ((σ.1 8))) 4 r2.1) r2.2 r h H locs ls hP hD hS (lv_sub hl [2, 3, 4, 1, 0] rfl)
      · intro L σ r h H locs ls hP hD hS hl
        rw [x_GS_3, s_statement_9] at h
        refine lv_aload_n hx hb dX12_statement_153 rfl (lv_at hl 0 rfl) ?_
        refine lv_bipush (v := 10) hx hb dX12_statement_154 (by decide) ?_
        obtain ⟨r1, hc1, h⟩ := ob_ex h
        refine nc_Vi (As := [.int 10]) (rest := []) ⟨hx, hb, hml, hown, hts⟩ (c_x_isSign l dC dI cy a k (upd (fun _ => 0) 1 10) σ r1 hc1 H.size) (cwV 1 hts g_x_statement_isSign_65 rfl rfl rfl hd_x_isSign (by show 0 + 1 ≤ 328 + d ∧ 8 + (2 + 11) + 0 ≤ 10106 + 26 * d; omega)) hK hG hA hP hD hS rfl hl.1 rfl (Nat.le_of_ble_eq_true rfl) dX12_statement_156 ⟨Nat.le_refl _, Nat.le_refl _⟩ (fun H locs hP hD hS => ?_)
        refine lv_if_eq (tgt := 171) hx hb dX12_statement_159 (by decide) (fun c2 => ?_) (fun c2 => ?_)
        · rw [if_pos c2] at h
          exact ih.2.2.2.2.2.2.2.2.2.2.1 L r1.2 r h H locs ls hP hD hS (lv_sub hl [0, 1, 2, 3, 4] rfl)
        · rw [if_neg c2] at h
          refine lv_aload_n hx hb dX12_statement_162 rfl (lv_at hl 0 rfl) ?_
          obtain ⟨r3, hc3, h⟩ := ob_ex h
          refine nc_Vi (As := []) (rest := []) ⟨hx, hb, hml, hown, hts⟩ (c_x_partsOf l dC dI cy a k (fun _ => 0) r1.2 r3 hc3 H.size) (cwV 0 hts g_x_statement_partsOf_303 rfl rfl rfl hd_x_partsOf (by show 327 + 1 ≤ 328 + d ∧ 8 + (5 + 11) + 10082 ≤ 10106 + 26 * d; omega)) hK hG hA hP hD hS rfl hl.1 rfl (Nat.le_of_ble_eq_true rfl) dX12_statement_163 ⟨Nat.le_refl _, Nat.le_refl _⟩ (fun H locs hP hD hS => ?_)
          refine lv_istore (lv' := [(4, .int r3.1), (0, .ref (a 0)), (1, .int (L 1)), (2, .int (L 2)), (3, .int (L 3))]) hx hb dX12_statement_166 hl (by decide) rfl (fun ls hl => ?_)
          refine lv_goto (tgt := 231) hx hb dX12_statement_168 (by decide) ?_
          exact ih.2.2.2.2.2.2.2.2.2.2.2.2.2.2.1 (upd L 4 r3.1) r3.2 r h H locs ls hP hD hS (lv_sub hl [1, 2, 3, 4, 0] rfl)
      · intro L σ r h H locs ls hP hD hS hl
        rw [x_GS_3, s_statement_10] at h
        refine lv_aload_n hx hb dX12_statement_171 rfl (lv_at hl 0 rfl) ?_
        refine ng_7 hx hb hts in_x_statement hown hK hP (hts _ (List.mem_cons_of_mem _ (List.mem_append_left _ (List.mem_append_left _ (List.mem_of_getElem? (i := 67) rfl))))) dX12_statement_172 ?_
        refine lv_bipush (v := 7) hx hb dX12_statement_175 (by decide) ?_
        refine lv_icmp_ne (tgt := 189) hx hb dX12_statement_177 (by decide) (fun c1 => ?_) (fun c1 => ?_)
        · rw [if_neg c1] at h
          exact ih.2.2.2.2.2.2.2.2.2.2.2.1 L σ r h H locs ls hP hD hS (lv_sub hl [0, 1, 2, 3, 4] rfl)
        · rw [if_pos c1] at h
          refine lv_aload_n hx hb dX12_statement_180 rfl (lv_at hl 0 rfl) ?_
          obtain ⟨e2, he2, h⟩ := od_ex h
          obtain ⟨r2, hc2, h⟩ := ob_ex h
          refine nc_Vi (As := []) (rest := []) ⟨hx, hb, hml, hown, hts⟩ ((IH k (by omega)).2.2.1 e2 (fun _ => 0) σ r2 hc2 H.size) (cwV 0 hts g_x_statement_ifs_306 rfl rfl rfl hd_x_ifs (by show (328 + e2) + 1 ≤ 328 + d ∧ 8 + (7 + 11) + (10106 + 26 * e2) ≤ 10106 + 26 * d; omega)) hK hG hA hP hD hS rfl hl.1 rfl (Nat.le_of_ble_eq_true rfl) dX12_statement_181 ⟨Nat.le_refl _, Nat.le_refl _⟩ (fun H locs hP hD hS => ?_)
          refine lv_istore (lv' := [(4, .int r2.1), (0, .ref (a 0)), (1, .int (L 1)), (2, .int (L 2)), (3, .int (L 3))]) hx hb dX12_statement_184 hl (by decide) rfl (fun ls hl => ?_)
          refine lv_goto (tgt := 231) hx hb dX12_statement_186 (by decide) ?_
          exact ih.2.2.2.2.2.2.2.2.2.2.2.2.2.2.1 (upd L 4 r2.1) r2.2 r h H locs ls hP hD hS (lv_sub hl [1, 2, 3, 4, 0] rfl)
      · intro L σ r h H locs ls hP hD hS hl
        rw [x_GS_3, s_statement_11] at h
        refine lv_aload_n hx hb dX12_statement_189 rfl (lv_at hl 0 rfl) ?_
        refine ng_7 hx hb hts in_x_statement hown hK hP (hts _ (List.mem_cons_of_mem _ (List.mem_append_left _ (List.mem_append_left _ (List.mem_of_getElem? (i := 67) rfl))))) dX12_statement_190 ?_
        refine lv_bipush (v := 11) hx hb dX12_statement_193 (by decide) ?_
        refine lv_icmp_ne (tgt := 207) hx hb dX12_statement_195 (by decide) (fun c1 => ?_) (fun c1 => ?_)
        · rw [if_neg c1] at h
          exact ih.2.2.2.2.2.2.2.2.2.2.2.2.1 L σ r h H locs ls hP hD hS (lv_sub hl [0, 1, 2, 3, 4] rfl)
        · rw [if_pos c1] at h
          refine lv_aload_n hx hb dX12_statement_198 rfl (lv_at hl 0 rfl) ?_
          obtain ⟨e2, he2, h⟩ := od_ex h
          obtain ⟨r2, hc2, h⟩ := ob_ex h
          refine nc_Vi (As := []) (rest := []) ⟨hx, hb, hml, hown, hts⟩ ((IH k (by omega)).2.2.2.2 e2 (fun _ => 0) σ r2 hc2 H.size) (cwV 0 hts g_x_statement_whiles_309 rfl rfl rfl hd_x_whiles (by show (328 + e2) + 1 ≤ 328 + d ∧ 8 + (2 + 11) + (10106 + 26 * e2) ≤ 10106 + 26 * d; omega)) hK hG hA hP hD hS rfl hl.1 rfl (Nat.le_of_ble_eq_true rfl) dX12_statement_199 ⟨Nat.le_refl _, Nat.le_refl _⟩ (fun H locs hP hD hS => ?_)
          refine lv_istore (lv' := [(4, .int r2.1), (0, .ref (a 0)), (1, .int (L 1)), (2, .int (L 2)), (3, .int (L 3))]) hx hb dX12_statement_202 hl (by decide) rfl (fun ls hl => ?_)
          refine lv_goto (tgt := 231) hx hb dX12_statement_204 (by decide) ?_
          exact ih.2.2.2.2.2.2.2.2.2.2.2.2.2.2.1 (upd L 4 r2.1) r2.2 r h H locs ls hP hD hS (lv_sub hl [1, 2, 3, 4, 0] rfl)
      · intro L σ r h H locs ls hP hD hS hl
        rw [x_GS_3, s_statement_12] at h
        refine lv_aload_n hx hb dX12_statement_207 rfl (lv_at hl 0 rfl) ?_
        refine ng_7 hx hb hts in_x_statement hown hK hP (hts _ (List.mem_cons_of_mem _ (List.mem_append_left _ (List.mem_append_left _ (List.mem_of_getElem? (i := 67) rfl))))) dX12_statement_208 ?_
        refine lv_bipush (v := 13) hx hb dX12_statement_211 (by decide) ?_
        refine lv_icmp_ne (tgt := 225) hx hb dX12_statement_213 (by decide) (fun c1 => ?_) (fun c1 => ?_)
        · rw [if_neg c1] at h
          exact ih.2.2.2.2.2.2.2.2.2.2.2.2.2.1 L σ r h H locs ls hP hD hS (lv_sub hl [0, 1, 2, 3, 4] rfl)
        · rw [if_pos c1] at h
          refine lv_aload_n hx hb dX12_statement_216 rfl (lv_at hl 0 rfl) ?_
          obtain ⟨e2, he2, h⟩ := od_ex h
          obtain ⟨r2, hc2, h⟩ := ob_ex h
          refine nc_Vi (As := []) (rest := []) ⟨hx, hb, hml, hown, hts⟩ ((IH k (by omega)).2.1 e2 (fun _ => 0) σ r2 hc2 H.size) (cwV 0 hts g_x_statement_fors_312 rfl rfl rfl hd_x_fors (by show (328 + e2) + 1 ≤ 328 + d ∧ 8 + (3 + 11) + (10106 + 26 * e2) ≤ 10106 + 26 * d; omega)) hK hG hA hP hD hS rfl hl.1 rfl (Nat.le_of_ble_eq_true rfl) dX12_statement_217 ⟨Nat.le_refl _, Nat.le_refl _⟩ (fun H locs hP hD hS => ?_)
          refine lv_istore (lv' := [(4, .int r2.1), (0, .ref (a 0)), (1, .int (L 1)), (2, .int (L 2)), (3, .int (L 3))]) hx hb dX12_statement_220 hl (by decide) rfl (fun ls hl => ?_)
          refine lv_goto (tgt := 231) hx hb dX12_statement_222 (by decide) ?_
          exact ih.2.2.2.2.2.2.2.2.2.2.2.2.2.2.1 (upd L 4 r2.1) r2.2 r h H locs ls hP hD hS (lv_sub hl [1, 2, 3, 4, 0] rfl)
      · intro L σ r h H locs ls hP hD hS hl
        rw [x_GS_3, s_statement_13] at h
        refine lv_aload_n hx hb dX12_statement_225 rfl (lv_at hl 0 rfl) ?_
        obtain ⟨r1, hc1, h⟩ := ob_ex h
        refine nc_Vi (As := []) (rest := []) ⟨hx, hb, hml, hown, hts⟩ (c_x_simple l dC dI cy a k (fun _ => 0) σ r1 hc1 H.size) (cwV 0 hts g_x_statement_simple_315 rfl rfl rfl hd_x_simple (by show 326 + 1 ≤ 328 + d ∧ 8 + (6 + 11) + 10054 ≤ 10106 + 26 * d; omega)) hK hG hA hP hD hS rfl hl.1 rfl (Nat.le_of_ble_eq_true rfl) dX12_statement_226 ⟨Nat.le_refl _, Nat.le_refl _⟩ (fun H locs hP hD hS => ?_)
        refine lv_istore (lv' := [(4, .int r1.1), (0, .ref (a 0)), (1, .int (L 1)), (2, .int (L 2)), (3, .int (L 3))]) hx hb dX12_statement_229 hl (by decide) rfl (fun ls hl => ?_)
        exact ih.2.2.2.2.2.2.2.2.2.2.2.2.2.2.1 (upd L 4 r1.1) r1.2 r h H locs ls hP hD hS (lv_sub hl [1, 2, 3, 4, 0] rfl)
      · intro L σ r h H locs ls hP hD hS hl
        rw [x_GS_3, s_statement_14] at h
        refine lv_aload_n hx hb dX12_statement_231 rfl (lv_at hl 0 rfl) ?_
        refine ng_18 hx hb hts in_x_statement hown hK hP (hts _ (List.mem_cons_of_mem _ (List.mem_append_left _ (List.mem_append_left _ (List.mem_of_getElem? (i := 14) rfl))))) dX12_statement_232 ?_
        refine lv_iload hx hb dX12_statement_235 (lv_at hl 4 rfl) ?_
        refine lv_iload_n hx hb dX12_statement_237 rfl (lv_at hl 2 rfl) ?_
        obtain ⟨q1, h⟩ := nb_ite1 h
        refine ns_8 hx hb hK hP hD hS q1 dX12_statement_238 (fun H locs hP hD hS => ?_)
        exact ih.2.2.2.2.2.2.2.2.2.2.2.2.2.2.2.1 L (σ.1, σ.2.1, updG σ.2.2 8 (upd (σ.2.2 8) ((L 4)).toNatClampNeg ((L 2)))) r h H locs ls hP hD hS (lv_sub hl [0, 1, 2, 3, 4] rfl)
      · intro L σ r h H locs ls hP hD hS hl
        rw [x_GS_3, s_statement_15] at h
        refine lv_aload_n hx hb dX12_statement_239 rfl (lv_at hl 0 rfl) ?_
        refine ng_21 hx hb hts in_x_statement hown hK hP (hts _ (List.mem_cons_of_mem _ (List.mem_append_left _ (List.mem_append_left _ (List.mem_of_getElem? (i := 80) rfl))))) dX12_statement_240 ?_
        refine lv_iload_n hx hb dX12_statement_243 rfl (lv_at hl 2 rfl) ?_
        refine lv_iload_n hx hb dX12_statement_244 rfl (lv_at hl 3 rfl) ?_
        obtain ⟨q1, h⟩ := nb_ite1 h
        refine ns_11 hx hb hK hP hD hS q1 dX12_statement_245 (fun H locs hP hD hS => ?_)
        exact ih.2.2.2.2.2.2.2.2.2.2.2.2.2.2.2.2 L (σ.1, σ.2.1, updG σ.2.2 11 (upd (σ.2.2 11) ((L 2)).toNatClampNeg ((L 3)))) r h H locs ls hP hD hS (lv_sub hl [0, 1, 2, 3, 4] rfl)
      · intro L σ r h H locs ls hP hD hS hl
        rw [x_GS_3, s_statement_16] at h
        refine lv_iload hx hb dX12_statement_246 (lv_at hl 4 rfl) ?_
        cases h
        exact W.iret (v := (L 4)) hx hb hr (fun t ht hW => ⟨⟨(L 4), (), rfl, rfl, by rw [ht]; exact hP, va_K.moved hW.alike hK, hD⟩, hS.F ht⟩) hS.2.2 dX12_statement_248
  exact (blk k0 (Nat.le_refl _)).1 L0 σ0 r0 h0 s.heap [] ls hP hD hS hl
theorem gg_x_whiles_block : GoodIn w_x_whiles w_x_block := goodIn_sub (fun w h => (List.mem_cons.mp h).elim (fun e => e ▸ (List.mem_cons_of_mem _ (List.mem_append_left _ (List.mem_append_left _ (List.mem_of_getElem? (i := 0) rfl))))) (fun h => List.mem_cons_of_mem _ h)) w_x_block_good
theorem g_x_whiles_block_336 : GoodIn w_x_whiles (wsV RX12 336 RX12 yX12_block w_x_block) := goodIn_app (nb_g4 (List.mem_cons_of_mem _ (List.mem_append_left _ (List.mem_append_left _ (List.mem_of_getElem? (i := 40) rfl)))) (List.mem_cons_of_mem _ (List.mem_append_left _ (List.mem_append_left _ (List.mem_of_getElem? (i := 41) rfl)))) (List.mem_cons_of_mem _ (List.mem_append_left _ (List.mem_append_left _ (List.mem_of_getElem? (i := 42) rfl)))) (List.mem_cons_of_mem _ (List.mem_append_left _ (List.mem_append_left _ (List.mem_of_getElem? (i := 9) rfl)))) (by decide +kernel)) gg_x_whiles_block
theorem gg_x_whiles_exp : GoodIn w_x_whiles w_x_exp := goodIn_sub (fun w h => (List.mem_cons.mp h).elim (fun e => (List.mem_cons_of_mem _ (List.mem_append_left _ (List.mem_append_right _ (List.mem_append_right _ (List.mem_append_right _ (List.mem_append_right _ (List.mem_append_right _ (List.mem_append_right _ (List.mem_append_left _ (List.mem_cons.mpr (Or.inl e)))))))))))) (fun h => (List.mem_append.mp h).elim (fun h => (List.mem_cons_of_mem _ (List.mem_append_left _ (List.mem_append_right _ (List.mem_append_right _ (List.mem_append_right _ (List.mem_append_right _ (List.mem_append_right _ (List.mem_append_right _ (List.mem_append_left _ (List.mem_cons_of_mem _ h))))))))))) (fun h => List.mem_cons_of_mem _ (List.mem_append_right _ h)))) w_x_exp_good
theorem g_x_whiles_exp_209 : GoodIn w_x_whiles (wsV RX12 209 RX12 yX12_exp w_x_exp) := goodIn_app (nb_g4 (List.mem_cons_of_mem _ (List.mem_append_left _ (List.mem_append_left _ (List.mem_of_getElem? (i := 32) rfl)))) (List.mem_cons_of_mem _ (List.mem_append_left _ (List.mem_append_left _ (List.mem_of_getElem? (i := 33) rfl)))) (List.mem_cons_of_mem _ (List.mem_append_left _ (List.mem_append_left _ (List.mem_of_getElem? (i := 34) rfl)))) (List.mem_cons_of_mem _ (List.mem_append_left _ (List.mem_append_left _ (List.mem_of_getElem? (i := 9) rfl)))) (by decide +kernel)) gg_x_whiles_exp
theorem gg_x_whiles_node : GoodIn w_x_whiles w_x_node := goodIn_sub (fun w h => (List.mem_cons.mp h).elim (fun e => (List.mem_cons_of_mem _ (List.mem_append_left _ (List.mem_append_right _ (List.mem_append_right _ (List.mem_append_left _ (List.mem_cons.mpr (Or.inl e)))))))) (fun h => (List.mem_append.mp h).elim (fun h => (List.mem_cons_of_mem _ (List.mem_append_left _ (List.mem_append_right _ (List.mem_append_right _ (List.mem_append_left _ (List.mem_cons_of_mem _ h))))))) (fun h => List.mem_cons_of_mem _ (List.mem_append_right _ h)))) w_x_node_good
theorem g_x_whiles_node_101 : GoodIn w_x_whiles (wsV RX12 101 RX12 yX12_node w_x_node) := goodIn_app (nb_g4 (List.mem_cons_of_mem _ (List.mem_append_left _ (List.mem_append_left _ (List.mem_of_getElem? (i := 16) rfl)))) (List.mem_cons_of_mem _ (List.mem_append_left _ (List.mem_append_left _ (List.mem_of_getElem? (i := 17) rfl)))) (List.mem_cons_of_mem _ (List.mem_append_left _ (List.mem_append_left _ (List.mem_of_getElem? (i := 18) rfl)))) (List.mem_cons_of_mem _ (List.mem_append_left _ (List.mem_append_left _ (List.mem_of_getElem? (i := 9) rfl)))) (by decide +kernel)) gg_x_whiles_node
theorem gg_x_whiles_take : GoodIn w_x_whiles w_x_take := goodIn_sub (fun w h => (List.mem_cons.mp h).elim (fun e => (List.mem_cons_of_mem _ (List.mem_append_left _ (List.mem_append_right _ (List.mem_append_right _ (List.mem_append_right _ (List.mem_append_left _ (List.mem_cons.mpr (Or.inl e))))))))) (fun h => (List.mem_append.mp h).elim (fun h => (List.mem_cons_of_mem _ (List.mem_append_left _ (List.mem_append_right _ (List.mem_append_right _ (List.mem_append_right _ (List.mem_append_left _ (List.mem_cons_of_mem _ h)))))))) (fun h => List.mem_cons_of_mem _ (List.mem_append_right _ h)))) w_x_take_good
theorem g_x_whiles_take_71 : GoodIn w_x_whiles (wsV RX12 71 RX12 yX12_take w_x_take) := goodIn_app (nb_g4 (List.mem_cons_of_mem _ (List.mem_append_left _ (List.mem_append_left _ (List.mem_of_getElem? (i := 20) rfl)))) (List.mem_cons_of_mem _ (List.mem_append_left _ (List.mem_append_left _ (List.mem_of_getElem? (i := 21) rfl)))) (List.mem_cons_of_mem _ (List.mem_append_left _ (List.mem_append_left _ (List.mem_of_getElem? (i := 22) rfl)))) (List.mem_cons_of_mem _ (List.mem_append_left _ (List.mem_append_left _ (List.mem_of_getElem? (i := 9) rfl)))) (by decide +kernel)) gg_x_whiles_take
theorem gg_x_whiles_wantWord : GoodIn w_x_whiles w_x_wantWord := goodIn_sub (fun w h => (List.mem_cons.mp h).elim (fun e => (List.mem_cons_of_mem _ (List.mem_append_left _ (List.mem_append_right _ (List.mem_append_right _ (List.mem_append_right _ (List.mem_append_right _ (List.mem_append_right _ (List.mem_append_right _ (List.mem_append_right _ (List.mem_append_left _ (List.mem_cons.mpr (Or.inl e))))))))))))) (fun h => (List.mem_append.mp h).elim (fun h => (List.mem_cons_of_mem _ (List.mem_append_left _ (List.mem_append_right _ (List.mem_append_right _ (List.mem_append_right _ (List.mem_append_right _ (List.mem_append_right _ (List.mem_append_right _ (List.mem_append_right _ (List.mem_append_left _ (List.mem_cons_of_mem _ h)))))))))))) (fun h => List.mem_cons_of_mem _ (List.mem_append_right _ h)))) w_x_wantWord_good
theorem g_x_whiles_wantWord_253 : GoodIn w_x_whiles (wsV RX12 253 RX12 yX12_wantWord w_x_wantWord) := goodIn_app (nb_g4 (List.mem_cons_of_mem _ (List.mem_append_left _ (List.mem_append_left _ (List.mem_of_getElem? (i := 35) rfl)))) (List.mem_cons_of_mem _ (List.mem_append_left _ (List.mem_append_left _ (List.mem_of_getElem? (i := 36) rfl)))) (List.mem_cons_of_mem _ (List.mem_append_left _ (List.mem_append_left _ (List.mem_of_getElem? (i := 37) rfl)))) (List.mem_cons_of_mem _ (List.mem_append_left _ (List.mem_append_left _ (List.mem_of_getElem? (i := 9) rfl)))) (by decide +kernel)) gg_x_whiles_wantWord
theorem gg_x_whiles_want : GoodIn w_x_whiles w_x_want := goodIn_sub (fun w h => (List.mem_cons.mp h).elim (fun e => (List.mem_cons_of_mem _ (List.mem_append_left _ (List.mem_append_right _ (List.mem_append_right _ (List.mem_append_right _ (List.mem_append_right _ (List.mem_append_right _ (List.mem_append_right _ (List.mem_append_right _ (List.mem_append_right _ (List.mem_append_left _ (List.mem_cons.mpr (Or.inl e)))))))))))))) (fun h => (List.mem_append.mp h).elim (fun h => (List.mem_cons_of_mem _ (List.mem_append_left _ (List.mem_append_right _ (List.mem_append_right _ (List.mem_append_right _ (List.mem_append_right _ (List.mem_append_right _ (List.mem_append_right _ (List.mem_append_right _ (List.mem_append_right _ (List.mem_append_left _ (List.mem_cons_of_mem _ h))))))))))))) (fun h => List.mem_cons_of_mem _ (List.mem_append_right _ h)))) w_x_want_good
theorem g_x_whiles_want_199 : GoodIn w_x_whiles (wsV RX12 199 RX12 yX12_want w_x_want) := goodIn_app (nb_g4 (List.mem_cons_of_mem _ (List.mem_append_left _ (List.mem_append_left _ (List.mem_of_getElem? (i := 43) rfl)))) (List.mem_cons_of_mem _ (List.mem_append_left _ (List.mem_append_left _ (List.mem_of_getElem? (i := 44) rfl)))) (List.mem_cons_of_mem _ (List.mem_append_left _ (List.mem_append_left _ (List.mem_of_getElem? (i := 45) rfl)))) (List.mem_cons_of_mem _ (List.mem_append_left _ (List.mem_append_left _ (List.mem_of_getElem? (i := 9) rfl)))) (by decide +kernel)) gg_x_whiles_want
set_option maxHeartbeats 40000000 in
set_option maxRecDepth 100000 in
theorem c_s_whiles (l : Launch) (dC : Nat → ClassId) (dI : Nat → Nat → Nat) (cy : Nat → ClassId) (a : Nat → Nat) (k0 : Nat) (IH : ∀ j : Nat, j < k0 → P_GS l dC dI cy a j) (d : Nat) (L0 : Nat → Int32) (σ0 : MS) (r0 : Int32 × MS) (h0 : x_GS k0 d 4 0 L0 σ0 = some r0) (sz : Nat) : Met l yX12_whiles w_x_whiles ({ frames := 328 + d, cells := 0, slots := 0, locals := 10106 + 26 * d }) (va_Pc [.ref (a 0)] (nIn (dC, dI) cy sz (vM cy a σ0))) (va_Qi (fun (z : Int32) (_ : Unit) => z = r0.1) (fun _ t => nOut (dC, dI) cy (va_A (vM cy a σ0) sz) (vM cy a r0.2) t) (va_A (vM cy a σ0) sz)) 0 0 (va_A (vM cy a σ0) sz) := by
  refine Met.ofW (cc := cX12_whiles) (maxL := 2) (ret := (some .int)) (by decide) rfl ?_
  intro p e s m args below meth c s₁ B hml hv
  obtain ⟨rfl, hsz, hP, hK, hD0, hG⟩ := hv
  have hx := B.exec
  have hb := B.bytes
  have hr := B.returns
  have hts := atoms_spec (ws := w_x_whiles) B.pre
  have hown : s.vm.findClass RX12 = some m.cls := findClass_of_methodNamed B.named
  have hlocks := B.notSynchronized
  subst hsz
  have hD := hD0.self (sz := s.heap.size)
  generalize hAe : va_A (vM cy a σ0) s.heap.size = A at hD ⊢
  have hA : ∀ q : Nat, s.heap.size ≤ q → A q := fun q h => by rw [← hAe]; exact Or.inr h
  have hS : va_S A s.heap s.heap [] := va_S.rf
  have hl := lv_entry ([.ref (a 0)]) (n := 2) (Nat.le_of_ble_eq_true rfl)
  rw [lg_entry_eq]
  generalize (lg_sl ([.ref (a 0)]) ++ List.replicate (2 - (lg_sl ([.ref (a 0)])).length) Slot.unset).toArray = ls at hl ⊢
  have hl : lv_has ls 2 [(0, .ref (a 0))] := hl
  have blk : ∀ k : Nat, k ≤ k0 → (bT p l e (headSpec w_x_whiles ({ frames := 328 + d, cells := 0, slots := 0, locals := 10106 + 26 * d })).room s m #[.ref (a 0)] below meth c dC dI cy a A (qI dC dI cy a A below #[.ref (a 0)] s) 2 (x_GS k d 4 0) (fun L => [(0, .ref (a 0))]) 0 (fun L => [])) ∧ (bT p l e (headSpec w_x_whiles ({ frames := 328 + d, cells := 0, slots := 0, locals := 10106 + 26 * d })).room s m #[.ref (a 0)] below meth c dC dI cy a A (qI dC dI cy a A below #[.ref (a 0)] s) 2 (x_GS k d 4 1) (fun L => [(0, .ref (a 0)), (1, .int (L 1))]) 20 (fun L => [])) ∧ (bT p l e (headSpec w_x_whiles ({ frames := 328 + d, cells := 0, slots := 0, locals := 10106 + 26 * d })).room s m #[.ref (a 0)] below meth c dC dI cy a A (qI dC dI cy a A below #[.ref (a 0)] s) 2 (x_GS k d 4 2) (fun L => [(0, .ref (a 0)), (1, .int (L 1))]) 34 (fun L => [])) ∧ (bT p l e (headSpec w_x_whiles ({ frames := 328 + d, cells := 0, slots := 0, locals := 10106 + 26 * d })).room s m #[.ref (a 0)] below meth c dC dI cy a A (qI dC dI cy a A below #[.ref (a 0)] s) 2 (x_GS k d 4 3) (fun L => [(0, .ref (a 0)), (1, .int (L 1))]) 50 (fun L => [])) ∧ (bT p l e (headSpec w_x_whiles ({ frames := 328 + d, cells := 0, slots := 0, locals := 10106 + 26 * d })).room s m #[.ref (a 0)] below meth c dC dI cy a A (qI dC dI cy a A below #[.ref (a 0)] s) 2 (x_GS k d 4 4) (fun L => [(0, .ref (a 0)), (1, .int (L 1))]) 61 (fun L => [])) ∧ (bT p l e (headSpec w_x_whiles ({ frames := 328 + d, cells := 0, slots := 0, locals := 10106 + 26 * d })).room s m #[.ref (a 0)] below meth c dC dI cy a A (qI dC dI cy a A below #[.ref (a 0)] s) 2 (x_GS k d 4 5) (fun L => [(0, .ref (a 0)), (1, .int (L 1))]) 71 (fun L => [])) ∧ (bT p l e (headSpec w_x_whiles ({ frames := 328 + d, cells := 0, slots := 0, locals := 10106 + 26 * d })).room s m #[.ref (a 0)] below meth c dC dI cy a A (qI dC dI cy a A below #[.ref (a 0)] s) 2 (x_GS k d 4 6) (fun L => [(0, .ref (a 0)), (1, .int (L 1))]) 93 (fun L => [])) := by
    intro k
    induction k with
    | zero => exact fun _ => ⟨fun L σ r h => (by cases h), fun L σ r h => (by cases h), fun L σ r h => (by cases h), fun L σ r h => (by cases h), fun L σ r h => (by cases h), fun L σ r h => (by cases h), fun L σ r h => (by cases h)⟩
    | succ k ih =>
      intro hk
      replace ih := ih (by omega)
      refine ⟨?_, ?_, ?_, ?_, ?_, ?_, ?_⟩
      · intro L σ r h H locs ls hP hD hS hl
        rw [x_GS_4, s_whiles_0] at h
        refine lv_aload_n hx hb dX12_whiles_0 rfl (lv_at hl 0 rfl) ?_
        refine lv_bipush (v := 47) hx hb dX12_whiles_1 (by decide) ?_
        refine lv_iconst (v := 0) hx hb dX12_whiles_3 (by decide) ?_
        refine lv_iconst (v := 0) hx hb dX12_whiles_4 (by decide) ?_
        refine lv_iconst (v := 0) hx hb dX12_whiles_5 (by decide) ?_
        obtain ⟨r1, hc1, h⟩ := ob_ex h
        refine nc_Vi (As := [.int 47, .int 0, .int 0, .int 0]) (rest := []) ⟨hx, hb, hml, hown, hts⟩ (c_x_node l dC dI cy a k (upd (upd (upd (upd (fun _ => 0) 1 47) 2 0) 3 0) 4 0) σ r1 hc1 H.size) (cwV 4 hts g_x_whiles_node_101 rfl rfl rfl hd_x_node (by show 0 + 1 ≤ 328 + d ∧ 8 + (6 + 11) + 0 ≤ 10106 + 26 * d; omega)) hK hG hA hP hD hS rfl hl.1 rfl (Nat.le_of_ble_eq_true rfl) dX12_whiles_6 ⟨Nat.le_refl _, Nat.le_refl _⟩ (fun H locs hP hD hS => ?_)
        refine lv_istore_n (lv' := [(1, .int r1.1), (0, .ref (a 0))]) hx hb dX12_whiles_9 rfl hl (by decide) rfl (fun ls hl => ?_)
        refine lv_aload_n hx hb dX12_whiles_10 rfl (lv_at hl 1 rfl) ?_
        refine lv_dup hx hb dX12_whiles_11 rfl ?_
        refine ng_13 hx hb hts in_x_whiles hown hK hP (hts _ (List.mem_cons_of_mem _ (List.mem_append_left _ (List.mem_append_left _ (List.mem_of_getElem? (i := 19) rfl))))) dX12_whiles_12 ?_
        refine lv_iconst (v := 1) hx hb dX12_whiles_15 (by decide) ?_
        refine lv_iadd hx hb dX12_whiles_16 ?_
        refine np_13 hx hb hts in_x_whiles hown hK hP hD hS (hts _ (List.mem_cons_of_mem _ (List.mem_append_left _ (List.mem_append_left _ (List.mem_of_getElem? (i := 19) rfl))))) dX12_whiles_17 (fun H locs hP hD hS => ?_)
        exact ih.2.1 (upd L 1 r1.1) (upd r1.2.1 13 ((((r1.2.1 13)) + 1)), r1.2.2.1, r1.2.2.2) r h H locs ls hP hD hS (lv_sub hl [1, 0] rfl)
      · intro L σ r h H locs ls hP hD hS hl
        rw [x_GS_4, s_whiles_1] at h
        refine lv_aload_n hx hb dX12_whiles_20 rfl (lv_at hl 0 rfl) ?_
        obtain ⟨r1, hc1, h⟩ := ob_ex h
        refine nc_Vv (As := []) (rest := []) ⟨hx, hb, hml, hown, hts⟩ (c_x_take l dC dI cy a k (fun _ => 0) σ r1 hc1 H.size) (cwV 0 hts g_x_whiles_take_71 rfl rfl rfl hd_x_take (by show 2 + 1 ≤ 328 + d ∧ 8 + (2 + 11) + 43 ≤ 10106 + 26 * d; omega)) hK hG hA hP hD hS rfl hl.1 rfl (Nat.le_of_ble_eq_true rfl) dX12_whiles_21 ⟨Nat.le_refl _, Nat.le_refl _⟩ (fun H locs hP hD hS => ?_)
        refine lv_aload_n hx hb dX12_whiles_24 rfl (lv_at hl 0 rfl) ?_
        refine ng_15 hx hb hts in_x_whiles hown hK hP (hts _ (List.mem_cons_of_mem _ (List.mem_append_left _ (List.mem_append_left _ (List.mem_of_getElem? (i := 24) rfl))))) dX12_whiles_25 ?_
        refine lv_iload_n hx hb dX12_whiles_28 rfl (lv_at hl 1 rfl) ?_
        refine lv_aload_n hx hb dX12_whiles_29 rfl (lv_at hl 0 rfl) ?_
        obtain ⟨r2, hc2, h⟩ := ob_ex h
        refine nc_Vi (As := []) (rest := [.int (L 1), .ref (a 5)]) ⟨hx, hb, hml, hown, hts⟩ (c_x_exp l dC dI cy a k (fun _ => 0) r1.2 r2 hc2 H.size) (cwV 0 hts g_x_whiles_exp_209 rfl rfl rfl hd_x_exp (by show 325 + 1 ≤ 328 + d ∧ 8 + (2 + 11) + 10033 ≤ 10106 + 26 * d; omega)) hK hG hA hP hD hS rfl hl.1 rfl (Nat.le_of_ble_eq_true rfl) dX12_whiles_30 ⟨Nat.le_refl _, Nat.le_refl _⟩ (fun H locs hP hD hS => ?_)
        obtain ⟨q3, h⟩ := nb_ite1 h
        refine ns_5 hx hb hK hP hD hS q3 dX12_whiles_33 (fun H locs hP hD hS => ?_)
        exact ih.2.2.1 L (r2.2.1, r2.2.2.1, updG r2.2.2.2 5 (upd (r2.2.2.2 5) ((L 1)).toNatClampNeg r2.1)) r h H locs ls hP hD hS (lv_sub hl [0, 1] rfl)
      · intro L σ r h H locs ls hP hD hS hl
        rw [x_GS_4, s_whiles_2] at h
        refine lv_aload_n hx hb dX12_whiles_34 rfl (lv_at hl 0 rfl) ?_
        refine lv_bipush (v := 12) hx hb dX12_whiles_35 (by decide) ?_
        obtain ⟨r1, hc1, h⟩ := ob_ex h
        refine nc_Vv (As := [.int 12]) (rest := []) ⟨hx, hb, hml, hown, hts⟩ (c_x_wantWord l dC dI cy a k (upd (fun _ => 0) 1 12) σ r1 hc1 H.size) (cwV 1 hts g_x_whiles_wantWord_253 rfl rfl rfl hd_x_wantWord (by show 3 + 1 ≤ 328 + d ∧ 8 + (2 + 11) + 64 ≤ 10106 + 26 * d; omega)) hK hG hA hP hD hS rfl hl.1 rfl (Nat.le_of_ble_eq_true rfl) dX12_whiles_37 ⟨Nat.le_refl _, Nat.le_refl _⟩ (fun H locs hP hD hS => ?_)
        refine lv_aload_n hx hb dX12_whiles_40 rfl (lv_at hl 0 rfl) ?_
        refine lv_dup hx hb dX12_whiles_41 rfl ?_
        refine ng_45 hx hb hts in_x_whiles hown hK hP (hts _ (List.mem_cons_of_mem _ (List.mem_append_left _ (List.mem_append_left _ (List.mem_of_getElem? (i := 38) rfl))))) dX12_whiles_42 ?_
        refine lv_iconst (v := 1) hx hb dX12_whiles_45 (by decide) ?_
        refine lv_iadd hx hb dX12_whiles_46 ?_
        refine np_45 hx hb hts in_x_whiles hown hK hP hD hS (hts _ (List.mem_cons_of_mem _ (List.mem_append_left _ (List.mem_append_left _ (List.mem_of_getElem? (i := 38) rfl))))) dX12_whiles_47 (fun H locs hP hD hS => ?_)
        exact ih.2.2.2.1 L (upd r1.2.1 45 ((((r1.2.1 45)) + 1)), r1.2.2.1, r1.2.2.2) r h H locs ls hP hD hS (lv_sub hl [0, 1] rfl)
      · intro L σ r h H locs ls hP hD hS hl
        rw [x_GS_4, s_whiles_3] at h
        refine lv_aload_n hx hb dX12_whiles_50 rfl (lv_at hl 0 rfl) ?_
        refine ng_16 hx hb hts in_x_whiles hown hK hP (hts _ (List.mem_cons_of_mem _ (List.mem_append_left _ (List.mem_append_left _ (List.mem_of_getElem? (i := 31) rfl))))) dX12_whiles_51 ?_
        refine lv_iload_n hx hb dX12_whiles_54 rfl (lv_at hl 1 rfl) ?_
        refine lv_aload_n hx hb dX12_whiles_55 rfl (lv_at hl 0 rfl) ?_
        refine lv_iload_n hx hb dX12_whiles_56 rfl (lv_at hl 1 rfl) ?_
        obtain ⟨e1, he1, h⟩ := od_ex h
        obtain ⟨r1, hc1, h⟩ := ob_ex h
        refine nc_Vi (As := [.int (L 1)]) (rest := [.int (L 1), .ref (a 6)]) ⟨hx, hb, hml, hown, hts⟩ ((IH k (by omega)).1 e1 (upd (fun _ => 0) 1 ((L 1))) σ r1 hc1 H.size) (cwV 1 hts g_x_whiles_block_336 rfl rfl rfl hd_x_block (by show (328 + e1) + 1 ≤ 328 + d ∧ 8 + (5 + 11) + (10106 + 26 * e1) ≤ 10106 + 26 * d; omega)) hK hG hA hP hD hS rfl hl.1 rfl (Nat.le_of_ble_eq_true rfl) dX12_whiles_57 ⟨Nat.le_refl _, Nat.le_refl _⟩ (fun H locs hP hD hS => ?_)
        obtain ⟨q2, h⟩ := nb_ite1 h
        refine ns_6 hx hb hK hP hD hS q2 dX12_whiles_60 (fun H locs hP hD hS => ?_)
        exact ih.2.2.2.2.1 L (r1.2.1, r1.2.2.1, updG r1.2.2.2 6 (upd (r1.2.2.2 6) ((L 1)).toNatClampNeg r1.1)) r h H locs ls hP hD hS (lv_sub hl [0, 1] rfl)
      · intro L σ r h H locs ls hP hD hS hl
        rw [x_GS_4, s_whiles_4] at h
        refine lv_aload_n hx hb dX12_whiles_61 rfl (lv_at hl 0 rfl) ?_
        refine lv_dup hx hb dX12_whiles_62 rfl ?_
        refine ng_45 hx hb hts in_x_whiles hown hK hP (hts _ (List.mem_cons_of_mem _ (List.mem_append_left _ (List.mem_append_left _ (List.mem_of_getElem? (i := 38) rfl))))) dX12_whiles_63 ?_
        refine lv_iconst (v := 1) hx hb dX12_whiles_66 (by decide) ?_
        refine lv_isub hx hb dX12_whiles_67 ?_
        refine np_45 hx hb hts in_x_whiles hown hK hP hD hS (hts _ (List.mem_cons_of_mem _ (List.mem_append_left _ (List.mem_append_left _ (List.mem_of_getElem? (i := 38) rfl))))) dX12_whiles_68 (fun H locs hP hD hS => ?_)
        exact ih.2.2.2.2.2.1 L (upd σ.1 45 ((((σ.1 45)) - 1)), σ.2.1, σ.2.2) r h H locs ls hP hD hS (lv_sub hl [0, 1] rfl)
      · intro L σ r h H locs ls hP hD hS hl
        rw [x_GS_4, s_whiles_5] at h
        refine lv_aload_n hx hb dX12_whiles_71 rfl (lv_at hl 0 rfl) ?_
        refine lv_bipush (v := 6) hx hb dX12_whiles_72 (by decide) ?_
        obtain ⟨r1, hc1, h⟩ := ob_ex h
        refine nc_Vv (As := [.int 6]) (rest := []) ⟨hx, hb, hml, hown, hts⟩ (c_x_wantWord l dC dI cy a k (upd (fun _ => 0) 1 6) σ r1 hc1 H.size) (cwV 1 hts g_x_whiles_wantWord_253 rfl rfl rfl hd_x_wantWord (by show 3 + 1 ≤ 328 + d ∧ 8 + (2 + 11) + 64 ≤ 10106 + 26 * d; omega)) hK hG hA hP hD hS rfl hl.1 rfl (Nat.le_of_ble_eq_true rfl) dX12_whiles_74 ⟨Nat.le_refl _, Nat.le_refl _⟩ (fun H locs hP hD hS => ?_)
        refine lv_aload_n hx hb dX12_whiles_77 rfl (lv_at hl 0 rfl) ?_
        refine lv_bipush (v := 13) hx hb dX12_whiles_78 (by decide) ?_
        obtain ⟨r2, hc2, h⟩ := ob_ex h
        refine nc_Vv (As := [.int 13]) (rest := []) ⟨hx, hb, hml, hown, hts⟩ (c_x_want l dC dI cy a k (upd (fun _ => 0) 1 13) r1.2 r2 hc2 H.size) (cwV 1 hts g_x_whiles_want_199 rfl rfl rfl hd_x_want (by show 3 + 1 ≤ 328 + d ∧ 8 + (2 + 11) + 64 ≤ 10106 + 26 * d; omega)) hK hG hA hP hD hS rfl hl.1 rfl (Nat.le_of_ble_eq_true rfl) dX12_whiles_80 ⟨Nat.le_refl _, Nat.le_refl _⟩ (fun H locs hP hD hS => ?_)
        refine lv_aload_n hx hb dX12_whiles_83 rfl (lv_at hl 0 rfl) ?_
        refine lv_dup hx hb dX12_whiles_84 rfl ?_
        refine ng_13 hx hb hts in_x_whiles hown hK hP (hts _ (List.mem_cons_of_mem _ (List.mem_append_left _ (List.mem_append_left _ (List.mem_of_getElem? (i := 19) rfl))))) dX12_whiles_85 ?_
        refine lv_iconst (v := 1) hx hb dX12_whiles_88 (by decide) ?_
        refine lv_isub hx hb dX12_whiles_89 ?_
        refine np_13 hx hb hts in_x_whiles hown hK hP hD hS (hts _ (List.mem_cons_of_mem _ (List.mem_append_left _ (List.mem_append_left _ (List.mem_of_getElem? (i := 19) rfl))))) dX12_whiles_90 (fun H locs hP hD hS => ?_)
        exact ih.2.2.2.2.2.2 L (upd r2.2.1 13 ((((r2.2.1 13)) - 1)), r2.2.2.1, r2.2.2.2) r h H locs ls hP hD hS (lv_sub hl [0, 1] rfl)
      · intro L σ r h H locs ls hP hD hS hl
        rw [x_GS_4, s_whiles_6] at h
        refine lv_iload_n hx hb dX12_whiles_93 rfl (lv_at hl 1 rfl) ?_
        cases h
        exact W.iret (v := (L 1)) hx hb hr (fun t ht hW => ⟨⟨(L 1), (), rfl, rfl, by rw [ht]; exact hP, va_K.moved hW.alike hK, hD⟩, hS.F ht⟩) hS.2.2 dX12_whiles_94
  exact (blk k0 (Nat.le_refl _)).1 L0 σ0 r0 h0 s.heap [] ls hP hD hS hl
theorem c_GS (l : Launch) (dC : Nat → ClassId) (dI : Nat → Nat → Nat) (cy : Nat → ClassId) (a : Nat → Nat) : ∀ k0 : Nat, P_GS l dC dI cy a k0 := by
  intro k0
  induction k0 using Nat.strongRecOn with
  | ind k0 IH => exact ⟨c_s_block l dC dI cy a k0 IH, c_s_fors l dC dI cy a k0 IH, c_s_ifs l dC dI cy a k0 IH, c_s_statement l dC dI cy a k0 IH, c_s_whiles l dC dI cy a k0 IH⟩
def x_block (k b : Nat) (L : Nat → Int32) (σ : MS) : Option (Int32 × MS) := x_GS k 100 0 b L σ
theorem c_x_block (l : Launch) (dC : Nat → ClassId) (dI : Nat → Nat → Nat) (cy : Nat → ClassId) (a : Nat → Nat) (k0 : Nat) (L0 : Nat → Int32) (σ0 : MS) (r0 : Int32 × MS) (h0 : x_block k0 0 L0 σ0 = some r0) (sz : Nat) : Met l yX12_block w_x_block ({ frames := 428, cells := 0, slots := 0, locals := 12706 }) (va_Pc [.ref (a 0), .int (L0 1)] (nIn (dC, dI) cy sz (vM cy a σ0))) (va_Qi (fun (z : Int32) (_ : Unit) => z = r0.1) (fun _ t => nOut (dC, dI) cy (va_A (vM cy a σ0) sz) (vM cy a r0.2) t) (va_A (vM cy a σ0) sz)) 0 0 (va_A (vM cy a σ0) sz) := (c_GS l dC dI cy a k0).1 100 L0 σ0 r0 h0 sz
def x_fors (k b : Nat) (L : Nat → Int32) (σ : MS) : Option (Int32 × MS) := x_GS k 100 1 b L σ
theorem c_x_fors (l : Launch) (dC : Nat → ClassId) (dI : Nat → Nat → Nat) (cy : Nat → ClassId) (a : Nat → Nat) (k0 : Nat) (L0 : Nat → Int32) (σ0 : MS) (r0 : Int32 × MS) (h0 : x_fors k0 0 L0 σ0 = some r0) (sz : Nat) : Met l yX12_fors w_x_fors ({ frames := 428, cells := 0, slots := 0, locals := 12706 }) (va_Pc [.ref (a 0)] (nIn (dC, dI) cy sz (vM cy a σ0))) (va_Qi (fun (z : Int32) (_ : Unit) => z = r0.1) (fun _ t => nOut (dC, dI) cy (va_A (vM cy a σ0) sz) (vM cy a r0.2) t) (va_A (vM cy a σ0) sz)) 0 0 (va_A (vM cy a σ0) sz) := (c_GS l dC dI cy a k0).2.1 100 L0 σ0 r0 h0 sz
def x_ifs (k b : Nat) (L : Nat → Int32) (σ : MS) : Option (Int32 × MS) := x_GS k 100 2 b L σ
theorem c_x_ifs (l : Launch) (dC : Nat → ClassId) (dI : Nat → Nat → Nat) (cy : Nat → ClassId) (a : Nat → Nat) (k0 : Nat) (L0 : Nat → Int32) (σ0 : MS) (r0 : Int32 × MS) (h0 : x_ifs k0 0 L0 σ0 = some r0) (sz : Nat) : Met l yX12_ifs w_x_ifs ({ frames := 428, cells := 0, slots := 0, locals := 12706 }) (va_Pc [.ref (a 0)] (nIn (dC, dI) cy sz (vM cy a σ0))) (va_Qi (fun (z : Int32) (_ : Unit) => z = r0.1) (fun _ t => nOut (dC, dI) cy (va_A (vM cy a σ0) sz) (vM cy a r0.2) t) (va_A (vM cy a σ0) sz)) 0 0 (va_A (vM cy a σ0) sz) := (c_GS l dC dI cy a k0).2.2.1 100 L0 σ0 r0 h0 sz
def x_statement (k b : Nat) (L : Nat → Int32) (σ : MS) : Option (Int32 × MS) := x_GS k 100 3 b L σ
theorem c_x_statement (l : Launch) (dC : Nat → ClassId) (dI : Nat → Nat → Nat) (cy : Nat → ClassId) (a : Nat → Nat) (k0 : Nat) (L0 : Nat → Int32) (σ0 : MS) (r0 : Int32 × MS) (h0 : x_statement k0 0 L0 σ0 = some r0) (sz : Nat) : Met l yX12_statement w_x_statement ({ frames := 428, cells := 0, slots := 0, locals := 12706 }) (va_Pc [.ref (a 0)] (nIn (dC, dI) cy sz (vM cy a σ0))) (va_Qi (fun (z : Int32) (_ : Unit) => z = r0.1) (fun _ t => nOut (dC, dI) cy (va_A (vM cy a σ0) sz) (vM cy a r0.2) t) (va_A (vM cy a σ0) sz)) 0 0 (va_A (vM cy a σ0) sz) := (c_GS l dC dI cy a k0).2.2.2.1 100 L0 σ0 r0 h0 sz
def x_whiles (k b : Nat) (L : Nat → Int32) (σ : MS) : Option (Int32 × MS) := x_GS k 100 4 b L σ
theorem c_x_whiles (l : Launch) (dC : Nat → ClassId) (dI : Nat → Nat → Nat) (cy : Nat → ClassId) (a : Nat → Nat) (k0 : Nat) (L0 : Nat → Int32) (σ0 : MS) (r0 : Int32 × MS) (h0 : x_whiles k0 0 L0 σ0 = some r0) (sz : Nat) : Met l yX12_whiles w_x_whiles ({ frames := 428, cells := 0, slots := 0, locals := 12706 }) (va_Pc [.ref (a 0)] (nIn (dC, dI) cy sz (vM cy a σ0))) (va_Qi (fun (z : Int32) (_ : Unit) => z = r0.1) (fun _ t => nOut (dC, dI) cy (va_A (vM cy a σ0) sz) (vM cy a r0.2) t) (va_A (vM cy a σ0) sz)) 0 0 (va_A (vM cy a σ0) sz) := (c_GS l dC dI cy a k0).2.2.2.2 100 L0 σ0 r0 h0 sz
/-! tellLocal -/
def x_tellLocal : Nat → Nat → (Nat → Int32) → MS → Option (Int32 × MS)
  | 0, _, _, _ => none
  | k + 1, 0, L, σ => ob (x_wantName k 0 (fun _ => 0) σ) (fun r1 => if ((r1.2.1 10)) = 0 then (x_tellLocal k 1 L r1.2) else (some (0, r1.2)))
  | k + 1, 1, L, σ => x_tellLocal k 2 (upd L 2 0) σ
  | k + 1, 2, L, σ => if ((σ.1 38)) ≤ ((L 2)) then (x_tellLocal k 4 L σ) else (if ¬ (((L 2)) < 0 ∨ 400 ≤ ((L 2)).toNatClampNeg) then (if ¬ (((L 2)) < 0 ∨ 400 ≤ ((L 2)).toNatClampNeg) then (ob (x_isNamed k 0 (upd (upd (fun _ => 0) 1 ((σ.2.2 22 ((L 2)).toNatClampNeg))) 2 ((σ.2.2 23 ((L 2)).toNatClampNeg))) σ) (fun r4 => if r4.1 = 0 then (x_tellLocal k 3 L r4.2) else (ob (x_fault k 0 (upd (upd (fun _ => 0) 1 4) 2 ((r4.2.1 8))) r4.2) (fun r6 => x_tellLocal k 3 L r6.2)))) else none) else none)
  | k + 1, 3, L, σ => x_tellLocal k 2 (upd L 2 (((L 2)) + 1)) σ
  | k + 1, 4, L, σ => if ((σ.1 10)) = 0 then (x_tellLocal k 5 L σ) else (x_tellLocal k 6 (upd L 100 0) σ)
  | k + 1, 5, L, σ => ob (x_newSlot k 0 (upd (fun _ => 0) 1 ((L 1))) σ) (fun r1 => x_tellLocal k 6 (upd L 100 r1.1) r1.2)
  | k + 1, 6, L, σ => if ((σ.1 10)) = 0 then (ob (x_keep k 0 (upd (upd (fun _ => 0) 1 ((σ.1 8))) 2 ((σ.1 9))) σ) (fun r2 => ob (x_see k 0 (upd (upd (upd (fun _ => 0) 1 r2.1) 2 ((((r2.2.1 9)) - ((r2.2.1 8))))) 3 ((L 100))) r2.2) (fun r3 => ob (x_take k 0 (fun _ => 0) r3.2) (fun r4 => x_tellLocal k 7 (upd L 2 ((L 100))) r4.2)))) else (x_tellLocal k 7 (upd L 2 ((L 100))) σ)
  | k + 1, 7, L, σ => some (0, σ)
  | _ + 1, _ + 8, _, _ => none
def o_x_tellLocal : List Cond := [.methodLink RX12 279 yX12_wantName, .instanceMethod yX12_wantName, .selects RX12 yX12_wantName yX12_wantName, .initialized RX12, .fieldLink RX12 11 "SetHouseModel" "bad" "Z", .fieldLink RX12 114 "SetHouseModel" "seenNames" "I", .fieldLink RX12 117 "SetHouseModel" "nFrom" "[I", .fieldLink RX12 120 "SetHouseModel" "nSize" "[I", .methodLink RX12 123 yX12_isNamed, .instanceMethod yX12_isNamed, .selects RX12 yX12_isNamed yX12_isNamed, .fieldLink RX12 32 "SetHouseModel" "tFrom" "I", .methodLink RX12 58 yX12_fault, .instanceMethod yX12_fault, .selects RX12 yX12_fault yX12_fault, .methodLink RX12 282 yX12_newSlot, .instanceMethod yX12_newSlot, .selects RX12 yX12_newSlot yX12_newSlot, .fieldLink RX12 55 "SetHouseModel" "tTo" "I", .methodLink RX12 154 yX12_keep, .instanceMethod yX12_keep, .selects RX12 yX12_keep yX12_keep, .methodLink RX12 275 yX12_see, .instanceMethod yX12_see, .selects RX12 yX12_see yX12_see, .methodLink RX12 71 yX12_take, .instanceMethod yX12_take, .selects RX12 yX12_take yX12_take]
theorem o_x_tellLocal_good : o_x_tellLocal.all goodWord = true := by decide +kernel
def p_x_tellLocal : List Cond := o_x_tellLocal ++ ((.code yX12_wantName cX12_wantName 1 none :: p_x_wantName) ++ ((.code yX12_isNamed cX12_isNamed 4 (some .boolean) :: p_x_isNamed) ++ ((.code yX12_fault cX12_fault 3 none :: p_x_fault) ++ ((.code yX12_newSlot cX12_newSlot 2 (some .int) :: p_x_newSlot) ++ ((.code yX12_keep cX12_keep 5 (some .int) :: p_x_keep) ++ ((.code yX12_see cX12_see 4 none :: p_x_see) ++ ((.code yX12_take cX12_take 2 none :: p_x_take) ++ [])))))))
theorem p_x_tellLocal_good : p_x_tellLocal.all goodWord = true := nb_all2 o_x_tellLocal_good (nb_all2 (nb_allc (by decide +kernel) p_x_wantName_good) (nb_all2 (nb_allc (by decide +kernel) p_x_isNamed_good) (nb_all2 (nb_allc (by decide +kernel) p_x_fault_good) (nb_all2 (nb_allc (by decide +kernel) p_x_newSlot_good) (nb_all2 (nb_allc (by decide +kernel) p_x_keep_good) (nb_all2 (nb_allc (by decide +kernel) p_x_see_good) (nb_all2 (nb_allc (by decide +kernel) p_x_take_good) rfl)))))))
def w_x_tellLocal : List Cond := .code yX12_tellLocal cX12_tellLocal 3 none :: (p_x_tellLocal ++ fM)
theorem w_x_tellLocal_good : w_x_tellLocal.all goodWord = true := nb_allc (by decide +kernel) (nb_all2 p_x_tellLocal_good fM_good)
theorem in_x_tellLocal : ∀ w ∈ wsX120, w ∈ w_x_tellLocal := fun _ h => List.mem_cons_of_mem _ (List.mem_append_right _ h)
theorem hd_x_tellLocal : yX12_tellLocal.cls = RX12 ∧ yX12_tellLocal.cls ≠ "java/lang/invoke/MethodHandle" ∧ yX12_tellLocal.cls ≠ "java/lang/invoke/VarHandle" ∧ (parseMethodDescriptor yX12_tellLocal.desc).map (fun d => d.parameters.length) = some 1 := by decide +kernel
theorem gg_x_tellLocal_fault : GoodIn w_x_tellLocal w_x_fault := goodIn_sub (fun w h => (List.mem_cons.mp h).elim (fun e => (List.mem_cons_of_mem _ (List.mem_append_left _ (List.mem_append_right _ (List.mem_append_right _ (List.mem_append_right _ (List.mem_append_left _ (List.mem_cons.mpr (Or.inl e))))))))) (fun h => (List.mem_append.mp h).elim (fun h => (List.mem_cons_of_mem _ (List.mem_append_left _ (List.mem_append_right _ (List.mem_append_right _ (List.mem_append_right _ (List.mem_append_left _ (List.mem_cons_of_mem _ h)))))))) (fun h => List.mem_cons_of_mem _ (List.mem_append_right _ h)))) w_x_fault_good
theorem g_x_tellLocal_fault_58 : GoodIn w_x_tellLocal (wsV RX12 58 RX12 yX12_fault w_x_fault) := goodIn_app (nb_g4 (List.mem_cons_of_mem _ (List.mem_append_left _ (List.mem_append_left _ (List.mem_of_getElem? (i := 12) rfl)))) (List.mem_cons_of_mem _ (List.mem_append_left _ (List.mem_append_left _ (List.mem_of_getElem? (i := 13) rfl)))) (List.mem_cons_of_mem _ (List.mem_append_left _ (List.mem_append_left _ (List.mem_of_getElem? (i := 14) rfl)))) (List.mem_cons_of_mem _ (List.mem_append_left _ (List.mem_append_left _ (List.mem_of_getElem? (i := 3) rfl)))) (by decide +kernel)) gg_x_tellLocal_fault
theorem gg_x_tellLocal_isNamed : GoodIn w_x_tellLocal w_x_isNamed := goodIn_sub (fun w h => (List.mem_cons.mp h).elim (fun e => (List.mem_cons_of_mem _ (List.mem_append_left _ (List.mem_append_right _ (List.mem_append_right _ (List.mem_append_left _ (List.mem_cons.mpr (Or.inl e)))))))) (fun h => (List.mem_append.mp h).elim (fun h => (List.mem_cons_of_mem _ (List.mem_append_left _ (List.mem_append_right _ (List.mem_append_right _ (List.mem_append_left _ (List.mem_cons_of_mem _ h))))))) (fun h => List.mem_cons_of_mem _ (List.mem_append_right _ h)))) w_x_isNamed_good
theorem g_x_tellLocal_isNamed_123 : GoodIn w_x_tellLocal (wsV RX12 123 RX12 yX12_isNamed w_x_isNamed) := goodIn_app (nb_g4 (List.mem_cons_of_mem _ (List.mem_append_left _ (List.mem_append_left _ (List.mem_of_getElem? (i := 8) rfl)))) (List.mem_cons_of_mem _ (List.mem_append_left _ (List.mem_append_left _ (List.mem_of_getElem? (i := 9) rfl)))) (List.mem_cons_of_mem _ (List.mem_append_left _ (List.mem_append_left _ (List.mem_of_getElem? (i := 10) rfl)))) (List.mem_cons_of_mem _ (List.mem_append_left _ (List.mem_append_left _ (List.mem_of_getElem? (i := 3) rfl)))) (by decide +kernel)) gg_x_tellLocal_isNamed
theorem gg_x_tellLocal_keep : GoodIn w_x_tellLocal w_x_keep := goodIn_sub (fun w h => (List.mem_cons.mp h).elim (fun e => (List.mem_cons_of_mem _ (List.mem_append_left _ (List.mem_append_right _ (List.mem_append_right _ (List.mem_append_right _ (List.mem_append_right _ (List.mem_append_right _ (List.mem_append_left _ (List.mem_cons.mpr (Or.inl e))))))))))) (fun h => (List.mem_append.mp h).elim (fun h => (List.mem_cons_of_mem _ (List.mem_append_left _ (List.mem_append_right _ (List.mem_append_right _ (List.mem_append_right _ (List.mem_append_right _ (List.mem_append_right _ (List.mem_append_left _ (List.mem_cons_of_mem _ h)))))))))) (fun h => List.mem_cons_of_mem _ (List.mem_append_right _ h)))) w_x_keep_good
theorem g_x_tellLocal_keep_154 : GoodIn w_x_tellLocal (wsV RX12 154 RX12 yX12_keep w_x_keep) := goodIn_app (nb_g4 (List.mem_cons_of_mem _ (List.mem_append_left _ (List.mem_append_left _ (List.mem_of_getElem? (i := 19) rfl)))) (List.mem_cons_of_mem _ (List.mem_append_left _ (List.mem_append_left _ (List.mem_of_getElem? (i := 20) rfl)))) (List.mem_cons_of_mem _ (List.mem_append_left _ (List.mem_append_left _ (List.mem_of_getElem? (i := 21) rfl)))) (List.mem_cons_of_mem _ (List.mem_append_left _ (List.mem_append_left _ (List.mem_of_getElem? (i := 3) rfl)))) (by decide +kernel)) gg_x_tellLocal_keep
theorem gg_x_tellLocal_newSlot : GoodIn w_x_tellLocal w_x_newSlot := goodIn_sub (fun w h => (List.mem_cons.mp h).elim (fun e => (List.mem_cons_of_mem _ (List.mem_append_left _ (List.mem_append_right _ (List.mem_append_right _ (List.mem_append_right _ (List.mem_append_right _ (List.mem_append_left _ (List.mem_cons.mpr (Or.inl e)))))))))) (fun h => (List.mem_append.mp h).elim (fun h => (List.mem_cons_of_mem _ (List.mem_append_left _ (List.mem_append_right _ (List.mem_append_right _ (List.mem_append_right _ (List.mem_append_right _ (List.mem_append_left _ (List.mem_cons_of_mem _ h))))))))) (fun h => List.mem_cons_of_mem _ (List.mem_append_right _ h)))) w_x_newSlot_good
theorem g_x_tellLocal_newSlot_282 : GoodIn w_x_tellLocal (wsV RX12 282 RX12 yX12_newSlot w_x_newSlot) := goodIn_app (nb_g4 (List.mem_cons_of_mem _ (List.mem_append_left _ (List.mem_append_left _ (List.mem_of_getElem? (i := 15) rfl)))) (List.mem_cons_of_mem _ (List.mem_append_left _ (List.mem_append_left _ (List.mem_of_getElem? (i := 16) rfl)))) (List.mem_cons_of_mem _ (List.mem_append_left _ (List.mem_append_left _ (List.mem_of_getElem? (i := 17) rfl)))) (List.mem_cons_of_mem _ (List.mem_append_left _ (List.mem_append_left _ (List.mem_of_getElem? (i := 3) rfl)))) (by decide +kernel)) gg_x_tellLocal_newSlot
theorem gg_x_tellLocal_see : GoodIn w_x_tellLocal w_x_see := goodIn_sub (fun w h => (List.mem_cons.mp h).elim (fun e => (List.mem_cons_of_mem _ (List.mem_append_left _ (List.mem_append_right _ (List.mem_append_right _ (List.mem_append_right _ (List.mem_append_right _ (List.mem_append_right _ (List.mem_append_right _ (List.mem_append_left _ (List.mem_cons.mpr (Or.inl e)))))))))))) (fun h => (List.mem_append.mp h).elim (fun h => (List.mem_cons_of_mem _ (List.mem_append_left _ (List.mem_append_right _ (List.mem_append_right _ (List.mem_append_right _ (List.mem_append_right _ (List.mem_append_right _ (List.mem_append_right _ (List.mem_append_left _ (List.mem_cons_of_mem _ h))))))))))) (fun h => List.mem_cons_of_mem _ (List.mem_append_right _ h)))) w_x_see_good
theorem g_x_tellLocal_see_275 : GoodIn w_x_tellLocal (wsV RX12 275 RX12 yX12_see w_x_see) := goodIn_app (nb_g4 (List.mem_cons_of_mem _ (List.mem_append_left _ (List.mem_append_left _ (List.mem_of_getElem? (i := 22) rfl)))) (List.mem_cons_of_mem _ (List.mem_append_left _ (List.mem_append_left _ (List.mem_of_getElem? (i := 23) rfl)))) (List.mem_cons_of_mem _ (List.mem_append_left _ (List.mem_append_left _ (List.mem_of_getElem? (i := 24) rfl)))) (List.mem_cons_of_mem _ (List.mem_append_left _ (List.mem_append_left _ (List.mem_of_getElem? (i := 3) rfl)))) (by decide +kernel)) gg_x_tellLocal_see
theorem gg_x_tellLocal_take : GoodIn w_x_tellLocal w_x_take := goodIn_sub (fun w h => (List.mem_cons.mp h).elim (fun e => (List.mem_cons_of_mem _ (List.mem_append_left _ (List.mem_append_right _ (List.mem_append_right _ (List.mem_append_right _ (List.mem_append_right _ (List.mem_append_right _ (List.mem_append_right _ (List.mem_append_right _ (List.mem_append_left _ (List.mem_cons.mpr (Or.inl e))))))))))))) (fun h => (List.mem_append.mp h).elim (fun h => (List.mem_cons_of_mem _ (List.mem_append_left _ (List.mem_append_right _ (List.mem_append_right _ (List.mem_append_right _ (List.mem_append_right _ (List.mem_append_right _ (List.mem_append_right _ (List.mem_append_right _ (List.mem_append_left _ (List.mem_cons_of_mem _ h)))))))))))) (fun h => List.mem_cons_of_mem _ (List.mem_append_right _ h)))) w_x_take_good
theorem g_x_tellLocal_take_71 : GoodIn w_x_tellLocal (wsV RX12 71 RX12 yX12_take w_x_take) := goodIn_app (nb_g4 (List.mem_cons_of_mem _ (List.mem_append_left _ (List.mem_append_left _ (List.mem_of_getElem? (i := 25) rfl)))) (List.mem_cons_of_mem _ (List.mem_append_left _ (List.mem_append_left _ (List.mem_of_getElem? (i := 26) rfl)))) (List.mem_cons_of_mem _ (List.mem_append_left _ (List.mem_append_left _ (List.mem_of_getElem? (i := 27) rfl)))) (List.mem_cons_of_mem _ (List.mem_append_left _ (List.mem_append_left _ (List.mem_of_getElem? (i := 3) rfl)))) (by decide +kernel)) gg_x_tellLocal_take
theorem gg_x_tellLocal_wantName : GoodIn w_x_tellLocal w_x_wantName := goodIn_sub (fun w h => (List.mem_cons.mp h).elim (fun e => (List.mem_cons_of_mem _ (List.mem_append_left _ (List.mem_append_right _ (List.mem_append_left _ (List.mem_cons.mpr (Or.inl e))))))) (fun h => (List.mem_append.mp h).elim (fun h => (List.mem_cons_of_mem _ (List.mem_append_left _ (List.mem_append_right _ (List.mem_append_left _ (List.mem_cons_of_mem _ h)))))) (fun h => List.mem_cons_of_mem _ (List.mem_append_right _ h)))) w_x_wantName_good
theorem g_x_tellLocal_wantName_279 : GoodIn w_x_tellLocal (wsV RX12 279 RX12 yX12_wantName w_x_wantName) := goodIn_app (nb_g4 (List.mem_cons_of_mem _ (List.mem_append_left _ (List.mem_append_left _ (List.mem_of_getElem? (i := 0) rfl)))) (List.mem_cons_of_mem _ (List.mem_append_left _ (List.mem_append_left _ (List.mem_of_getElem? (i := 1) rfl)))) (List.mem_cons_of_mem _ (List.mem_append_left _ (List.mem_append_left _ (List.mem_of_getElem? (i := 2) rfl)))) (List.mem_cons_of_mem _ (List.mem_append_left _ (List.mem_append_left _ (List.mem_of_getElem? (i := 3) rfl)))) (by decide +kernel)) gg_x_tellLocal_wantName
set_option maxHeartbeats 40000000 in
set_option maxRecDepth 100000 in
theorem c_x_tellLocal (l : Launch) (dC : Nat → ClassId) (dI : Nat → Nat → Nat) (cy : Nat → ClassId) (a : Nat → Nat) (k0 : Nat) (L0 : Nat → Int32) (σ0 : MS) (r0 : Int32 × MS) (h0 : x_tellLocal k0 0 L0 σ0 = some r0) (sz : Nat) : Met l yX12_tellLocal w_x_tellLocal ({ frames := 3, cells := 0, slots := 0, locals := 64 }) (va_Pc [.ref (a 0), .int (L0 1)] (nIn (dC, dI) cy sz (vM cy a σ0))) (va_Qv (fun _ : Unit => True) (fun _ t => nOut (dC, dI) cy (va_A (vM cy a σ0) sz) (vM cy a r0.2) t) (va_A (vM cy a σ0) sz)) 0 0 (va_A (vM cy a σ0) sz) := by
  refine Met.ofW (cc := cX12_tellLocal) (maxL := 3) (ret := none) (by decide) rfl ?_
  intro p e s m args below meth c s₁ B hml hv
  obtain ⟨rfl, hsz, hP, hK, hD0, hG⟩ := hv
  have hx := B.exec
  have hb := B.bytes
  have hr := B.returns
  have hts := atoms_spec (ws := w_x_tellLocal) B.pre
  have hown : s.vm.findClass RX12 = some m.cls := findClass_of_methodNamed B.named
  have hlocks := B.notSynchronized
  subst hsz
  have hD := hD0.self (sz := s.heap.size)
  generalize hAe : va_A (vM cy a σ0) s.heap.size = A at hD ⊢
  have hA : ∀ q : Nat, s.heap.size ≤ q → A q := fun q h => by rw [← hAe]; exact Or.inr h
  have hS : va_S A s.heap s.heap [] := va_S.rf
  have hl := lv_entry ([.ref (a 0), .int (L0 1)]) (n := 3) (Nat.le_of_ble_eq_true rfl)
  rw [lg_entry_eq]
  generalize (lg_sl ([.ref (a 0), .int (L0 1)]) ++ List.replicate (3 - (lg_sl ([.ref (a 0), .int (L0 1)])).length) Slot.unset).toArray = ls at hl ⊢
  have hl : lv_has ls 3 [(0, .ref (a 0)), (1, .int (L0 1))] := hl
  have blk : ∀ k : Nat, (bT p l e (headSpec w_x_tellLocal ({ frames := 3, cells := 0, slots := 0, locals := 64 })).room s m #[.ref (a 0), .int (L0 1)] below meth c dC dI cy a A (qV dC dI cy a A below #[.ref (a 0), .int (L0 1)] s) 3 (x_tellLocal k 0) (fun L => [(0, .ref (a 0)), (1, .int (L 1))]) 0 (fun L => [])) ∧ (bT p l e (headSpec w_x_tellLocal ({ frames := 3, cells := 0, slots := 0, locals := 64 })).room s m #[.ref (a 0), .int (L0 1)] below meth c dC dI cy a A (qV dC dI cy a A below #[.ref (a 0), .int (L0 1)] s) 3 (x_tellLocal k 1) (fun L => [(0, .ref (a 0)), (1, .int (L 1))]) 12 (fun L => [])) ∧ (bT p l e (headSpec w_x_tellLocal ({ frames := 3, cells := 0, slots := 0, locals := 64 })).room s m #[.ref (a 0), .int (L0 1)] below meth c dC dI cy a A (qV dC dI cy a A below #[.ref (a 0), .int (L0 1)] s) 3 (x_tellLocal k 2) (fun L => [(0, .ref (a 0)), (1, .int (L 1)), (2, .int (L 2))]) 14 (fun L => [])) ∧ (bT p l e (headSpec w_x_tellLocal ({ frames := 3, cells := 0, slots := 0, locals := 64 })).room s m #[.ref (a 0), .int (L0 1)] below meth c dC dI cy a A (qV dC dI cy a A below #[.ref (a 0), .int (L0 1)] s) 3 (x_tellLocal k 3) (fun L => [(0, .ref (a 0)), (1, .int (L 1)), (2, .int (L 2))]) 50 (fun L => [])) ∧ (bT p l e (headSpec w_x_tellLocal ({ frames := 3, cells := 0, slots := 0, locals := 64 })).room s m #[.ref (a 0), .int (L0 1)] below meth c dC dI cy a A (qV dC dI cy a A below #[.ref (a 0), .int (L0 1)] s) 3 (x_tellLocal k 4) (fun L => [(0, .ref (a 0)), (1, .int (L 1)), (2, .int (L 2))]) 56 (fun L => [])) ∧ (bT p l e (headSpec w_x_tellLocal ({ frames := 3, cells := 0, slots := 0, locals := 64 })).room s m #[.ref (a 0), .int (L0 1)] below meth c dC dI cy a A (qV dC dI cy a A below #[.ref (a 0), .int (L0 1)] s) 3 (x_tellLocal k 5) (fun L => [(0, .ref (a 0)), (1, .int (L 1)), (2, .int (L 2))]) 67 (fun L => [])) ∧ (bT p l e (headSpec w_x_tellLocal ({ frames := 3, cells := 0, slots := 0, locals := 64 })).room s m #[.ref (a 0), .int (L0 1)] below meth c dC dI cy a A (qV dC dI cy a A below #[.ref (a 0), .int (L0 1)] s) 3 (x_tellLocal k 6) (fun L => [(0, .ref (a 0)), (1, .int (L 1)), (2, .int (L 2))]) 72 (fun L => [.int (L 100)])) ∧ (bT p l e (headSpec w_x_tellLocal ({ frames := 3, cells := 0, slots := 0, locals := 64 })).room s m #[.ref (a 0), .int (L0 1)] below meth c dC dI cy a A (qV dC dI cy a A below #[.ref (a 0), .int (L0 1)] s) 3 (x_tellLocal k 7) (fun L => [(0, .ref (a 0)), (1, .int (L 1)), (2, .int (L 2))]) 110 (fun L => [])) := by
    intro k
    induction k with
    | zero => exact ⟨fun L σ r h => (by cases h), fun L σ r h => (by cases h), fun L σ r h => (by cases h), fun L σ r h => (by cases h), fun L σ r h => (by cases h), fun L σ r h => (by cases h), fun L σ r h => (by cases h), fun L σ r h => (by cases h)⟩
    | succ k ih =>
      refine ⟨?_, ?_, ?_, ?_, ?_, ?_, ?_, ?_⟩
      · intro L σ r h H locs ls hP hD hS hl
        rw [x_tellLocal] at h
        refine lv_aload_n hx hb dX12_tellLocal_0 rfl (lv_at hl 0 rfl) ?_
        obtain ⟨r1, hc1, h⟩ := ob_ex h
        refine nc_Vv (As := []) (rest := []) ⟨hx, hb, hml, hown, hts⟩ (c_x_wantName l dC dI cy a k (fun _ => 0) σ r1 hc1 H.size) (cwV 0 hts g_x_tellLocal_wantName_279 rfl rfl rfl hd_x_wantName ⟨Nat.le_of_ble_eq_true rfl, Nat.le_of_ble_eq_true rfl⟩) hK hG hA hP hD hS rfl hl.1 rfl (Nat.le_of_ble_eq_true rfl) dX12_tellLocal_1 ⟨Nat.le_refl _, Nat.le_refl _⟩ (fun H locs hP hD hS => ?_)
        refine lv_aload_n hx hb dX12_tellLocal_4 rfl (lv_at hl 0 rfl) ?_
        refine ng_10 hx hb hts in_x_tellLocal hown hK hP (hts _ (List.mem_cons_of_mem _ (List.mem_append_left _ (List.mem_append_left _ (List.mem_of_getElem? (i := 4) rfl))))) dX12_tellLocal_5 ?_
        refine lv_if_eq (tgt := 12) hx hb dX12_tellLocal_8 (by decide) (fun c2 => ?_) (fun c2 => ?_)
        · rw [if_pos c2] at h
          exact ih.2.1 L r1.2 r h H locs ls hP hD hS (lv_sub hl [0, 1] rfl)
        · rw [if_neg c2] at h
          cases h
          exact W.vret hx hb hr (fun t ht hW => ⟨⟨(), rfl, trivial, by rw [ht]; exact hP, va_K.moved hW.alike hK, hD⟩, hS.F ht⟩) hS.2.2 dX12_tellLocal_11
      · intro L σ r h H locs ls hP hD hS hl
        rw [x_tellLocal] at h
        refine lv_iconst (v := 0) hx hb dX12_tellLocal_12 (by decide) ?_
        refine lv_istore_n (lv' := [(2, .int 0), (0, .ref (a 0)), (1, .int (L 1))]) hx hb dX12_tellLocal_13 rfl hl (by decide) rfl (fun ls hl => ?_)
        exact ih.2.2.1 (upd L 2 0) σ r h H locs ls hP hD hS (lv_sub hl [1, 2, 0] rfl)
      · intro L σ r h H locs ls hP hD hS hl
        rw [x_tellLocal] at h
        refine lv_iload_n hx hb dX12_tellLocal_14 rfl (lv_at hl 2 rfl) ?_
        refine lv_aload_n hx hb dX12_tellLocal_15 rfl (lv_at hl 0 rfl) ?_
        refine ng_38 hx hb hts in_x_tellLocal hown hK hP (hts _ (List.mem_cons_of_mem _ (List.mem_append_left _ (List.mem_append_left _ (List.mem_of_getElem? (i := 5) rfl))))) dX12_tellLocal_16 ?_
        refine lv_icmp_ge (tgt := 56) hx hb dX12_tellLocal_19 (by decide) (fun c1 => ?_) (fun c1 => ?_)
        · rw [if_pos c1] at h
          exact ih.2.2.2.2.1 L σ r h H locs ls hP hD hS (lv_sub hl [0, 1, 2] rfl)
        · rw [if_neg c1] at h
          refine lv_aload_n hx hb dX12_tellLocal_22 rfl (lv_at hl 0 rfl) ?_
          refine lv_aload_n hx hb dX12_tellLocal_23 rfl (lv_at hl 0 rfl) ?_
          refine ng_39 hx hb hts in_x_tellLocal hown hK hP (hts _ (List.mem_cons_of_mem _ (List.mem_append_left _ (List.mem_append_left _ (List.mem_of_getElem? (i := 6) rfl))))) dX12_tellLocal_24 ?_
          refine lv_iload_n hx hb dX12_tellLocal_27 rfl (lv_at hl 2 rfl) ?_
          obtain ⟨q2, h⟩ := nb_ite1 h
          refine nl_22 hx hb hK hP q2 dX12_tellLocal_28 ?_
          refine lv_aload_n hx hb dX12_tellLocal_29 rfl (lv_at hl 0 rfl) ?_
          refine ng_40 hx hb hts in_x_tellLocal hown hK hP (hts _ (List.mem_cons_of_mem _ (List.mem_append_left _ (List.mem_append_left _ (List.mem_of_getElem? (i := 7) rfl))))) dX12_tellLocal_30 ?_
          refine lv_iload_n hx hb dX12_tellLocal_33 rfl (lv_at hl 2 rfl) ?_
          obtain ⟨q3, h⟩ := nb_ite1 h
          refine nl_23 hx hb hK hP q3 dX12_tellLocal_34 ?_
          obtain ⟨r4, hc4, h⟩ := ob_ex h
          refine nc_Vi (As := [.int (σ.2.2 22 ((L 2)).toNatClampNeg), .int (σ.2.2 23 ((L 2)).toNatClampNeg)]) (rest := []) ⟨hx, hb, hml, hown, hts⟩ (c_x_isNamed l dC dI cy a k (upd (upd (fun _ => 0) 1 ((σ.2.2 22 ((L 2)).toNatClampNeg))) 2 ((σ.2.2 23 ((L 2)).toNatClampNeg))) σ r4 hc4 H.size) (cwV 2 hts g_x_tellLocal_isNamed_123 rfl rfl rfl hd_x_isNamed ⟨Nat.le_of_ble_eq_true rfl, Nat.le_of_ble_eq_true rfl⟩) hK hG hA hP hD hS rfl hl.1 rfl (Nat.le_of_ble_eq_true rfl) dX12_tellLocal_35 ⟨Nat.le_refl _, Nat.le_refl _⟩ (fun H locs hP hD hS => ?_)
          refine lv_if_eq (tgt := 50) hx hb dX12_tellLocal_38 (by decide) (fun c5 => ?_) (fun c5 => ?_)
          · rw [if_pos c5] at h
            exact ih.2.2.2.1 L r4.2 r h H locs ls hP hD hS (lv_sub hl [0, 1, 2] rfl)
          · rw [if_neg c5] at h
            refine lv_aload_n hx hb dX12_tellLocal_41 rfl (lv_at hl 0 rfl) ?_
            refine lv_iconst (v := 4) hx hb dX12_tellLocal_42 (by decide) ?_
            refine lv_aload_n hx hb dX12_tellLocal_43 rfl (lv_at hl 0 rfl) ?_
            refine ng_8 hx hb hts in_x_tellLocal hown hK hP (hts _ (List.mem_cons_of_mem _ (List.mem_append_left _ (List.mem_append_left _ (List.mem_of_getElem? (i := 11) rfl))))) dX12_tellLocal_44 ?_
            obtain ⟨r6, hc6, h⟩ := ob_ex h
            refine nc_Vv (As := [.int 4, .int (r4.2.1 8)]) (rest := []) ⟨hx, hb, hml, hown, hts⟩ (c_x_fault l dC dI cy a k (upd (upd (fun _ => 0) 1 4) 2 ((r4.2.1 8))) r4.2 r6 hc6 H.size) (cwV 2 hts g_x_tellLocal_fault_58 rfl rfl rfl hd_x_fault ⟨Nat.le_of_ble_eq_true rfl, Nat.le_of_ble_eq_true rfl⟩) hK hG hA hP hD hS rfl hl.1 rfl (Nat.le_of_ble_eq_true rfl) dX12_tellLocal_47 ⟨Nat.le_refl _, Nat.le_refl _⟩ (fun H locs hP hD hS => ?_)
            exact ih.2.2.2.1 L r6.2 r h H locs ls hP hD hS (lv_sub hl [0, 1, 2] rfl)
      · intro L σ r h H locs ls hP hD hS hl
        rw [x_tellLocal] at h
        refine lv_iinc (v := ((L 2)) + 1) (lv' := [(2, .int (((L 2)) + 1)), (0, .ref (a 0)), (1, .int (L 1))]) hx hb dX12_tellLocal_50 hl (k := 2) rfl rfl (by decide) rfl (fun ls hl => ?_)
        refine lv_goto (tgt := 14) hx hb dX12_tellLocal_53 (by decide) ?_
        exact ih.2.2.1 (upd L 2 (((L 2)) + 1)) σ r h H locs ls hP hD hS (lv_sub hl [1, 2, 0] rfl)
      · intro L σ r h H locs ls hP hD hS hl
        rw [x_tellLocal] at h
        refine lv_aload_n hx hb dX12_tellLocal_56 rfl (lv_at hl 0 rfl) ?_
        refine ng_10 hx hb hts in_x_tellLocal hown hK hP (hts _ (List.mem_cons_of_mem _ (List.mem_append_left _ (List.mem_append_left _ (List.mem_of_getElem? (i := 4) rfl))))) dX12_tellLocal_57 ?_
        refine lv_if_eq (tgt := 67) hx hb dX12_tellLocal_60 (by decide) (fun c1 => ?_) (fun c1 => ?_)
        · rw [if_pos c1] at h
          exact ih.2.2.2.2.2.1 L σ r h H locs ls hP hD hS (lv_sub hl [0, 1, 2] rfl)
        · rw [if_neg c1] at h
          refine lv_iconst (v := 0) hx hb dX12_tellLocal_63 (by decide) ?_
          refine lv_goto (tgt := 72) hx hb dX12_tellLocal_64 (by decide) ?_
          exact ih.2.2.2.2.2.2.1 (upd L 100 0) σ r h H locs ls hP hD hS (lv_sub hl [0, 1, 2] rfl)
      · intro L σ r h H locs ls hP hD hS hl
        rw [x_tellLocal] at h
        refine lv_aload_n hx hb dX12_tellLocal_67 rfl (lv_at hl 0 rfl) ?_
        refine lv_iload_n hx hb dX12_tellLocal_68 rfl (lv_at hl 1 rfl) ?_
        obtain ⟨r1, hc1, h⟩ := ob_ex h
        refine nc_Vi (As := [.int (L 1)]) (rest := []) ⟨hx, hb, hml, hown, hts⟩ (c_x_newSlot l dC dI cy a k (upd (fun _ => 0) 1 ((L 1))) σ r1 hc1 H.size) (cwV 1 hts g_x_tellLocal_newSlot_282 rfl rfl rfl hd_x_newSlot ⟨Nat.le_of_ble_eq_true rfl, Nat.le_of_ble_eq_true rfl⟩) hK hG hA hP hD hS rfl hl.1 rfl (Nat.le_of_ble_eq_true rfl) dX12_tellLocal_69 ⟨Nat.le_refl _, Nat.le_refl _⟩ (fun H locs hP hD hS => ?_)
        exact ih.2.2.2.2.2.2.1 (upd L 100 r1.1) r1.2 r h H locs ls hP hD hS (lv_sub hl [0, 1, 2] rfl)
      · intro L σ r h H locs ls hP hD hS hl
        rw [x_tellLocal] at h
        refine lv_istore_n (lv' := [(2, .int (L 100)), (0, .ref (a 0)), (1, .int (L 1))]) hx hb dX12_tellLocal_72 rfl hl (by decide) rfl (fun ls hl => ?_)
        refine lv_aload_n hx hb dX12_tellLocal_73 rfl (lv_at hl 1 rfl) ?_
        refine ng_10 hx hb hts in_x_tellLocal hown hK hP (hts _ (List.mem_cons_of_mem _ (List.mem_append_left _ (List.mem_append_left _ (List.mem_of_getElem? (i := 4) rfl))))) dX12_tellLocal_74 ?_
        refine lv_if_ne (tgt := 110) hx hb dX12_tellLocal_77 (by decide) (fun c1 => ?_) (fun c1 => ?_)
        · rw [if_neg c1] at h
          exact ih.2.2.2.2.2.2.2 (upd L 2 ((L 100))) σ r h H locs ls hP hD hS (lv_sub hl [1, 2, 0] rfl)
        · rw [if_pos c1] at h
          refine lv_aload_n hx hb dX12_tellLocal_80 rfl (lv_at hl 1 rfl) ?_
          refine lv_aload_n hx hb dX12_tellLocal_81 rfl (lv_at hl 1 rfl) ?_
          refine lv_aload_n hx hb dX12_tellLocal_82 rfl (lv_at hl 1 rfl) ?_
          refine ng_8 hx hb hts in_x_tellLocal hown hK hP (hts _ (List.mem_cons_of_mem _ (List.mem_append_left _ (List.mem_append_left _ (List.mem_of_getElem? (i := 11) rfl))))) dX12_tellLocal_83 ?_
          refine lv_aload_n hx hb dX12_tellLocal_86 rfl (lv_at hl 1 rfl) ?_
          refine ng_9 hx hb hts in_x_tellLocal hown hK hP (hts _ (List.mem_cons_of_mem _ (List.mem_append_left _ (List.mem_append_left _ (List.mem_of_getElem? (i := 18) rfl))))) dX12_tellLocal_87 ?_
          obtain ⟨r2, hc2, h⟩ := ob_ex h
          refine nc_Vi (As := [.int (σ.1 8), .int (σ.1 9)]) (rest := [.ref (a 0)]) ⟨hx, hb, hml, hown, hts⟩ (c_x_keep l dC dI cy a k (upd (upd (fun _ => 0) 1 ((σ.1 8))) 2 ((σ.1 9))) σ r2 hc2 H.size) (cwV 2 hts g_x_tellLocal_keep_154 rfl rfl rfl hd_x_keep ⟨Nat.le_of_ble_eq_true rfl, Nat.le_of_ble_eq_true rfl⟩) hK hG hA hP hD hS rfl hl.1 rfl (Nat.le_of_ble_eq_true rfl) dX12_tellLocal_90 ⟨Nat.le_refl _, Nat.le_refl _⟩ (fun H locs hP hD hS => ?_)
          refine lv_aload_n hx hb dX12_tellLocal_93 rfl (lv_at hl 1 rfl) ?_
          refine ng_9 hx hb hts in_x_tellLocal hown hK hP (hts _ (List.mem_cons_of_mem _ (List.mem_append_left _ (List.mem_append_left _ (List.mem_of_getElem? (i := 18) rfl))))) dX12_tellLocal_94 ?_
          refine lv_aload_n hx hb dX12_tellLocal_97 rfl (lv_at hl 1 rfl) ?_
          refine ng_8 hx hb hts in_x_tellLocal hown hK hP (hts _ (List.mem_cons_of_mem _ (List.mem_append_left _ (List.mem_append_left _ (List.mem_of_getElem? (i := 11) rfl))))) dX12_tellLocal_98 ?_
          refine lv_isub hx hb dX12_tellLocal_101 ?_
          refine lv_iload_n hx hb dX12_tellLocal_102 rfl (lv_at hl 0 rfl) ?_
          obtain ⟨r3, hc3, h⟩ := ob_ex h
          refine nc_Vv (As := [.int r2.1, .int (((r2.2.1 9)) - ((r2.2.1 8))), .int (L 100)]) (rest := []) ⟨hx, hb, hml, hown, hts⟩ (c_x_see l dC dI cy a k (upd (upd (upd (fun _ => 0) 1 r2.1) 2 ((((r2.2.1 9)) - ((r2.2.1 8))))) 3 ((L 100))) r2.2 r3 hc3 H.size) (cwV 3 hts g_x_tellLocal_see_275 rfl rfl rfl hd_x_see ⟨Nat.le_of_ble_eq_true rfl, Nat.le_of_ble_eq_true rfl⟩) hK hG hA hP hD hS rfl hl.1 rfl (Nat.le_of_ble_eq_true rfl) dX12_tellLocal_103 ⟨Nat.le_refl _, Nat.le_refl _⟩ (fun H locs hP hD hS => ?_)
          refine lv_aload_n hx hb dX12_tellLocal_106 rfl (lv_at hl 1 rfl) ?_
          obtain ⟨r4, hc4, h⟩ := ob_ex h
          refine nc_Vv (As := []) (rest := []) ⟨hx, hb, hml, hown, hts⟩ (c_x_take l dC dI cy a k (fun _ => 0) r3.2 r4 hc4 H.size) (cwV 0 hts g_x_tellLocal_take_71 rfl rfl rfl hd_x_take ⟨Nat.le_of_ble_eq_true rfl, Nat.le_of_ble_eq_true rfl⟩) hK hG hA hP hD hS rfl hl.1 rfl (Nat.le_of_ble_eq_true rfl) dX12_tellLocal_107 ⟨Nat.le_refl _, Nat.le_refl _⟩ (fun H locs hP hD hS => ?_)
          exact ih.2.2.2.2.2.2.2 (upd L 2 ((L 100))) r4.2 r h H locs ls hP hD hS (lv_sub hl [1, 2, 0] rfl)
      · intro L σ r h H locs ls hP hD hS hl
        rw [x_tellLocal] at h
        cases h
        exact W.vret hx hb hr (fun t ht hW => ⟨⟨(), rfl, trivial, by rw [ht]; exact hP, va_K.moved hW.alike hK, hD⟩, hS.F ht⟩) hS.2.2 dX12_tellLocal_110
  exact (blk k0).1 L0 σ0 r0 h0 s.heap [] ls hP hD hS hl

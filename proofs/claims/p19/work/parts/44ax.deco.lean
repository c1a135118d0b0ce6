theorem gg_x_bounds_answer : GoodIn w_x_bounds w_x_answer := goodIn_sub (fun w h => (List.mem_cons.mp h).elim (fun e => (List.mem_cons_of_mem _ (List.mem_append_left _ (List.mem_append_right _ (List.mem_append_right _ (List.mem_append_right _ (List.mem_append_left _ (List.mem_cons.mpr (Or.inl e))))))))) (fun h => (List.mem_append.mp h).elim (fun h => (List.mem_cons_of_mem _ (List.mem_append_left _ (List.mem_append_right _ (List.mem_append_right _ (List.mem_append_right _ (List.mem_append_left _ (List.mem_cons_of_mem _ h)))))))) (fun h => List.mem_cons_of_mem _ (List.mem_append_right _ h)))) w_x_answer_good
theorem g_x_bounds_answer_591 : GoodIn w_x_bounds (wsV RX12 591 RX12 yX12_answer w_x_answer) := goodIn_app (nb_g4 (List.mem_cons_of_mem _ (List.mem_append_left _ (List.mem_append_left _ (List.mem_of_getElem? (i := 25) rfl)))) (List.mem_cons_of_mem _ (List.mem_append_left _ (List.mem_append_left _ (List.mem_of_getElem? (i := 26) rfl)))) (List.mem_cons_of_mem _ (List.mem_append_left _ (List.mem_append_left _ (List.mem_of_getElem? (i := 27) rfl)))) (List.mem_cons_of_mem _ (List.mem_append_left _ (List.mem_append_left _ (List.mem_of_getElem? (i := 19) rfl)))) (by decide +kernel)) gg_x_bounds_answer
theorem gg_x_bounds_eval : GoodIn w_x_bounds w_x_eval := goodIn_sub (fun w h => (List.mem_cons.mp h).elim (fun e => e ▸ (List.mem_cons_of_mem _ (List.mem_append_left _ (List.mem_append_left _ (List.mem_of_getElem? (i := 4) rfl))))) (fun h => List.mem_cons_of_mem _ h)) w_x_eval_good
theorem g_x_bounds_eval_566 : GoodIn w_x_bounds (wsV RX12 566 RX12 yX12_eval w_x_eval) := goodIn_app (nb_g4 (List.mem_cons_of_mem _ (List.mem_append_left _ (List.mem_append_left _ (List.mem_of_getElem? (i := 62) rfl)))) (List.mem_cons_of_mem _ (List.mem_append_left _ (List.mem_append_left _ (List.mem_of_getElem? (i := 63) rfl)))) (List.mem_cons_of_mem _ (List.mem_append_left _ (List.mem_append_left _ (List.mem_of_getElem? (i := 64) rfl)))) (List.mem_cons_of_mem _ (List.mem_append_left _ (List.mem_append_left _ (List.mem_of_getElem? (i := 19) rfl)))) (by decide +kernel)) gg_x_bounds_eval
theorem gg_x_bounds_push : GoodIn w_x_bounds w_x_push := goodIn_sub (fun w h => (List.mem_cons.mp h).elim (fun e => (List.mem_cons_of_mem _ (List.mem_append_left _ (List.mem_append_right _ (List.mem_append_right _ (List.mem_append_right _ (List.mem_append_right _ (List.mem_append_left _ (List.mem_cons.mpr (Or.inl e)))))))))) (fun h => (List.mem_append.mp h).elim (fun h => (List.mem_cons_of_mem _ (List.mem_append_left _ (List.mem_append_right _ (List.mem_append_right _ (List.mem_append_right _ (List.mem_append_right _ (List.mem_append_left _ (List.mem_cons_of_mem _ h))))))))) (fun h => List.mem_cons_of_mem _ (List.mem_append_right _ h)))) w_x_push_good
theorem g_x_bounds_push_594 : GoodIn w_x_bounds (wsV RX12 594 RX12 yX12_push w_x_push) := goodIn_app (nb_g4 (List.mem_cons_of_mem _ (List.mem_append_left _ (List.mem_append_left _ (List.mem_of_getElem? (i := 28) rfl)))) (List.mem_cons_of_mem _ (List.mem_append_left _ (List.mem_append_left _ (List.mem_of_getElem? (i := 29) rfl)))) (List.mem_cons_of_mem _ (List.mem_append_left _ (List.mem_append_left _ (List.mem_of_getElem? (i := 30) rfl)))) (List.mem_cons_of_mem _ (List.mem_append_left _ (List.mem_append_left _ (List.mem_of_getElem? (i := 19) rfl)))) (by decide +kernel)) gg_x_bounds_push
theorem gg_x_bounds_range : GoodIn w_x_bounds w_x_range := goodIn_sub (fun w h => (List.mem_cons.mp h).elim (fun e => (List.mem_cons_of_mem _ (List.mem_append_left _ (List.mem_append_right _ (List.mem_append_right _ (List.mem_append_right _ (List.mem_append_right _ (List.mem_append_right _ (List.mem_append_right _ (List.mem_append_right _ (List.mem_append_right _ (List.mem_append_right _ (List.mem_append_right _ (List.mem_append_left _ (List.mem_cons.mpr (Or.inl e)))))))))))))))) (fun h => (List.mem_append.mp h).elim (fun h => (List.mem_cons_of_mem _ (List.mem_append_left _ (List.mem_append_right _ (List.mem_append_right _ (List.mem_append_right _ (List.mem_append_right _ (List.mem_append_right _ (List.mem_append_right _ (List.mem_append_right _ (List.mem_append_right _ (List.mem_append_right _ (List.mem_append_right _ (List.mem_append_left _ (List.mem_cons_of_mem _ h))))))))))))))) (fun h => List.mem_cons_of_mem _ (List.mem_append_right _ h)))) w_x_range_good
theorem g_x_bounds_range_662 : GoodIn w_x_bounds (wsV RX12 662 RX12 yX12_range w_x_range) := goodIn_app (nb_g4 (List.mem_cons_of_mem _ (List.mem_append_left _ (List.mem_append_left _ (List.mem_of_getElem? (i := 73) rfl)))) (List.mem_cons_of_mem _ (List.mem_append_left _ (List.mem_append_left _ (List.mem_of_getElem? (i := 74) rfl)))) (List.mem_cons_of_mem _ (List.mem_append_left _ (List.mem_append_left _ (List.mem_of_getElem? (i := 75) rfl)))) (List.mem_cons_of_mem _ (List.mem_append_left _ (List.mem_append_left _ (List.mem_of_getElem? (i := 19) rfl)))) (by decide +kernel)) gg_x_bounds_range
theorem gg_x_bounds_sweep : GoodIn w_x_bounds w_x_sweep := goodIn_sub (fun w h => (List.mem_cons.mp h).elim (fun e => (List.mem_cons_of_mem _ (List.mem_append_left _ (List.mem_append_right _ (List.mem_append_left _ (List.mem_cons.mpr (Or.inl e))))))) (fun h => (List.mem_append.mp h).elim (fun h => (List.mem_cons_of_mem _ (List.mem_append_left _ (List.mem_append_right _ (List.mem_append_left _ (List.mem_cons_of_mem _ h)))))) (fun h => List.mem_cons_of_mem _ (List.mem_append_right _ h)))) w_x_sweep_good
theorem g_x_bounds_sweep_585 : GoodIn w_x_bounds (wsV RX12 585 RX12 yX12_sweep w_x_sweep) := goodIn_app (nb_g4 (List.mem_cons_of_mem _ (List.mem_append_left _ (List.mem_append_left _ (List.mem_of_getElem? (i := 16) rfl)))) (List.mem_cons_of_mem _ (List.mem_append_left _ (List.mem_append_left _ (List.mem_of_getElem? (i := 17) rfl)))) (List.mem_cons_of_mem _ (List.mem_append_left _ (List.mem_append_left _ (List.mem_of_getElem? (i := 18) rfl)))) (List.mem_cons_of_mem _ (List.mem_append_left _ (List.mem_append_left _ (List.mem_of_getElem? (i := 19) rfl)))) (by decide +kernel)) gg_x_bounds_sweep
set_option maxHeartbeats 40000000 in
set_option maxRecDepth 100000 in
theorem c_s_bounds (l : Launch) (dC : Nat → ClassId) (dI : Nat → Nat → Nat) (cy : Nat → ClassId) (a : Nat → Nat) (k0 : Nat) (IH : ∀ j : Nat, j < k0 → P_GV l dC dI cy a j) (d : Nat) (L0 : Nat → Int32) (σ0 : MS) (r0 : Int32 × MS) (h0 : x_GV k0 d 1 0 L0 σ0 = some r0) (sz : Nat) : Met l yX12_bounds w_x_bounds ({ frames := 57 + d, cells := 0, slots := 0, locals := 1375 + 27 * d }) (va_Pc [.ref (a 0), .int (L0 1)] (nIn (dC, dI) cy sz (vM cy a σ0))) (va_Qv (fun _ : Unit => True) (fun _ t => nOut (dC, dI) cy (va_A (vM cy a σ0) sz) (vM cy a r0.2) t) (va_A (vM cy a σ0) sz)) 0 0 (va_A (vM cy a σ0) sz) := by
  refine Met.ofW (cc := cX12_bounds) (maxL := 2) (ret := none) (by decide) rfl ?_
  intro p e s m args below meth c s₁ B hml hv
  obtain ⟨rfl, hsz, hP, hK, hD0, hG⟩ := hv
  have hx := B.exec
  have hb := B.bytes
  have hr := B.returns
  have hts := atoms_spec (ws := w_x_bounds) B.pre
  have hown : s.vm.findClass RX12 = some m.cls := findClass_of_methodNamed B.named
  have hlocks := B.notSynchronized
  subst hsz
  have hD := hD0.self (sz := s.heap.size)
  generalize hAe : va_A (vM cy a σ0) s.heap.size = A at hD ⊢
  have hA : ∀ q : Nat, s.heap.size ≤ q → A q := fun q h => by rw [← hAe]; exact Or.inr h
  have hS : va_S A s.heap s.heap [] := va_S.rf
  have hl := lv_entry ([.ref (a 0), .int (L0 1)]) (n := 2) (Nat.le_of_ble_eq_true rfl)
  rw [lg_entry_eq]
  generalize (lg_sl ([.ref (a 0), .int (L0 1)]) ++ List.replicate (2 - (lg_sl ([.ref (a 0), .int (L0 1)])).length) Slot.unset).toArray = ls at hl ⊢
  have hl : lv_has ls 2 [(0, .ref (a 0)), (1, .int (L0 1))] := hl
  have blk : ∀ k : Nat, k ≤ k0 → (bT p l e (headSpec w_x_bounds ({ frames := 57 + d, cells := 0, slots := 0, locals := 1375 + 27 * d })).room s m #[.ref (a 0), .int (L0 1)] below meth c dC dI cy a A (qV dC dI cy a A below #[.ref (a 0), .int (L0 1)] s) 2 (x_GV k d 1 0) (fun L => [(0, .ref (a 0)), (1, .int (L 1))]) 0 (fun L => [])) ∧ (bT p l e (headSpec w_x_bounds ({ frames := 57 + d, cells := 0, slots := 0, locals := 1375 + 27 * d })).room s m #[.ref (a 0), .int (L0 1)] below meth c dC dI cy a A (qV dC dI cy a A below #[.ref (a 0), .int (L0 1)] s) 2 (x_GV k d 1 1) (fun L => [(0, .ref (a 0)), (1, .int (L 1))]) 37 (fun L => [])) ∧ (bT p l e (headSpec w_x_bounds ({ frames := 57 + d, cells := 0, slots := 0, locals := 1375 + 27 * d })).room s m #[.ref (a 0), .int (L0 1)] below meth c dC dI cy a A (qV dC dI cy a A below #[.ref (a 0), .int (L0 1)] s) 2 (x_GV k d 1 2) (fun L => [(0, .ref (a 0)), (1, .int (L 1))]) 54 (fun L => [])) ∧ (bT p l e (headSpec w_x_bounds ({ frames := 57 + d, cells := 0, slots := 0, locals := 1375 + 27 * d })).room s m #[.ref (a 0), .int (L0 1)] below meth c dC dI cy a A (qV dC dI cy a A below #[.ref (a 0), .int (L0 1)] s) 2 (x_GV k d 1 3) (fun L => [(0, .ref (a 0)), (1, .int (L 1))]) 85 (fun L => [.ref (a 0), .ref (a 0), .ref (a 0)])) ∧ (bT p l e (headSpec w_x_bounds ({ frames := 57 + d, cells := 0, slots := 0, locals := 1375 + 27 * d })).room s m #[.ref (a 0), .int (L0 1)] below meth c dC dI cy a A (qV dC dI cy a A below #[.ref (a 0), .int (L0 1)] s) 2 (x_GV k d 1 4) (fun L => [(0, .ref (a 0)), (1, .int (L 1))]) 86 (fun L => [.int (L 100), .ref (a 0), .ref (a 0), .ref (a 0)])) ∧ (bT p l e (headSpec w_x_bounds ({ frames := 57 + d, cells := 0, slots := 0, locals := 1375 + 27 * d })).room s m #[.ref (a 0), .int (L0 1)] below meth c dC dI cy a A (qV dC dI cy a A below #[.ref (a 0), .int (L0 1)] s) 2 (x_GV k d 1 5) (fun L => [(0, .ref (a 0)), (1, .int (L 1))]) 100 (fun L => [.int (L 100), .ref (a 0), .ref (a 0), .ref (a 0)])) ∧ (bT p l e (headSpec w_x_bounds ({ frames := 57 + d, cells := 0, slots := 0, locals := 1375 + 27 * d })).room s m #[.ref (a 0), .int (L0 1)] below meth c dC dI cy a A (qV dC dI cy a A below #[.ref (a 0), .int (L0 1)] s) 2 (x_GV k d 1 6) (fun L => [(0, .ref (a 0)), (1, .int (L 1))]) 101 (fun L => [.int (L 100), .int (L 101), .ref (a 0), .ref (a 0), .ref (a 0)])) ∧ (bT p l e (headSpec w_x_bounds ({ frames := 57 + d, cells := 0, slots := 0, locals := 1375 + 27 * d })).room s m #[.ref (a 0), .int (L0 1)] below meth c dC dI cy a A (qV dC dI cy a A below #[.ref (a 0), .int (L0 1)] s) 2 (x_GV k d 1 7) (fun L => [(0, .ref (a 0)), (1, .int (L 1))]) 110 (fun L => [])) := by
    intro k
    induction k with
    | zero => exact fun _ => ⟨fun L σ r h => (by cases h), fun L σ r h => (by cases h), fun L σ r h => (by cases h), fun L σ r h => (by cases h), fun L σ r h => (by cases h), fun L σ r h => (by cases h), fun L σ r h => (by cases h), fun L σ r h => (by cases h)⟩
    | succ k ih =>
      intro hk
      replace ih := ih (by omega)
      refine ⟨?_, ?_, ?_, ?_, ?_, ?_, ?_, ?_⟩
      · intro L σ r h H locs ls hP hD hS hl
        rw [x_GV_1, s_bounds_0] at h
        refine lv_aload_n hx hb dX12_bounds_0 rfl (lv_at hl 0 rfl) ?_
        refine lv_aload_n hx hb dX12_bounds_1 rfl (lv_at hl 0 rfl) ?_
        refine ng_16 hx hb hts in_x_bounds hown hK hP (hts _ (List.mem_cons_of_mem _ (List.mem_append_left _ (List.mem_append_left _ (List.mem_of_getElem? (i := 21) rfl))))) dX12_bounds_2 ?_
        refine lv_iload_n hx hb dX12_bounds_5 rfl (lv_at hl 1 rfl) ?_
        obtain ⟨q1, h⟩ := nb_ite1 h
        refine nl_6 hx hb hK hP q1 dX12_bounds_6 ?_
        obtain ⟨e2, he2, h⟩ := od_ex h
        obtain ⟨r2, hc2, h⟩ := ob_ex h
        refine nc_Vv (As := [.int (σ.2.2 6 ((L 1)).toNatClampNeg)]) (rest := []) ⟨hx, hb, hml, hown, hts⟩ ((IH k (by omega)).2.2.2.2.1 e2 (upd (fun _ => 0) 1 ((σ.2.2 6 ((L 1)).toNatClampNeg))) σ r2 hc2 H.size) (cwV 1 hts g_x_bounds_eval_566 rfl rfl rfl hd_x_eval (by show (57 + e2) + 1 ≤ 57 + d ∧ 8 + (3 + 11) + (1375 + 27 * e2) ≤ 1375 + 27 * d; omega)) hK hG hA hP hD hS rfl hl.1 rfl (Nat.le_of_ble_eq_true rfl) dX12_bounds_7 ⟨Nat.le_refl _, Nat.le_refl _⟩ (fun H locs hP hD hS => ?_)
        refine lv_aload_n hx hb dX12_bounds_10 rfl (lv_at hl 0 rfl) ?_
        refine ng_17 hx hb hts in_x_bounds hown hK hP (hts _ (List.mem_cons_of_mem _ (List.mem_append_left _ (List.mem_append_left _ (List.mem_of_getElem? (i := 71) rfl))))) dX12_bounds_11 ?_
        refine lv_iload_n hx hb dX12_bounds_14 rfl (lv_at hl 1 rfl) ?_
        obtain ⟨q3, h⟩ := nb_ite1 h
        refine nl_7 hx hb hK hP q3 dX12_bounds_15 ?_
        refine lv_iconst (v := (-1)) hx hb dX12_bounds_16 (by decide) ?_
        refine lv_icmp_eq (tgt := 37) hx hb dX12_bounds_17 (by decide) (fun c4 => ?_) (fun c4 => ?_)
        · rw [if_pos c4] at h
          exact ih.2.1 L r2.2 r h H locs ls hP hD hS (lv_sub hl [0, 1] rfl)
        · rw [if_neg c4] at h
          refine lv_aload_n hx hb dX12_bounds_20 rfl (lv_at hl 0 rfl) ?_
          refine ng_56 hx hb hts in_x_bounds hown hK hP (hts _ (List.mem_cons_of_mem _ (List.mem_append_left _ (List.mem_append_left _ (List.mem_of_getElem? (i := 13) rfl))))) dX12_bounds_21 ?_
          refine lv_if_ne (tgt := 37) hx hb dX12_bounds_24 (by decide) (fun c5 => ?_) (fun c5 => ?_)
          · rw [if_neg c5] at h
            exact ih.2.1 L r2.2 r h H locs ls hP hD hS (lv_sub hl [0, 1] rfl)
          · rw [if_pos c5] at h
            refine lv_aload_n hx hb dX12_bounds_27 rfl (lv_at hl 0 rfl) ?_
            refine lv_aload_n hx hb dX12_bounds_28 rfl (lv_at hl 0 rfl) ?_
            refine ng_17 hx hb hts in_x_bounds hown hK hP (hts _ (List.mem_cons_of_mem _ (List.mem_append_left _ (List.mem_append_left _ (List.mem_of_getElem? (i := 71) rfl))))) dX12_bounds_29 ?_
            refine lv_iload_n hx hb dX12_bounds_32 rfl (lv_at hl 1 rfl) ?_
            obtain ⟨q6, h⟩ := nb_ite1 h
            refine nl_7 hx hb hK hP q6 dX12_bounds_33 ?_
            obtain ⟨e7, he7, h⟩ := od_ex h
            obtain ⟨r7, hc7, h⟩ := ob_ex h
            refine nc_Vv (As := [.int (r2.2.2.2 7 ((L 1)).toNatClampNeg)]) (rest := []) ⟨hx, hb, hml, hown, hts⟩ ((IH k (by omega)).2.2.2.2.1 e7 (upd (fun _ => 0) 1 ((r2.2.2.2 7 ((L 1)).toNatClampNeg))) r2.2 r7 hc7 H.size) (cwV 1 hts g_x_bounds_eval_566 rfl rfl rfl hd_x_eval (by show (57 + e7) + 1 ≤ 57 + d ∧ 8 + (3 + 11) + (1375 + 27 * e7) ≤ 1375 + 27 * d; omega)) hK hG hA hP hD hS rfl hl.1 rfl (Nat.le_of_ble_eq_true rfl) dX12_bounds_34 ⟨Nat.le_refl _, Nat.le_refl _⟩ (fun H locs hP hD hS => ?_)
            exact ih.2.1 L r7.2 r h H locs ls hP hD hS (lv_sub hl [0, 1] rfl)
      · intro L σ r h H locs ls hP hD hS hl
        rw [x_GV_1, s_bounds_1] at h
        refine lv_aload_n hx hb dX12_bounds_37 rfl (lv_at hl 0 rfl) ?_
        refine ng_56 hx hb hts in_x_bounds hown hK hP (hts _ (List.mem_cons_of_mem _ (List.mem_append_left _ (List.mem_append_left _ (List.mem_of_getElem? (i := 13) rfl))))) dX12_bounds_38 ?_
        refine lv_if_ne (tgt := 54) hx hb dX12_bounds_41 (by decide) (fun c1 => ?_) (fun c1 => ?_)
        · rw [if_neg c1] at h
          exact ih.2.2.1 L σ r h H locs ls hP hD hS (lv_sub hl [0, 1] rfl)
        · rw [if_pos c1] at h
          refine lv_aload_n hx hb dX12_bounds_44 rfl (lv_at hl 0 rfl) ?_
          refine lv_aload_n hx hb dX12_bounds_45 rfl (lv_at hl 0 rfl) ?_
          refine ng_18 hx hb hts in_x_bounds hown hK hP (hts _ (List.mem_cons_of_mem _ (List.mem_append_left _ (List.mem_append_left _ (List.mem_of_getElem? (i := 72) rfl))))) dX12_bounds_46 ?_
          refine lv_iload_n hx hb dX12_bounds_49 rfl (lv_at hl 1 rfl) ?_
          obtain ⟨q2, h⟩ := nb_ite1 h
          refine nl_8 hx hb hK hP q2 dX12_bounds_50 ?_
          obtain ⟨e3, he3, h⟩ := od_ex h
          obtain ⟨r3, hc3, h⟩ := ob_ex h
          refine nc_Vv (As := [.int (σ.2.2 8 ((L 1)).toNatClampNeg)]) (rest := []) ⟨hx, hb, hml, hown, hts⟩ ((IH k (by omega)).2.2.2.2.1 e3 (upd (fun _ => 0) 1 ((σ.2.2 8 ((L 1)).toNatClampNeg))) σ r3 hc3 H.size) (cwV 1 hts g_x_bounds_eval_566 rfl rfl rfl hd_x_eval (by show (57 + e3) + 1 ≤ 57 + d ∧ 8 + (3 + 11) + (1375 + 27 * e3) ≤ 1375 + 27 * d; omega)) hK hG hA hP hD hS rfl hl.1 rfl (Nat.le_of_ble_eq_true rfl) dX12_bounds_51 ⟨Nat.le_refl _, Nat.le_refl _⟩ (fun H locs hP hD hS => ?_)
          exact ih.2.2.1 L r3.2 r h H locs ls hP hD hS (lv_sub hl [0, 1] rfl)
      · intro L σ r h H locs ls hP hD hS hl
        rw [x_GV_1, s_bounds_2] at h
        refine lv_aload_n hx hb dX12_bounds_54 rfl (lv_at hl 0 rfl) ?_
        refine ng_56 hx hb hts in_x_bounds hown hK hP (hts _ (List.mem_cons_of_mem _ (List.mem_append_left _ (List.mem_append_left _ (List.mem_of_getElem? (i := 13) rfl))))) dX12_bounds_55 ?_
        refine lv_if_ne (tgt := 110) hx hb dX12_bounds_58 (by decide) (fun c1 => ?_) (fun c1 => ?_)
        · rw [if_neg c1] at h
          exact ih.2.2.2.2.2.2.2 L σ r h H locs ls hP hD hS (lv_sub hl [0, 1] rfl)
        · rw [if_pos c1] at h
          refine lv_aload_n hx hb dX12_bounds_61 rfl (lv_at hl 0 rfl) ?_
          refine lv_ldcw (v := 780000) hx hb hown (hts _ (List.mem_cons_of_mem _ (List.mem_append_left _ (List.mem_append_left _ (List.mem_of_getElem? (i := 15) rfl))))) dX12_bounds_62 ?_
          obtain ⟨r2, hc2, h⟩ := ob_ex h
          refine nc_Vv (As := [.int 780000]) (rest := []) ⟨hx, hb, hml, hown, hts⟩ (c_x_sweep l dC dI cy a k (upd (fun _ => 0) 1 780000) σ r2 hc2 H.size) (cwV 1 hts g_x_bounds_sweep_585 rfl rfl rfl hd_x_sweep (by show 3 + 1 ≤ 57 + d ∧ 8 + (5 + 11) + 70 ≤ 1375 + 27 * d; omega)) hK hG hA hP hD hS rfl hl.1 rfl (Nat.le_of_ble_eq_true rfl) dX12_bounds_65 ⟨Nat.le_refl _, Nat.le_refl _⟩ (fun H locs hP hD hS => ?_)
          refine lv_aload_n hx hb dX12_bounds_68 rfl (lv_at hl 0 rfl) ?_
          refine lv_aload_n hx hb dX12_bounds_69 rfl (lv_at hl 0 rfl) ?_
          refine lv_aload_n hx hb dX12_bounds_70 rfl (lv_at hl 0 rfl) ?_
          refine lv_aload_n hx hb dX12_bounds_71 rfl (lv_at hl 0 rfl) ?_
          refine ng_15 hx hb hts in_x_bounds hown hK hP (hts _ (List.mem_cons_of_mem _ (List.mem_append_left _ (List.mem_append_left _ (List.mem_of_getElem? (i := 20) rfl))))) dX12_bounds_72 ?_
          refine lv_iload_n hx hb dX12_bounds_75 rfl (lv_at hl 1 rfl) ?_
          obtain ⟨q3, h⟩ := nb_ite1 h
          refine nl_5 hx hb hK hP q3 dX12_bounds_76 ?_
          refine lv_iconst (v := 1) hx hb dX12_bounds_77 (by decide) ?_
          refine lv_icmp_ne (tgt := 85) hx hb dX12_bounds_78 (by decide) (fun c4 => ?_) (fun c4 => ?_)
          · rw [if_neg c4] at h
            exact ih.2.2.2.1 L r2.2 r h H locs ls hP hD hS (lv_sub hl [0, 1] rfl)
          · rw [if_pos c4] at h
            refine lv_iconst (v := 1) hx hb dX12_bounds_81 (by decide) ?_
            refine lv_goto (tgt := 86) hx hb dX12_bounds_82 (by decide) ?_
            exact ih.2.2.2.2.1 (upd L 100 1) r2.2 r h H locs ls hP hD hS (lv_sub hl [0, 1] rfl)
      · intro L σ r h H locs ls hP hD hS hl
        rw [x_GV_1, s_bounds_3] at h
        refine lv_iconst (v := 0) hx hb dX12_bounds_85 (by decide) ?_
        exact ih.2.2.2.2.1 (upd L 100 0) σ r h H locs ls hP hD hS (lv_sub hl [0, 1] rfl)
      · intro L σ r h H locs ls hP hD hS hl
        rw [x_GV_1, s_bounds_4] at h
        refine lv_aload_n hx hb dX12_bounds_86 rfl (lv_at hl 0 rfl) ?_
        refine ng_17 hx hb hts in_x_bounds hown hK hP (hts _ (List.mem_cons_of_mem _ (List.mem_append_left _ (List.mem_append_left _ (List.mem_of_getElem? (i := 71) rfl))))) dX12_bounds_87 ?_
        refine lv_iload_n hx hb dX12_bounds_90 rfl (lv_at hl 1 rfl) ?_
        obtain ⟨q1, h⟩ := nb_ite1 h
        refine nl_7 hx hb hK hP q1 dX12_bounds_91 ?_
        refine lv_iconst (v := (-1)) hx hb dX12_bounds_92 (by decide) ?_
        refine lv_icmp_eq (tgt := 100) hx hb dX12_bounds_93 (by decide) (fun c2 => ?_) (fun c2 => ?_)
        · rw [if_pos c2] at h
          exact ih.2.2.2.2.2.1 (upd L 100 ((L 100))) σ r h H locs ls hP hD hS (lv_sub hl [0, 1] rfl)
        · rw [if_neg c2] at h
          refine lv_iconst (v := 1) hx hb dX12_bounds_96 (by decide) ?_
          refine lv_goto (tgt := 101) hx hb dX12_bounds_97 (by decide) ?_
          exact ih.2.2.2.2.2.2.1 (upd (upd L 100 1) 101 ((L 100))) σ r h H locs ls hP hD hS (lv_sub hl [0, 1] rfl)
      · intro L σ r h H locs ls hP hD hS hl
        rw [x_GV_1, s_bounds_5] at h
        refine lv_iconst (v := 0) hx hb dX12_bounds_100 (by decide) ?_
        exact ih.2.2.2.2.2.2.1 (upd (upd L 100 0) 101 ((L 100))) σ r h H locs ls hP hD hS (lv_sub hl [0, 1] rfl)
      · intro L σ r h H locs ls hP hD hS hl
        rw [x_GV_1, s_bounds_6] at h
        obtain ⟨r1, hc1, h⟩ := ob_ex h
        refine nc_Vi (As := [.int (L 101), .int (L 100)]) (rest := [.ref (a 0), .ref (a 0)]) ⟨hx, hb, hml, hown, hts⟩ (c_x_range l dC dI cy a k (upd (upd (fun _ => 0) 1 ((L 101))) 2 ((L 100))) σ r1 hc1 H.size) (cwV 2 hts g_x_bounds_range_662 rfl rfl rfl hd_x_range (by show 46 + 1 ≤ 57 + d ∧ 8 + (12 + 11) + 1271 ≤ 1375 + 27 * d; omega)) hK hG hA hP hD hS rfl hl.1 rfl (Nat.le_of_ble_eq_true rfl) dX12_bounds_101 ⟨Nat.le_refl _, Nat.le_refl _⟩ (fun H locs hP hD hS => ?_)
        obtain ⟨r2, hc2, h⟩ := ob_ex h
        refine nc_Vi (As := [.int r1.1]) (rest := [.ref (a 0)]) ⟨hx, hb, hml, hown, hts⟩ (c_x_answer l dC dI cy a k (upd (fun _ => 0) 1 r1.1) r1.2 r2 hc2 H.size) (cwV 1 hts g_x_bounds_answer_591 rfl rfl rfl hd_x_answer (by show 2 + 1 ≤ 57 + d ∧ 8 + (2 + 11) + 42 ≤ 1375 + 27 * d; omega)) hK hG hA hP hD hS rfl hl.1 rfl (Nat.le_of_ble_eq_true rfl) dX12_bounds_104 ⟨Nat.le_refl _, Nat.le_refl _⟩ (fun H locs hP hD hS => ?_)
        obtain ⟨r3, hc3, h⟩ := ob_ex h
        refine nc_Vv (As := [.int r2.1]) (rest := []) ⟨hx, hb, hml, hown, hts⟩ (c_x_push l dC dI cy a k (upd (fun _ => 0) 1 r2.1) r2.2 r3 hc3 H.size) (cwV 1 hts g_x_bounds_push_594 rfl rfl rfl hd_x_push (by show 0 + 1 ≤ 57 + d ∧ 8 + (2 + 11) + 0 ≤ 1375 + 27 * d; omega)) hK hG hA hP hD hS rfl hl.1 rfl (Nat.le_of_ble_eq_true rfl) dX12_bounds_107 ⟨Nat.le_refl _, Nat.le_refl _⟩ (fun H locs hP hD hS => ?_)
        exact ih.2.2.2.2.2.2.2 L r3.2 r h H locs ls hP hD hS (lv_sub hl [0, 1] rfl)
      · intro L σ r h H locs ls hP hD hS hl
        rw [x_GV_1, s_bounds_7] at h
        cases h
        exact W.vret hx hb hr (fun t ht hW => ⟨⟨(), rfl, trivial, by rw [ht]; exact hP, va_K.moved hW.alike hK, hD⟩, hS.F ht⟩) hS.2.2 dX12_bounds_110
  exact (blk k0 (Nat.le_refl _)).1 L0 σ0 r0 h0 s.heap [] ls hP hD hS hl
theorem gg_x_callFunc_answer : GoodIn w_x_callFunc w_x_answer := goodIn_sub (fun w h => (List.mem_cons.mp h).elim (fun e => (List.mem_cons_of_mem _ (List.mem_append_left _ (List.mem_append_right _ (List.mem_append_right _ (List.mem_append_right _ (List.mem_append_left _ (List.mem_cons.mpr (Or.inl e))))))))) (fun h => (List.mem_append.mp h).elim (fun h => (List.mem_cons_of_mem _ (List.mem_append_left _ (List.mem_append_right _ (List.mem_append_right _ (List.mem_append_right _ (List.mem_append_left _ (List.mem_cons_of_mem _ h)))))))) (fun h => List.mem_cons_of_mem _ (List.mem_append_right _ h)))) w_x_answer_good
theorem g_x_callFunc_answer_591 : GoodIn w_x_callFunc (wsV RX12 591 RX12 yX12_answer w_x_answer) := goodIn_app (nb_g4 (List.mem_cons_of_mem _ (List.mem_append_left _ (List.mem_append_left _ (List.mem_of_getElem? (i := 25) rfl)))) (List.mem_cons_of_mem _ (List.mem_append_left _ (List.mem_append_left _ (List.mem_of_getElem? (i := 26) rfl)))) (List.mem_cons_of_mem _ (List.mem_append_left _ (List.mem_append_left _ (List.mem_of_getElem? (i := 27) rfl)))) (List.mem_cons_of_mem _ (List.mem_append_left _ (List.mem_append_left _ (List.mem_of_getElem? (i := 19) rfl)))) (by decide +kernel)) gg_x_callFunc_answer
theorem gg_x_callFunc_eval : GoodIn w_x_callFunc w_x_eval := goodIn_sub (fun w h => (List.mem_cons.mp h).elim (fun e => e ▸ (List.mem_cons_of_mem _ (List.mem_append_left _ (List.mem_append_left _ (List.mem_of_getElem? (i := 4) rfl))))) (fun h => List.mem_cons_of_mem _ h)) w_x_eval_good
theorem g_x_callFunc_eval_566 : GoodIn w_x_callFunc (wsV RX12 566 RX12 yX12_eval w_x_eval) := goodIn_app (nb_g4 (List.mem_cons_of_mem _ (List.mem_append_left _ (List.mem_append_left _ (List.mem_of_getElem? (i := 62) rfl)))) (List.mem_cons_of_mem _ (List.mem_append_left _ (List.mem_append_left _ (List.mem_of_getElem? (i := 63) rfl)))) (List.mem_cons_of_mem _ (List.mem_append_left _ (List.mem_append_left _ (List.mem_of_getElem? (i := 64) rfl)))) (List.mem_cons_of_mem _ (List.mem_append_left _ (List.mem_append_left _ (List.mem_of_getElem? (i := 19) rfl)))) (by decide +kernel)) gg_x_callFunc_eval
theorem gg_x_callFunc_fail : GoodIn w_x_callFunc w_x_fail := goodIn_sub (fun w h => (List.mem_cons.mp h).elim (fun e => (List.mem_cons_of_mem _ (List.mem_append_left _ (List.mem_append_right _ (List.mem_append_right _ (List.mem_append_right _ (List.mem_append_right _ (List.mem_append_right _ (List.mem_append_right _ (List.mem_append_right _ (List.mem_append_right _ (List.mem_append_right _ (List.mem_append_right _ (List.mem_append_right _ (List.mem_append_left _ (List.mem_cons.mpr (Or.inl e))))))))))))))))) (fun h => (List.mem_append.mp h).elim (fun h => (List.mem_cons_of_mem _ (List.mem_append_left _ (List.mem_append_right _ (List.mem_append_right _ (List.mem_append_right _ (List.mem_append_right _ (List.mem_append_right _ (List.mem_append_right _ (List.mem_append_right _ (List.mem_append_right _ (List.mem_append_right _ (List.mem_append_right _ (List.mem_append_right _ (List.mem_append_left _ (List.mem_cons_of_mem _ h)))))))))))))))) (fun h => List.mem_cons_of_mem _ (List.mem_append_right _ h)))) w_x_fail_good
theorem g_x_callFunc_fail_369 : GoodIn w_x_callFunc (wsV RX12 369 RX12 yX12_fail w_x_fail) := goodIn_app (nb_g4 (List.mem_cons_of_mem _ (List.mem_append_left _ (List.mem_append_left _ (List.mem_of_getElem? (i := 80) rfl)))) (List.mem_cons_of_mem _ (List.mem_append_left _ (List.mem_append_left _ (List.mem_of_getElem? (i := 81) rfl)))) (List.mem_cons_of_mem _ (List.mem_append_left _ (List.mem_append_left _ (List.mem_of_getElem? (i := 82) rfl)))) (List.mem_cons_of_mem _ (List.mem_append_left _ (List.mem_append_left _ (List.mem_of_getElem? (i := 19) rfl)))) (by decide +kernel)) gg_x_callFunc_fail
theorem gg_x_callFunc_sweep : GoodIn w_x_callFunc w_x_sweep := goodIn_sub (fun w h => (List.mem_cons.mp h).elim (fun e => (List.mem_cons_of_mem _ (List.mem_append_left _ (List.mem_append_right _ (List.mem_append_left _ (List.mem_cons.mpr (Or.inl e))))))) (fun h => (List.mem_append.mp h).elim (fun h => (List.mem_cons_of_mem _ (List.mem_append_left _ (List.mem_append_right _ (List.mem_append_left _ (List.mem_cons_of_mem _ h)))))) (fun h => List.mem_cons_of_mem _ (List.mem_append_right _ h)))) w_x_sweep_good
theorem g_x_callFunc_sweep_585 : GoodIn w_x_callFunc (wsV RX12 585 RX12 yX12_sweep w_x_sweep) := goodIn_app (nb_g4 (List.mem_cons_of_mem _ (List.mem_append_left _ (List.mem_append_left _ (List.mem_of_getElem? (i := 16) rfl)))) (List.mem_cons_of_mem _ (List.mem_append_left _ (List.mem_append_left _ (List.mem_of_getElem? (i := 17) rfl)))) (List.mem_cons_of_mem _ (List.mem_append_left _ (List.mem_append_left _ (List.mem_of_getElem? (i := 18) rfl)))) (List.mem_cons_of_mem _ (List.mem_append_left _ (List.mem_append_left _ (List.mem_of_getElem? (i := 19) rfl)))) (by decide +kernel)) gg_x_callFunc_sweep
set_option maxHeartbeats 40000000 in
set_option maxRecDepth 100000 in
theorem c_s_callFunc (l : Launch) (dC : Nat → ClassId) (dI : Nat → Nat → Nat) (cy : Nat → ClassId) (a : Nat → Nat) (k0 : Nat) (IH : ∀ j : Nat, j < k0 → P_GV l dC dI cy a j) (d : Nat) (L0 : Nat → Int32) (σ0 : MS) (r0 : Int32 × MS) (h0 : x_GV k0 d 2 0 L0 σ0 = some r0) (sz : Nat) : Met l yX12_callFunc w_x_callFunc ({ frames := 57 + d, cells := 0, slots := 0, locals := 1375 + 27 * d }) (va_Pc [.ref (a 0), .int (L0 1)] (nIn (dC, dI) cy sz (vM cy a σ0))) (va_Qv (fun _ : Unit => True) (fun _ t => nOut (dC, dI) cy (va_A (vM cy a σ0) sz) (vM cy a r0.2) t) (va_A (vM cy a σ0) sz)) 0 0 (va_A (vM cy a σ0) sz) := by
  refine Met.ofW (cc := cX12_callFunc) (maxL := 7) (ret := none) (by decide) rfl ?_
  intro p e s m args below meth c s₁ B hml hv
  obtain ⟨rfl, hsz, hP, hK, hD0, hG⟩ := hv
  have hx := B.exec
  have hb := B.bytes
  have hr := B.returns
  have hts := atoms_spec (ws := w_x_callFunc) B.pre
  have hown : s.vm.findClass RX12 = some m.cls := findClass_of_methodNamed B.named
  have hlocks := B.notSynchronized
  subst hsz
  have hD := hD0.self (sz := s.heap.size)
  generalize hAe : va_A (vM cy a σ0) s.heap.size = A at hD ⊢
  have hA : ∀ q : Nat, s.heap.size ≤ q → A q := fun q h => by rw [← hAe]; exact Or.inr h
  have hS : va_S A s.heap s.heap [] := va_S.rf
  have hl := lv_entry ([.ref (a 0), .int (L0 1)]) (n := 7) (Nat.le_of_ble_eq_true rfl)
  rw [lg_entry_eq]
  generalize (lg_sl ([.ref (a 0), .int (L0 1)]) ++ List.replicate (7 - (lg_sl ([.ref (a 0), .int (L0 1)])).length) Slot.unset).toArray = ls at hl ⊢
  have hl : lv_has ls 7 [(0, .ref (a 0)), (1, .int (L0 1))] := hl
  have blk : ∀ k : Nat, k ≤ k0 → (bT p l e (headSpec w_x_callFunc ({ frames := 57 + d, cells := 0, slots := 0, locals := 1375 + 27 * d })).room s m #[.ref (a 0), .int (L0 1)] below meth c dC dI cy a A (qV dC dI cy a A below #[.ref (a 0), .int (L0 1)] s) 7 (x_GV k d 2 0) (fun L => [(0, .ref (a 0)), (1, .int (L 1))]) 0 (fun L => [])) ∧ (bT p l e (headSpec w_x_callFunc ({ frames := 57 + d, cells := 0, slots := 0, locals := 1375 + 27 * d })).room s m #[.ref (a 0), .int (L0 1)] below meth c dC dI cy a A (qV dC dI cy a A below #[.ref (a 0), .int (L0 1)] s) 7 (x_GV k d 2 1) (fun L => [(0, .ref (a 0)), (1, .int (L 1)), (2, .int (L 2)), (3, .int (L 3))]) 12 (fun L => [])) ∧ (bT p l e (headSpec w_x_callFunc ({ frames := 57 + d, cells := 0, slots := 0, locals := 1375 + 27 * d })).room s m #[.ref (a 0), .int (L0 1)] below meth c dC dI cy a A (qV dC dI cy a A below #[.ref (a 0), .int (L0 1)] s) 7 (x_GV k d 2 2) (fun L => [(0, .ref (a 0)), (1, .int (L 1)), (2, .int (L 2)), (3, .int (L 3))]) 39 (fun L => [])) ∧ (bT p l e (headSpec w_x_callFunc ({ frames := 57 + d, cells := 0, slots := 0, locals := 1375 + 27 * d })).room s m #[.ref (a 0), .int (L0 1)] below meth c dC dI cy a A (qV dC dI cy a A below #[.ref (a 0), .int (L0 1)] s) 7 (x_GV k d 2 3) (fun L => [(0, .ref (a 0)), (1, .int (L 1)), (2, .int (L 2)), (3, .int (L 3))]) 47 (fun L => [])) ∧ (bT p l e (headSpec w_x_callFunc ({ frames := 57 + d, cells := 0, slots := 0, locals := 1375 + 27 * d })).room s m #[.ref (a 0), .int (L0 1)] below meth c dC dI cy a A (qV dC dI cy a A below #[.ref (a 0), .int (L0 1)] s) 7 (x_GV k d 2 4) (fun L => [(0, .ref (a 0)), (1, .int (L 1)), (2, .int (L 2)), (3, .int (L 3))]) 72 (fun L => [])) ∧ (bT p l e (headSpec w_x_callFunc ({ frames := 57 + d, cells := 0, slots := 0, locals := 1375 + 27 * d })).room s m #[.ref (a 0), .int (L0 1)] below meth c dC dI cy a A (qV dC dI cy a A below #[.ref (a 0), .int (L0 1)] s) 7 (x_GV k d 2 5) (fun L => [(0, .ref (a 0)), (1, .int (L 1)), (2, .int (L 2)), (3, .int (L 3))]) 79 (fun L => [])) ∧ (bT p l e (headSpec w_x_callFunc ({ frames := 57 + d, cells := 0, slots := 0, locals := 1375 + 27 * d })).room s m #[.ref (a 0), .int (L0 1)] below meth c dC dI cy a A (qV dC dI cy a A below #[.ref (a 0), .int (L0 1)] s) 7 (x_GV k d 2 6) (fun L => [(0, .ref (a 0)), (1, .int (L 1)), (2, .int (L 2)), (3, .int (L 3)), (4, .int (L 4)), (5, .int (L 5))]) 115 (fun L => [])) ∧ (bT p l e (headSpec w_x_callFunc ({ frames := 57 + d, cells := 0, slots := 0, locals := 1375 + 27 * d })).room s m #[.ref (a 0), .int (L0 1)] below meth c dC dI cy a A (qV dC dI cy a A below #[.ref (a 0), .int (L0 1)] s) 7 (x_GV k d 2 7) (fun L => [(0, .ref (a 0)), (1, .int (L 1)), (2, .int (L 2)), (3, .int (L 3)), (4, .int (L 4)), (5, .int (L 5))]) 130 (fun L => [])) ∧ (bT p l e (headSpec w_x_callFunc ({ frames := 57 + d, cells := 0, slots := 0, locals := 1375 + 27 * d })).room s m #[.ref (a 0), .int (L0 1)] below meth c dC dI cy a A (qV dC dI cy a A below #[.ref (a 0), .int (L0 1)] s) 7 (x_GV k d 2 8) (fun L => [(0, .ref (a 0)), (1, .int (L 1)), (2, .int (L 2)), (3, .int (L 3)), (4, .int (L 4)), (5, .int (L 5))]) 143 (fun L => [])) ∧ (bT p l e (headSpec w_x_callFunc ({ frames := 57 + d, cells := 0, slots := 0, locals := 1375 + 27 * d })).room s m #[.ref (a 0), .int (L0 1)] below meth c dC dI cy a A (qV dC dI cy a A below #[.ref (a 0), .int (L0 1)] s) 7 (x_GV k d 2 9) (fun L => [(0, .ref (a 0)), (1, .int (L 1)), (2, .int (L 2)), (3, .int (L 3)), (4, .int (L 4)), (5, .int (L 5))]) 148 (fun L => [])) ∧ (bT p l e (headSpec w_x_callFunc ({ frames := 57 + d, cells := 0, slots := 0, locals := 1375 + 27 * d })).room s m #[.ref (a 0), .int (L0 1)] below meth c dC dI cy a A (qV dC dI cy a A below #[.ref (a 0), .int (L0 1)] s) 7 (x_GV k d 2 10) (fun L => [(0, .ref (a 0)), (1, .int (L 1)), (2, .int (L 2)), (3, .int (L 3)), (4, .int (L 4)), (5, .int (L 5)), (6, .int (L 6))]) 151 (fun L => [])) ∧ (bT p l e (headSpec w_x_callFunc ({ frames := 57 + d, cells := 0, slots := 0, locals := 1375 + 27 * d })).room s m #[.ref (a 0), .int (L0 1)] below meth c dC dI cy a A (qV dC dI cy a A below #[.ref (a 0), .int (L0 1)] s) 7 (x_GV k d 2 11) (fun L => [(0, .ref (a 0)), (1, .int (L 1)), (2, .int (L 2)), (3, .int (L 3)), (4, .int (L 4)), (5, .int (L 5)), (6, .int (L 6))]) 192 (fun L => [.int (L 100), .ref (a 33)])) ∧ (bT p l e (headSpec w_x_callFunc ({ frames := 57 + d, cells := 0, slots := 0, locals := 1375 + 27 * d })).room s m #[.ref (a 0), .int (L0 1)] below meth c dC dI cy a A (qV dC dI cy a A below #[.ref (a 0), .int (L0 1)] s) 7 (x_GV k d 2 12) (fun L => [(0, .ref (a 0)), (1, .int (L 1)), (2, .int (L 2)), (3, .int (L 3)), (4, .int (L 4)), (5, .int (L 5)), (6, .int (L 6))]) 193 (fun L => [.int (L 100), .int (L 101), .ref (a 33)])) ∧ (bT p l e (headSpec w_x_callFunc ({ frames := 57 + d, cells := 0, slots := 0, locals := 1375 + 27 * d })).room s m #[.ref (a 0), .int (L0 1)] below meth c dC dI cy a A (qV dC dI cy a A below #[.ref (a 0), .int (L0 1)] s) 7 (x_GV k d 2 13) (fun L => [(0, .ref (a 0)), (1, .int (L 1)), (2, .int (L 2)), (3, .int (L 3)), (4, .int (L 4)), (5, .int (L 5)), (6, .int (L 6))]) 194 (fun L => [])) ∧ (bT p l e (headSpec w_x_callFunc ({ frames := 57 + d, cells := 0, slots := 0, locals := 1375 + 27 * d })).room s m #[.ref (a 0), .int (L0 1)] below meth c dC dI cy a A (qV dC dI cy a A below #[.ref (a 0), .int (L0 1)] s) 7 (x_GV k d 2 14) (fun L => [(0, .ref (a 0)), (1, .int (L 1)), (2, .int (L 2)), (3, .int (L 3)), (4, .int (L 4)), (5, .int (L 5)), (6, .int (L 6))]) 200 (fun L => [])) ∧ (bT p l e (headSpec w_x_callFunc ({ frames := 57 + d, cells := 0, slots := 0, locals := 1375 + 27 * d })).room s m #[.ref (a 0), .int (L0 1)] below meth c dC dI cy a A (qV dC dI cy a A below #[.ref (a 0), .int (L0 1)] s) 7 (x_GV k d 2 15) (fun L => [(0, .ref (a 0)), (1, .int (L 1)), (2, .int (L 2)), (3, .int (L 3)), (4, .int (L 4)), (5, .int (L 5)), (6, .int (L 6))]) 205 (fun L => [])) ∧ (bT p l e (headSpec w_x_callFunc ({ frames := 57 + d, cells := 0, slots := 0, locals := 1375 + 27 * d })).room s m #[.ref (a 0), .int (L0 1)] below meth c dC dI cy a A (qV dC dI cy a A below #[.ref (a 0), .int (L0 1)] s) 7 (x_GV k d 2 16) (fun L => [(0, .ref (a 0)), (1, .int (L 1)), (2, .int (L 2)), (3, .int (L 3)), (4, .int (L 4)), (5, .int (L 5)), (6, .int (L 6))]) 218 (fun L => [])) ∧ (bT p l e (headSpec w_x_callFunc ({ frames := 57 + d, cells := 0, slots := 0, locals := 1375 + 27 * d })).room s m #[.ref (a 0), .int (L0 1)] below meth c dC dI cy a A (qV dC dI cy a A below #[.ref (a 0), .int (L0 1)] s) 7 (x_GV k d 2 17) (fun L => [(0, .ref (a 0)), (1, .int (L 1)), (2, .int (L 2)), (3, .int (L 3)), (4, .int (L 4)), (5, .int (L 5)), (6, .int (L 6))]) 238 (fun L => [])) ∧ (bT p l e (headSpec w_x_callFunc ({ frames := 57 + d, cells := 0, slots := 0, locals := 1375 + 27 * d })).room s m #[.ref (a 0), .int (L0 1)] below meth c dC dI cy a A (qV dC dI cy a A below #[.ref (a 0), .int (L0 1)] s) 7 (x_GV k d 2 18) (fun L => [(0, .ref (a 0)), (1, .int (L 1)), (2, .int (L 2)), (3, .int (L 3)), (4, .int (L 4)), (5, .int (L 5)), (6, .int (L 6))]) 244 (fun L => [])) ∧ (bT p l e (headSpec w_x_callFunc ({ frames := 57 + d, cells := 0, slots := 0, locals := 1375 + 27 * d })).room s m #[.ref (a 0), .int (L0 1)] below meth c dC dI cy a A (qV dC dI cy a A below #[.ref (a 0), .int (L0 1)] s) 7 (x_GV k d 2 19) (fun L => [(0, .ref (a 0)), (1, .int (L 1)), (2, .int (L 2)), (3, .int (L 3)), (4, .int (L 4)), (5, .int (L 5)), (6, .int (L 6))]) 254 (fun L => [])) ∧ (bT p l e (headSpec w_x_callFunc ({ frames := 57 + d, cells := 0, slots := 0, locals := 1375 + 27 * d })).room s m #[.ref (a 0), .int (L0 1)] below meth c dC dI cy a A (qV dC dI cy a A below #[.ref (a 0), .int (L0 1)] s) 7 (x_GV k d 2 20) (fun L => [(0, .ref (a 0)), (1, .int (L 1)), (2, .int (L 2)), (3, .int (L 3)), (4, .int (L 4)), (5, .int (L 5)), (6, .int (L 6))]) 269 (fun L => [])) ∧ (bT p l e (headSpec w_x_callFunc ({ frames := 57 + d, cells := 0, slots := 0, locals := 1375 + 27 * d })).room s m #[.ref (a 0), .int (L0 1)] below meth c dC dI cy a A (qV dC dI cy a A below #[.ref (a 0), .int (L0 1)] s) 7 (x_GV k d 2 21) (fun L => [(0, .ref (a 0)), (1, .int (L 1)), (2, .int (L 2)), (3, .int (L 3)), (4, .int (L 4)), (5, .int (L 5)), (6, .int (L 6))]) 275 (fun L => [])) ∧ (bT p l e (headSpec w_x_callFunc ({ frames := 57 + d, cells := 0, slots := 0, locals := 1375 + 27 * d })).room s m #[.ref (a 0), .int (L0 1)] below meth c dC dI cy a A (qV dC dI cy a A below #[.ref (a 0), .int (L0 1)] s) 7 (x_GV k d 2 22) (fun L => [(0, .ref (a 0)), (1, .int (L 1)), (2, .int (L 2)), (3, .int (L 3)), (4, .int (L 4)), (5, .int (L 5)), (6, .int (L 6))]) 281 (fun L => [])) ∧ (bT p l e (headSpec w_x_callFunc ({ frames := 57 + d, cells := 0, slots := 0, locals := 1375 + 27 * d })).room s m #[.ref (a 0), .int (L0 1)] below meth c dC dI cy a A (qV dC dI cy a A below #[.ref (a 0), .int (L0 1)] s) 7 (x_GV k d 2 23) (fun L => [(0, .ref (a 0)), (1, .int (L 1)), (2, .int (L 2)), (3, .int (L 3)), (4, .int (L 4)), (5, .int (L 5)), (6, .int (L 6))]) 304 (fun L => [])) := by
    intro k
    induction k with
    | zero => exact fun _ => ⟨fun L σ r h => (by cases h), fun L σ r h => (by cases h), fun L σ r h => (by cases h), fun L σ r h => (by cases h), fun L σ r h => (by cases h), fun L σ r h => (by cases h), fun L σ r h => (by cases h), fun L σ r h => (by cases h), fun L σ r h => (by cases h), fun L σ r h => (by cases h), fun L σ r h => (by cases h), fun L σ r h => (by cases h), fun L σ r h => (by cases h), fun L σ r h => (by cases h), fun L σ r h => (by cases h), fun L σ r h => (by cases h), fun L σ r h => (by cases h), fun L σ r h => (by cases h), fun L σ r h => (by cases h), fun L σ r h => (by cases h), fun L σ r h => (by cases h), fun L σ r h => (by cases h), fun L σ r h => (by cases h), fun L σ r h => (by cases h)⟩
    | succ k ih =>
      intro hk
      replace ih := ih (by omega)
      refine ⟨?_, ?_, ?_, ?_, ?_, ?_, ?_, ?_, ?_, ?_, ?_, ?_, ?_, ?_, ?_, ?_, ?_, ?_, ?_, ?_, ?_, ?_, ?_, ?_⟩
      · intro L σ r h H locs ls hP hD hS hl
        rw [x_GV_2, s_callFunc_0] at h
        refine lv_aload_n hx hb dX12_callFunc_0 rfl (lv_at hl 0 rfl) ?_
        refine ng_59 hx hb hts in_x_callFunc hown hK hP (hts _ (List.mem_cons_of_mem _ (List.mem_append_left _ (List.mem_append_left _ (List.mem_of_getElem? (i := 76) rfl))))) dX12_callFunc_1 ?_
        refine lv_istore_n (lv' := [(2, .int (σ.1 59)), (0, .ref (a 0)), (1, .int (L 1))]) hx hb dX12_callFunc_4 rfl hl (by decide) rfl (fun ls hl => ?_)
        refine lv_aload_n hx hb dX12_callFunc_5 rfl (lv_at hl 1 rfl) ?_
        refine ng_16 hx hb hts in_x_callFunc hown hK hP (hts _ (List.mem_cons_of_mem _ (List.mem_append_left _ (List.mem_append_left _ (List.mem_of_getElem? (i := 21) rfl))))) dX12_callFunc_6 ?_
        refine lv_iload_n hx hb dX12_callFunc_9 rfl (lv_at hl 2 rfl) ?_
        obtain ⟨q1, h⟩ := nb_ite1 h
        refine nl_6 hx hb hK hP q1 dX12_callFunc_10 ?_
        refine lv_istore_n (lv' := [(3, .int (σ.2.2 6 ((L 1)).toNatClampNeg)), (2, .int (σ.1 59)), (0, .ref (a 0)), (1, .int (L 1))]) hx hb dX12_callFunc_11 rfl hl (by decide) rfl (fun ls hl => ?_)
        exact ih.2.1 (upd (upd L 2 ((σ.1 59))) 3 ((σ.2.2 6 ((L 1)).toNatClampNeg))) σ r h H locs ls hP hD hS (lv_sub hl [2, 3, 1, 0] rfl)
      · intro L σ r h H locs ls hP hD hS hl
        rw [x_GV_2, s_callFunc_1] at h
        refine lv_iload_n hx hb dX12_callFunc_12 rfl (lv_at hl 3 rfl) ?_
        refine lv_iconst (v := (-1)) hx hb dX12_callFunc_13 (by decide) ?_
        refine lv_icmp_eq (tgt := 39) hx hb dX12_callFunc_14 (by decide) (fun c1 => ?_) (fun c1 => ?_)
        · rw [if_pos c1] at h
          exact ih.2.2.1 L σ r h H locs ls hP hD hS (lv_sub hl [0, 1, 2, 3] rfl)
        · rw [if_neg c1] at h
          refine lv_aload_n hx hb dX12_callFunc_17 rfl (lv_at hl 0 rfl) ?_
          refine ng_56 hx hb hts in_x_callFunc hown hK hP (hts _ (List.mem_cons_of_mem _ (List.mem_append_left _ (List.mem_append_left _ (List.mem_of_getElem? (i := 13) rfl))))) dX12_callFunc_18 ?_
          refine lv_if_ne (tgt := 39) hx hb dX12_callFunc_21 (by decide) (fun c2 => ?_) (fun c2 => ?_)
          · rw [if_neg c2] at h
            exact ih.2.2.1 L σ r h H locs ls hP hD hS (lv_sub hl [0, 1, 2, 3] rfl)
          · rw [if_pos c2] at h
            refine lv_aload_n hx hb dX12_callFunc_24 rfl (lv_at hl 0 rfl) ?_
            refine lv_iload_n hx hb dX12_callFunc_25 rfl (lv_at hl 3 rfl) ?_
            obtain ⟨e3, he3, h⟩ := od_ex h
            obtain ⟨r3, hc3, h⟩ := ob_ex h
            refine nc_Vv (As := [.int (L 3)]) (rest := []) ⟨hx, hb, hml, hown, hts⟩ ((IH k (by omega)).2.2.2.2.1 e3 (upd (fun _ => 0) 1 ((L 3))) σ r3 hc3 H.size) (cwV 1 hts g_x_callFunc_eval_566 rfl rfl rfl hd_x_eval (by show (57 + e3) + 1 ≤ 57 + d ∧ 8 + (3 + 11) + (1375 + 27 * e3) ≤ 1375 + 27 * d; omega)) hK hG hA hP hD hS rfl hl.1 rfl (Nat.le_of_ble_eq_true rfl) dX12_callFunc_26 ⟨Nat.le_refl _, Nat.le_refl _⟩ (fun H locs hP hD hS => ?_)
            refine lv_aload_n hx hb dX12_callFunc_29 rfl (lv_at hl 0 rfl) ?_
            refine ng_19 hx hb hts in_x_callFunc hown hK hP (hts _ (List.mem_cons_of_mem _ (List.mem_append_left _ (List.mem_append_left _ (List.mem_of_getElem? (i := 77) rfl))))) dX12_callFunc_30 ?_
            refine lv_iload_n hx hb dX12_callFunc_33 rfl (lv_at hl 3 rfl) ?_
            obtain ⟨q4, h⟩ := nb_ite1 h
            refine nl_9 hx hb hK hP q4 dX12_callFunc_34 ?_
            refine lv_istore_n (lv' := [(3, .int (r3.2.2.2 9 ((L 3)).toNatClampNeg)), (0, .ref (a 0)), (1, .int (L 1)), (2, .int (L 2))]) hx hb dX12_callFunc_35 rfl hl (by decide) rfl (fun ls hl => ?_)
            refine lv_goto (tgt := 12) hx hb dX12_callFunc_36 (by decide) ?_
            exact ih.2.1 (upd L 3 ((r3.2.2.2 9 ((L 3)).toNatClampNeg))) r3.2 r h H locs ls hP hD hS (lv_sub hl [1, 2, 3, 0] rfl)
      · intro L σ r h H locs ls hP hD hS hl
        rw [x_GV_2, s_callFunc_2] at h
        refine lv_aload_n hx hb dX12_callFunc_39 rfl (lv_at hl 0 rfl) ?_
        refine ng_56 hx hb hts in_x_callFunc hown hK hP (hts _ (List.mem_cons_of_mem _ (List.mem_append_left _ (List.mem_append_left _ (List.mem_of_getElem? (i := 13) rfl))))) dX12_callFunc_40 ?_
        refine lv_if_le (tgt := 47) hx hb dX12_callFunc_43 (by decide) (fun c1 => ?_) (fun c1 => ?_)
        · rw [if_pos c1] at h
          exact ih.2.2.2.1 L σ r h H locs ls hP hD hS (lv_sub hl [0, 1, 2, 3] rfl)
        · rw [if_neg c1] at h
          cases h
          exact W.vret hx hb hr (fun t ht hW => ⟨⟨(), rfl, trivial, by rw [ht]; exact hP, va_K.moved hW.alike hK, hD⟩, hS.F ht⟩) hS.2.2 dX12_callFunc_46
      · intro L σ r h H locs ls hP hD hS hl
        rw [x_GV_2, s_callFunc_3] at h
        refine lv_aload_n hx hb dX12_callFunc_47 rfl (lv_at hl 0 rfl) ?_
        refine ng_67 hx hb hts in_x_callFunc hown hK hP (hts _ (List.mem_cons_of_mem _ (List.mem_append_left _ (List.mem_append_left _ (List.mem_of_getElem? (i := 78) rfl))))) dX12_callFunc_48 ?_
        refine lv_bipush (v := 20) hx hb dX12_callFunc_51 (by decide) ?_
        refine lv_icmp_eq (tgt := 72) hx hb dX12_callFunc_53 (by decide) (fun c1 => ?_) (fun c1 => ?_)
        · rw [if_pos c1] at h
          exact ih.2.2.2.2.1 L σ r h H locs ls hP hD hS (lv_sub hl [0, 1, 2, 3] rfl)
        · rw [if_neg c1] at h
          refine lv_aload_n hx hb dX12_callFunc_56 rfl (lv_at hl 0 rfl) ?_
          refine ng_97 hx hb hts in_x_callFunc hown hK hP (hts _ (List.mem_cons_of_mem _ (List.mem_append_left _ (List.mem_append_left _ (List.mem_of_getElem? (i := 79) rfl))))) dX12_callFunc_57 ?_
          refine lv_aload_n hx hb dX12_callFunc_60 rfl (lv_at hl 0 rfl) ?_
          refine ng_18 hx hb hts in_x_callFunc hown hK hP (hts _ (List.mem_cons_of_mem _ (List.mem_append_left _ (List.mem_append_left _ (List.mem_of_getElem? (i := 72) rfl))))) dX12_callFunc_61 ?_
          refine lv_iload_n hx hb dX12_callFunc_64 rfl (lv_at hl 1 rfl) ?_
          obtain ⟨q2, h⟩ := nb_ite1 h
          refine nl_8 hx hb hK hP q2 dX12_callFunc_65 ?_
          refine lv_iadd hx hb dX12_callFunc_66 ?_
          refine lv_bipush (v := 60) hx hb dX12_callFunc_67 (by decide) ?_
          refine lv_icmp_le (tgt := 79) hx hb dX12_callFunc_69 (by decide) (fun c3 => ?_) (fun c3 => ?_)
          · rw [if_pos c3] at h
            exact ih.2.2.2.2.2.1 L σ r h H locs ls hP hD hS (lv_sub hl [0, 1, 2, 3] rfl)
          · rw [if_neg c3] at h
            exact ih.2.2.2.2.1 L σ r h H locs ls hP hD hS (lv_sub hl [0, 1, 2, 3] rfl)
      · intro L σ r h H locs ls hP hD hS hl
        rw [x_GV_2, s_callFunc_4] at h
        refine lv_aload_n hx hb dX12_callFunc_72 rfl (lv_at hl 0 rfl) ?_
        refine lv_bipush (v := 7) hx hb dX12_callFunc_73 (by decide) ?_
        obtain ⟨r1, hc1, h⟩ := ob_ex h
        refine nc_Vv (As := [.int 7]) (rest := []) ⟨hx, hb, hml, hown, hts⟩ (c_x_fail l dC dI cy a k (upd (fun _ => 0) 1 7) σ r1 hc1 H.size) (cwV 1 hts g_x_callFunc_fail_369 rfl rfl rfl hd_x_fail (by show 0 + 1 ≤ 57 + d ∧ 8 + (2 + 11) + 0 ≤ 1375 + 27 * d; omega)) hK hG hA hP hD hS rfl hl.1 rfl (Nat.le_of_ble_eq_true rfl) dX12_callFunc_75 ⟨Nat.le_refl _, Nat.le_refl _⟩ (fun H locs hP hD hS => ?_)
        cases h
        exact W.vret hx hb hr (fun t ht hW => ⟨⟨(), rfl, trivial, by rw [ht]; exact hP, va_K.moved hW.alike hK, hD⟩, hS.F ht⟩) hS.2.2 dX12_callFunc_78
      · intro L σ r h H locs ls hP hD hS hl
        rw [x_GV_2, s_callFunc_5] at h
        refine lv_aload_n hx hb dX12_callFunc_79 rfl (lv_at hl 0 rfl) ?_
        refine lv_ldcw (v := 780000) hx hb hown (hts _ (List.mem_cons_of_mem _ (List.mem_append_left _ (List.mem_append_left _ (List.mem_of_getElem? (i := 15) rfl))))) dX12_callFunc_80 ?_
        obtain ⟨r1, hc1, h⟩ := ob_ex h
        refine nc_Vv (As := [.int 780000]) (rest := []) ⟨hx, hb, hml, hown, hts⟩ (c_x_sweep l dC dI cy a k (upd (fun _ => 0) 1 780000) σ r1 hc1 H.size) (cwV 1 hts g_x_callFunc_sweep_585 rfl rfl rfl hd_x_sweep (by show 3 + 1 ≤ 57 + d ∧ 8 + (5 + 11) + 70 ≤ 1375 + 27 * d; omega)) hK hG hA hP hD hS rfl hl.1 rfl (Nat.le_of_ble_eq_true rfl) dX12_callFunc_83 ⟨Nat.le_refl _, Nat.le_refl _⟩ (fun H locs hP hD hS => ?_)
        refine lv_aload_n hx hb dX12_callFunc_86 rfl (lv_at hl 0 rfl) ?_
        refine ng_15 hx hb hts in_x_callFunc hown hK hP (hts _ (List.mem_cons_of_mem _ (List.mem_append_left _ (List.mem_append_left _ (List.mem_of_getElem? (i := 20) rfl))))) dX12_callFunc_87 ?_
        refine lv_iload_n hx hb dX12_callFunc_90 rfl (lv_at hl 1 rfl) ?_
        obtain ⟨q2, h⟩ := nb_ite1 h
        refine nl_5 hx hb hK hP q2 dX12_callFunc_91 ?_
        refine lv_istore_n (lv' := [(3, .int (r1.2.2.2 5 ((L 1)).toNatClampNeg)), (0, .ref (a 0)), (1, .int (L 1)), (2, .int (L 2))]) hx hb dX12_callFunc_92 rfl hl (by decide) rfl (fun ls hl => ?_)
        refine lv_aload_n hx hb dX12_callFunc_93 rfl (lv_at hl 1 rfl) ?_
        refine ng_68 hx hb hts in_x_callFunc hown hK hP (hts _ (List.mem_cons_of_mem _ (List.mem_append_left _ (List.mem_append_left _ (List.mem_of_getElem? (i := 83) rfl))))) dX12_callFunc_94 ?_
        refine lv_istore (lv' := [(4, .int (r1.2.1 68)), (3, .int (r1.2.2.2 5 ((L 1)).toNatClampNeg)), (0, .ref (a 0)), (1, .int (L 1)), (2, .int (L 2))]) hx hb dX12_callFunc_97 hl (by decide) rfl (fun ls hl => ?_)
        refine lv_aload_n hx hb dX12_callFunc_99 rfl (lv_at hl 2 rfl) ?_
        refine ng_69 hx hb hts in_x_callFunc hown hK hP (hts _ (List.mem_cons_of_mem _ (List.mem_append_left _ (List.mem_append_left _ (List.mem_of_getElem? (i := 84) rfl))))) dX12_callFunc_100 ?_
        refine lv_istore (lv' := [(5, .int (r1.2.1 69)), (4, .int (r1.2.1 68)), (3, .int (r1.2.2.2 5 ((L 1)).toNatClampNeg)), (0, .ref (a 0)), (1, .int (L 1)), (2, .int (L 2))]) hx hb dX12_callFunc_103 hl (by decide) rfl (fun ls hl => ?_)
        refine lv_aload_n hx hb dX12_callFunc_105 rfl (lv_at hl 3 rfl) ?_
        refine lv_dup hx hb dX12_callFunc_106 rfl ?_
        refine ng_67 hx hb hts in_x_callFunc hown hK hP (hts _ (List.mem_cons_of_mem _ (List.mem_append_left _ (List.mem_append_left _ (List.mem_of_getElem? (i := 78) rfl))))) dX12_callFunc_107 ?_
        refine lv_iconst (v := 1) hx hb dX12_callFunc_110 (by decide) ?_
        refine lv_iadd hx hb dX12_callFunc_111 ?_
        refine np_67 hx hb hts in_x_callFunc hown hK hP hD hS (hts _ (List.mem_cons_of_mem _ (List.mem_append_left _ (List.mem_append_left _ (List.mem_of_getElem? (i := 78) rfl))))) dX12_callFunc_112 (fun H locs hP hD hS => ?_)
        exact ih.2.2.2.2.2.2.1 (upd (upd (upd L 3 ((r1.2.2.2 5 ((L 1)).toNatClampNeg))) 4 ((r1.2.1 68))) 5 ((r1.2.1 69))) (upd r1.2.1 67 ((((r1.2.1 67)) + 1)), r1.2.2.1, r1.2.2.2) r h H locs ls hP hD hS (lv_sub hl [3, 4, 5, 2, 1, 0] rfl)
      · intro L σ r h H locs ls hP hD hS hl
        rw [x_GV_2, s_callFunc_6] at h
        refine lv_aload_n hx hb dX12_callFunc_115 rfl (lv_at hl 0 rfl) ?_
        refine lv_dup hx hb dX12_callFunc_116 rfl ?_
        refine ng_97 hx hb hts in_x_callFunc hown hK hP (hts _ (List.mem_cons_of_mem _ (List.mem_append_left _ (List.mem_append_left _ (List.mem_of_getElem? (i := 79) rfl))))) dX12_callFunc_117 ?_
        refine lv_aload_n hx hb dX12_callFunc_120 rfl (lv_at hl 0 rfl) ?_
        refine ng_18 hx hb hts in_x_callFunc hown hK hP (hts _ (List.mem_cons_of_mem _ (List.mem_append_left _ (List.mem_append_left _ (List.mem_of_getElem? (i := 72) rfl))))) dX12_callFunc_121 ?_
        refine lv_iload_n hx hb dX12_callFunc_124 rfl (lv_at hl 1 rfl) ?_
        obtain ⟨q1, h⟩ := nb_ite1 h
        refine nl_8 hx hb hK hP q1 dX12_callFunc_125 ?_
        refine lv_iadd hx hb dX12_callFunc_126 ?_
        refine np_97 hx hb hts in_x_callFunc hown hK hP hD hS (hts _ (List.mem_cons_of_mem _ (List.mem_append_left _ (List.mem_append_left _ (List.mem_of_getElem? (i := 79) rfl))))) dX12_callFunc_127 (fun H locs hP hD hS => ?_)
        exact ih.2.2.2.2.2.2.2.1 L (upd σ.1 97 ((((σ.1 97)) + ((σ.2.2 8 ((L 1)).toNatClampNeg)))), σ.2.1, σ.2.2) r h H locs ls hP hD hS (lv_sub hl [0, 1, 2, 3, 4, 5] rfl)
      · intro L σ r h H locs ls hP hD hS hl
        rw [x_GV_2, s_callFunc_7] at h
        refine lv_aload_n hx hb dX12_callFunc_130 rfl (lv_at hl 0 rfl) ?_
        refine lv_bipush (v := 60) hx hb dX12_callFunc_131 (by decide) ?_
        refine lv_iconst (v := 1) hx hb dX12_callFunc_133 (by decide) ?_
        refine lv_aload_n hx hb dX12_callFunc_134 rfl (lv_at hl 0 rfl) ?_
        refine ng_67 hx hb hts in_x_callFunc hown hK hP (hts _ (List.mem_cons_of_mem _ (List.mem_append_left _ (List.mem_append_left _ (List.mem_of_getElem? (i := 78) rfl))))) dX12_callFunc_135 ?_
        refine lv_iadd hx hb dX12_callFunc_138 ?_
        refine lv_imul hx hb dX12_callFunc_139 ?_
        refine np_68 hx hb hts in_x_callFunc hown hK hP hD hS (hts _ (List.mem_cons_of_mem _ (List.mem_append_left _ (List.mem_append_left _ (List.mem_of_getElem? (i := 83) rfl))))) dX12_callFunc_140 (fun H locs hP hD hS => ?_)
        exact ih.2.2.2.2.2.2.2.2.1 L (upd σ.1 68 ((60 * ((1 + ((σ.1 67)))))), σ.2.1, σ.2.2) r h H locs ls hP hD hS (lv_sub hl [0, 1, 2, 3, 4, 5] rfl)
      · intro L σ r h H locs ls hP hD hS hl
        rw [x_GV_2, s_callFunc_8] at h
        refine lv_aload_n hx hb dX12_callFunc_143 rfl (lv_at hl 0 rfl) ?_
        refine lv_iconst (v := 1) hx hb dX12_callFunc_144 (by decide) ?_
        refine np_69 hx hb hts in_x_callFunc hown hK hP hD hS (hts _ (List.mem_cons_of_mem _ (List.mem_append_left _ (List.mem_append_left _ (List.mem_of_getElem? (i := 84) rfl))))) (Or.inr rfl) dX12_callFunc_145 (fun H locs hP hD hS => ?_)
        exact ih.2.2.2.2.2.2.2.2.2.1 L (upd σ.1 69 1, σ.2.1, σ.2.2) r h H locs ls hP hD hS (lv_sub hl [0, 1, 2, 3, 4, 5] rfl)
      · intro L σ r h H locs ls hP hD hS hl
        rw [x_GV_2, s_callFunc_9] at h
        refine lv_iconst (v := 0) hx hb dX12_callFunc_148 (by decide) ?_
        refine lv_istore (lv' := [(6, .int 0), (0, .ref (a 0)), (1, .int (L 1)), (2, .int (L 2)), (3, .int (L 3)), (4, .int (L 4)), (5, .int (L 5))]) hx hb dX12_callFunc_149 hl (by decide) rfl (fun ls hl => ?_)
        exact ih.2.2.2.2.2.2.2.2.2.2.1 (upd L 6 0) σ r h H locs ls hP hD hS (lv_sub hl [1, 2, 3, 4, 5, 6, 0] rfl)
      · intro L σ r h H locs ls hP hD hS hl
        rw [x_GV_2, s_callFunc_10] at h
        refine lv_iload hx hb dX12_callFunc_151 (lv_at hl 6 rfl) ?_
        refine lv_bipush (v := 60) hx hb dX12_callFunc_153 (by decide) ?_
        refine lv_icmp_ge (tgt := 200) hx hb dX12_callFunc_155 (by decide) (fun c1 => ?_) (fun c1 => ?_)
        · rw [if_pos c1] at h
          exact ih.2.2.2.2.2.2.2.2.2.2.2.2.2.2.1 L σ r h H locs ls hP hD hS (lv_sub hl [0, 1, 2, 3, 4, 5, 6] rfl)
        · rw [if_neg c1] at h
          refine lv_aload_n hx hb dX12_callFunc_158 rfl (lv_at hl 0 rfl) ?_
          refine ng_66 hx hb hts in_x_callFunc hown hK hP (hts _ (List.mem_cons_of_mem _ (List.mem_append_left _ (List.mem_append_left _ (List.mem_of_getElem? (i := 85) rfl))))) dX12_callFunc_159 ?_
          refine lv_aload_n hx hb dX12_callFunc_162 rfl (lv_at hl 0 rfl) ?_
          refine ng_68 hx hb hts in_x_callFunc hown hK hP (hts _ (List.mem_cons_of_mem _ (List.mem_append_left _ (List.mem_append_left _ (List.mem_of_getElem? (i := 83) rfl))))) dX12_callFunc_163 ?_
          refine lv_iload hx hb dX12_callFunc_166 (lv_at hl 6 rfl) ?_
          refine lv_iadd hx hb dX12_callFunc_168 ?_
          refine lv_iload hx hb dX12_callFunc_169 (lv_at hl 6 rfl) ?_
          refine lv_aload_n hx hb dX12_callFunc_171 rfl (lv_at hl 0 rfl) ?_
          refine ng_33 hx hb hts in_x_callFunc hown hK hP (hts _ (List.mem_cons_of_mem _ (List.mem_append_left _ (List.mem_append_left _ (List.mem_of_getElem? (i := 86) rfl))))) dX12_callFunc_172 ?_
          refine lv_iload_n hx hb dX12_callFunc_175 rfl (lv_at hl 3 rfl) ?_
          obtain ⟨q2, h⟩ := nb_ite1 h
          refine nl_18 hx hb hK hP q2 dX12_callFunc_176 ?_
          refine lv_icmp_ge (tgt := 192) hx hb dX12_callFunc_177 (by decide) (fun c3 => ?_) (fun c3 => ?_)
          · rw [if_pos c3] at h
            exact ih.2.2.2.2.2.2.2.2.2.2.2.1 (upd L 100 ((((σ.1 68)) + ((L 6))))) σ r h H locs ls hP hD hS (lv_sub hl [0, 1, 2, 3, 4, 5, 6] rfl)
          · rw [if_neg c3] at h
            refine lv_aload_n hx hb dX12_callFunc_180 rfl (lv_at hl 0 rfl) ?_
            refine ng_58 hx hb hts in_x_callFunc hown hK hP (hts _ (List.mem_cons_of_mem _ (List.mem_append_left _ (List.mem_append_left _ (List.mem_of_getElem? (i := 87) rfl))))) dX12_callFunc_181 ?_
            refine lv_iload_n hx hb dX12_callFunc_184 rfl (lv_at hl 2 rfl) ?_
            refine lv_iload hx hb dX12_callFunc_185 (lv_at hl 6 rfl) ?_
            refine lv_iadd hx hb dX12_callFunc_187 ?_
            obtain ⟨q4, h⟩ := nb_ite1 h
            refine nl_29 hx hb hK hP q4 dX12_callFunc_188 ?_
            refine lv_goto (tgt := 193) hx hb dX12_callFunc_189 (by decide) ?_
            exact ih.2.2.2.2.2.2.2.2.2.2.2.2.1 (upd (upd L 100 ((σ.2.2 29 ((((L 2)) + ((L 6)))).toNatClampNeg))) 101 ((((σ.1 68)) + ((L 6))))) σ r h H locs ls hP hD hS (lv_sub hl [0, 1, 2, 3, 4, 5, 6] rfl)
      · intro L σ r h H locs ls hP hD hS hl
        rw [x_GV_2, s_callFunc_11] at h
        refine lv_iconst (v := 0) hx hb dX12_callFunc_192 (by decide) ?_
        exact ih.2.2.2.2.2.2.2.2.2.2.2.2.1 (upd (upd L 100 0) 101 ((L 100))) σ r h H locs ls hP hD hS (lv_sub hl [0, 1, 2, 3, 4, 5, 6] rfl)
      · intro L σ r h H locs ls hP hD hS hl
        rw [x_GV_2, s_callFunc_12] at h
        obtain ⟨q1, h⟩ := nb_ite1 h
        refine ns_33 hx hb hK hP hD hS q1 dX12_callFunc_193 (fun H locs hP hD hS => ?_)
        exact ih.2.2.2.2.2.2.2.2.2.2.2.2.2.1 L (σ.1, σ.2.1, updG σ.2.2 33 (upd (σ.2.2 33) ((L 101)).toNatClampNeg ((L 100)))) r h H locs ls hP hD hS (lv_sub hl [0, 1, 2, 3, 4, 5, 6] rfl)
      · intro L σ r h H locs ls hP hD hS hl
        rw [x_GV_2, s_callFunc_13] at h
        refine lv_iinc (v := ((L 6)) + 1) (lv' := [(6, .int (((L 6)) + 1)), (0, .ref (a 0)), (1, .int (L 1)), (2, .int (L 2)), (3, .int (L 3)), (4, .int (L 4)), (5, .int (L 5))]) hx hb dX12_callFunc_194 hl (k := 6) rfl rfl (by decide) rfl (fun ls hl => ?_)
        refine lv_goto (tgt := 151) hx hb dX12_callFunc_197 (by decide) ?_
        exact ih.2.2.2.2.2.2.2.2.2.2.1 (upd L 6 (((L 6)) + 1)) σ r h H locs ls hP hD hS (lv_sub hl [1, 2, 3, 4, 5, 6, 0] rfl)
      · intro L σ r h H locs ls hP hD hS hl
        rw [x_GV_2, s_callFunc_14] at h
        refine lv_aload_n hx hb dX12_callFunc_200 rfl (lv_at hl 0 rfl) ?_
        refine lv_iload_n hx hb dX12_callFunc_201 rfl (lv_at hl 2 rfl) ?_
        refine np_59 hx hb hts in_x_callFunc hown hK hP hD hS (hts _ (List.mem_cons_of_mem _ (List.mem_append_left _ (List.mem_append_left _ (List.mem_of_getElem? (i := 76) rfl))))) dX12_callFunc_202 (fun H locs hP hD hS => ?_)
        exact ih.2.2.2.2.2.2.2.2.2.2.2.2.2.2.2.1 L (upd σ.1 59 ((L 2)), σ.2.1, σ.2.2) r h H locs ls hP hD hS (lv_sub hl [0, 1, 2, 3, 4, 5, 6] rfl)
      · intro L σ r h H locs ls hP hD hS hl
        rw [x_GV_2, s_callFunc_15] at h
        refine lv_aload_n hx hb dX12_callFunc_205 rfl (lv_at hl 0 rfl) ?_
        refine lv_aload_n hx hb dX12_callFunc_206 rfl (lv_at hl 0 rfl) ?_
        refine ng_32 hx hb hts in_x_callFunc hown hK hP (hts _ (List.mem_cons_of_mem _ (List.mem_append_left _ (List.mem_append_left _ (List.mem_of_getElem? (i := 88) rfl))))) dX12_callFunc_207 ?_
        refine lv_iload_n hx hb dX12_callFunc_210 rfl (lv_at hl 3 rfl) ?_
        obtain ⟨q1, h⟩ := nb_ite1 h
        refine nl_17 hx hb hK hP q1 dX12_callFunc_211 ?_
        obtain ⟨e2, he2, h⟩ := od_ex h
        obtain ⟨r2, hc2, h⟩ := ob_ex h
        refine nc_Vv (As := [.int (σ.2.2 17 ((L 3)).toNatClampNeg)]) (rest := []) ⟨hx, hb, hml, hown, hts⟩ ((IH k (by omega)).2.2.2.2.1 e2 (upd (fun _ => 0) 1 ((σ.2.2 17 ((L 3)).toNatClampNeg))) σ r2 hc2 H.size) (cwV 1 hts g_x_callFunc_eval_566 rfl rfl rfl hd_x_eval (by show (57 + e2) + 1 ≤ 57 + d ∧ 8 + (3 + 11) + (1375 + 27 * e2) ≤ 1375 + 27 * d; omega)) hK hG hA hP hD hS rfl hl.1 rfl (Nat.le_of_ble_eq_true rfl) dX12_callFunc_212 ⟨Nat.le_refl _, Nat.le_refl _⟩ (fun H locs hP hD hS => ?_)
        refine lv_iconst (v := 0) hx hb dX12_callFunc_215 (by decide) ?_
        refine lv_istore (lv' := [(6, .int 0), (0, .ref (a 0)), (1, .int (L 1)), (2, .int (L 2)), (3, .int (L 3)), (4, .int (L 4)), (5, .int (L 5))]) hx hb dX12_callFunc_216 hl (by decide) rfl (fun ls hl => ?_)
        exact ih.2.2.2.2.2.2.2.2.2.2.2.2.2.2.2.2.1 (upd L 6 0) r2.2 r h H locs ls hP hD hS (lv_sub hl [1, 2, 3, 4, 5, 6, 0] rfl)
      · intro L σ r h H locs ls hP hD hS hl
        rw [x_GV_2, s_callFunc_16] at h
        refine lv_iload hx hb dX12_callFunc_218 (lv_at hl 6 rfl) ?_
        refine lv_bipush (v := 60) hx hb dX12_callFunc_220 (by decide) ?_
        refine lv_icmp_ge (tgt := 244) hx hb dX12_callFunc_222 (by decide) (fun c1 => ?_) (fun c1 => ?_)
        · rw [if_pos c1] at h
          exact ih.2.2.2.2.2.2.2.2.2.2.2.2.2.2.2.2.2.2.1 L σ r h H locs ls hP hD hS (lv_sub hl [0, 1, 2, 3, 4, 5, 6] rfl)
        · rw [if_neg c1] at h
          refine lv_aload_n hx hb dX12_callFunc_225 rfl (lv_at hl 0 rfl) ?_
          refine ng_66 hx hb hts in_x_callFunc hown hK hP (hts _ (List.mem_cons_of_mem _ (List.mem_append_left _ (List.mem_append_left _ (List.mem_of_getElem? (i := 85) rfl))))) dX12_callFunc_226 ?_
          refine lv_aload_n hx hb dX12_callFunc_229 rfl (lv_at hl 0 rfl) ?_
          refine ng_68 hx hb hts in_x_callFunc hown hK hP (hts _ (List.mem_cons_of_mem _ (List.mem_append_left _ (List.mem_append_left _ (List.mem_of_getElem? (i := 83) rfl))))) dX12_callFunc_230 ?_
          refine lv_iload hx hb dX12_callFunc_233 (lv_at hl 6 rfl) ?_
          refine lv_iadd hx hb dX12_callFunc_235 ?_
          refine lv_iconst (v := 0) hx hb dX12_callFunc_236 (by decide) ?_
          obtain ⟨q2, h⟩ := nb_ite1 h
          refine ns_33 hx hb hK hP hD hS q2 dX12_callFunc_237 (fun H locs hP hD hS => ?_)
          exact ih.2.2.2.2.2.2.2.2.2.2.2.2.2.2.2.2.2.1 L (σ.1, σ.2.1, updG σ.2.2 33 (upd (σ.2.2 33) ((((σ.1 68)) + ((L 6)))).toNatClampNeg 0)) r h H locs ls hP hD hS (lv_sub hl [0, 1, 2, 3, 4, 5, 6] rfl)
      · intro L σ r h H locs ls hP hD hS hl
        rw [x_GV_2, s_callFunc_17] at h
        refine lv_iinc (v := ((L 6)) + 1) (lv' := [(6, .int (((L 6)) + 1)), (0, .ref (a 0)), (1, .int (L 1)), (2, .int (L 2)), (3, .int (L 3)), (4, .int (L 4)), (5, .int (L 5))]) hx hb dX12_callFunc_238 hl (k := 6) rfl rfl (by decide) rfl (fun ls hl => ?_)
        refine lv_goto (tgt := 218) hx hb dX12_callFunc_241 (by decide) ?_
        exact ih.2.2.2.2.2.2.2.2.2.2.2.2.2.2.2.2.1 (upd L 6 (((L 6)) + 1)) σ r h H locs ls hP hD hS (lv_sub hl [1, 2, 3, 4, 5, 6, 0] rfl)
      · intro L σ r h H locs ls hP hD hS hl
        rw [x_GV_2, s_callFunc_18] at h
        refine lv_aload_n hx hb dX12_callFunc_244 rfl (lv_at hl 0 rfl) ?_
        refine lv_dup hx hb dX12_callFunc_245 rfl ?_
        refine ng_67 hx hb hts in_x_callFunc hown hK hP (hts _ (List.mem_cons_of_mem _ (List.mem_append_left _ (List.mem_append_left _ (List.mem_of_getElem? (i := 78) rfl))))) dX12_callFunc_246 ?_
        refine lv_iconst (v := 1) hx hb dX12_callFunc_249 (by decide) ?_
        refine lv_isub hx hb dX12_callFunc_250 ?_
        refine np_67 hx hb hts in_x_callFunc hown hK hP hD hS (hts _ (List.mem_cons_of_mem _ (List.mem_append_left _ (List.mem_append_left _ (List.mem_of_getElem? (i := 78) rfl))))) dX12_callFunc_251 (fun H locs hP hD hS => ?_)
        exact ih.2.2.2.2.2.2.2.2.2.2.2.2.2.2.2.2.2.2.2.1 L (upd σ.1 67 ((((σ.1 67)) - 1)), σ.2.1, σ.2.2) r h H locs ls hP hD hS (lv_sub hl [0, 1, 2, 3, 4, 5, 6] rfl)
      · intro L σ r h H locs ls hP hD hS hl
        rw [x_GV_2, s_callFunc_19] at h
        refine lv_aload_n hx hb dX12_callFunc_254 rfl (lv_at hl 0 rfl) ?_
        refine lv_dup hx hb dX12_callFunc_255 rfl ?_
        refine ng_97 hx hb hts in_x_callFunc hown hK hP (hts _ (List.mem_cons_of_mem _ (List.mem_append_left _ (List.mem_append_left _ (List.mem_of_getElem? (i := 79) rfl))))) dX12_callFunc_256 ?_
        refine lv_aload_n hx hb dX12_callFunc_259 rfl (lv_at hl 0 rfl) ?_
        refine ng_18 hx hb hts in_x_callFunc hown hK hP (hts _ (List.mem_cons_of_mem _ (List.mem_append_left _ (List.mem_append_left _ (List.mem_of_getElem? (i := 72) rfl))))) dX12_callFunc_260 ?_
        refine lv_iload_n hx hb dX12_callFunc_263 rfl (lv_at hl 1 rfl) ?_
        obtain ⟨q1, h⟩ := nb_ite1 h
        refine nl_8 hx hb hK hP q1 dX12_callFunc_264 ?_
        refine lv_isub hx hb dX12_callFunc_265 ?_
        refine np_97 hx hb hts in_x_callFunc hown hK hP hD hS (hts _ (List.mem_cons_of_mem _ (List.mem_append_left _ (List.mem_append_left _ (List.mem_of_getElem? (i := 79) rfl))))) dX12_callFunc_266 (fun H locs hP hD hS => ?_)
        exact ih.2.2.2.2.2.2.2.2.2.2.2.2.2.2.2.2.2.2.2.2.1 L (upd σ.1 97 ((((σ.1 97)) - ((σ.2.2 8 ((L 1)).toNatClampNeg)))), σ.2.1, σ.2.2) r h H locs ls hP hD hS (lv_sub hl [0, 1, 2, 3, 4, 5, 6] rfl)
      · intro L σ r h H locs ls hP hD hS hl
        rw [x_GV_2, s_callFunc_20] at h
        refine lv_aload_n hx hb dX12_callFunc_269 rfl (lv_at hl 0 rfl) ?_
        refine lv_iload hx hb dX12_callFunc_270 (lv_at hl 4 rfl) ?_
        refine np_68 hx hb hts in_x_callFunc hown hK hP hD hS (hts _ (List.mem_cons_of_mem _ (List.mem_append_left _ (List.mem_append_left _ (List.mem_of_getElem? (i := 83) rfl))))) dX12_callFunc_272 (fun H locs hP hD hS => ?_)
        exact ih.2.2.2.2.2.2.2.2.2.2.2.2.2.2.2.2.2.2.2.2.2.1 L (upd σ.1 68 ((L 4)), σ.2.1, σ.2.2) r h H locs ls hP hD hS (lv_sub hl [0, 1, 2, 3, 4, 5, 6] rfl)
      · intro L σ r h H locs ls hP hD hS hl
        rw [x_GV_2, s_callFunc_21] at h
        refine lv_aload_n hx hb dX12_callFunc_275 rfl (lv_at hl 0 rfl) ?_
        refine lv_iload hx hb dX12_callFunc_276 (lv_at hl 5 rfl) ?_
        obtain ⟨q1, h⟩ := nb_ite1 h
        refine np_69 hx hb hts in_x_callFunc hown hK hP hD hS (hts _ (List.mem_cons_of_mem _ (List.mem_append_left _ (List.mem_append_left _ (List.mem_of_getElem? (i := 84) rfl))))) q1 dX12_callFunc_278 (fun H locs hP hD hS => ?_)
        exact ih.2.2.2.2.2.2.2.2.2.2.2.2.2.2.2.2.2.2.2.2.2.2.1 L (upd σ.1 69 ((L 5)), σ.2.1, σ.2.2) r h H locs ls hP hD hS (lv_sub hl [0, 1, 2, 3, 4, 5, 6] rfl)
      · intro L σ r h H locs ls hP hD hS hl
        rw [x_GV_2, s_callFunc_22] at h
        refine lv_aload_n hx hb dX12_callFunc_281 rfl (lv_at hl 0 rfl) ?_
        refine ng_56 hx hb hts in_x_callFunc hown hK hP (hts _ (List.mem_cons_of_mem _ (List.mem_append_left _ (List.mem_append_left _ (List.mem_of_getElem? (i := 13) rfl))))) dX12_callFunc_282 ?_
        refine lv_if_ne (tgt := 304) hx hb dX12_callFunc_285 (by decide) (fun c1 => ?_) (fun c1 => ?_)
        · rw [if_neg c1] at h
          exact ih.2.2.2.2.2.2.2.2.2.2.2.2.2.2.2.2.2.2.2.2.2.2.2 L σ r h H locs ls hP hD hS (lv_sub hl [0, 1, 2, 3, 4, 5, 6] rfl)
        · rw [if_pos c1] at h
          refine lv_aload_n hx hb dX12_callFunc_288 rfl (lv_at hl 0 rfl) ?_
          refine lv_aload_n hx hb dX12_callFunc_289 rfl (lv_at hl 0 rfl) ?_
          refine ng_58 hx hb hts in_x_callFunc hown hK hP (hts _ (List.mem_cons_of_mem _ (List.mem_append_left _ (List.mem_append_left _ (List.mem_of_getElem? (i := 87) rfl))))) dX12_callFunc_290 ?_
          refine lv_aload_n hx hb dX12_callFunc_293 rfl (lv_at hl 0 rfl) ?_
          refine ng_59 hx hb hts in_x_callFunc hown hK hP (hts _ (List.mem_cons_of_mem _ (List.mem_append_left _ (List.mem_append_left _ (List.mem_of_getElem? (i := 76) rfl))))) dX12_callFunc_294 ?_
          refine lv_iconst (v := 1) hx hb dX12_callFunc_297 (by decide) ?_
          refine lv_isub hx hb dX12_callFunc_298 ?_
          obtain ⟨q2, h⟩ := nb_ite1 h
          refine nl_29 hx hb hK hP q2 dX12_callFunc_299 ?_
          obtain ⟨r3, hc3, h⟩ := ob_ex h
          refine nc_Vi (As := [.int (σ.2.2 29 ((((σ.1 59)) - 1)).toNatClampNeg)]) (rest := []) ⟨hx, hb, hml, hown, hts⟩ (c_x_answer l dC dI cy a k (upd (fun _ => 0) 1 ((σ.2.2 29 ((((σ.1 59)) - 1)).toNatClampNeg))) σ r3 hc3 H.size) (cwV 1 hts g_x_callFunc_answer_591 rfl rfl rfl hd_x_answer (by show 2 + 1 ≤ 57 + d ∧ 8 + (2 + 11) + 42 ≤ 1375 + 27 * d; omega)) hK hG hA hP hD hS rfl hl.1 rfl (Nat.le_of_ble_eq_true rfl) dX12_callFunc_300 ⟨Nat.le_refl _, Nat.le_refl _⟩ (fun H locs hP hD hS => ?_)
          refine lv_pop hx hb dX12_callFunc_303 rfl ?_
          exact ih.2.2.2.2.2.2.2.2.2.2.2.2.2.2.2.2.2.2.2.2.2.2.2 L r3.2 r h H locs ls hP hD hS (lv_sub hl [0, 1, 2, 3, 4, 5, 6] rfl)
      · intro L σ r h H locs ls hP hD hS hl
        rw [x_GV_2, s_callFunc_23] at h
        cases h
        exact W.vret hx hb hr (fun t ht hW => ⟨⟨(), rfl, trivial, by rw [ht]; exact hP, va_K.moved hW.alike hK, hD⟩, hS.F ht⟩) hS.2.2 dX12_callFunc_304
  exact (blk k0 (Nat.le_refl _)).1 L0 σ0 r0 h0 s.heap [] ls hP hD hS hl
theorem gg_x_choose_eval : GoodIn w_x_choose w_x_eval := goodIn_sub (fun w h => (List.mem_cons.mp h).elim (fun e => e ▸ (List.mem_cons_of_mem _ (List.mem_append_left _ (List.mem_append_left _ (List.mem_of_getElem? (i := 4) rfl))))) (fun h => List.mem_cons_of_mem _ h)) w_x_eval_good
theorem g_x_choose_eval_566 : GoodIn w_x_choose (wsV RX12 566 RX12 yX12_eval w_x_eval) := goodIn_app (nb_g4 (List.mem_cons_of_mem _ (List.mem_append_left _ (List.mem_append_left _ (List.mem_of_getElem? (i := 62) rfl)))) (List.mem_cons_of_mem _ (List.mem_append_left _ (List.mem_append_left _ (List.mem_of_getElem? (i := 63) rfl)))) (List.mem_cons_of_mem _ (List.mem_append_left _ (List.mem_append_left _ (List.mem_of_getElem? (i := 64) rfl)))) (List.mem_cons_of_mem _ (List.mem_append_left _ (List.mem_append_left _ (List.mem_of_getElem? (i := 19) rfl)))) (by decide +kernel)) gg_x_choose_eval
theorem gg_x_choose_holds : GoodIn w_x_choose w_x_holds := goodIn_sub (fun w h => (List.mem_cons.mp h).elim (fun e => e ▸ (List.mem_cons_of_mem _ (List.mem_append_left _ (List.mem_append_left _ (List.mem_of_getElem? (i := 8) rfl))))) (fun h => List.mem_cons_of_mem _ h)) w_x_holds_good
theorem g_x_choose_holds_672 : GoodIn w_x_choose (wsV RX12 672 RX12 yX12_holds w_x_holds) := goodIn_app (nb_g4 (List.mem_cons_of_mem _ (List.mem_append_left _ (List.mem_append_left _ (List.mem_of_getElem? (i := 89) rfl)))) (List.mem_cons_of_mem _ (List.mem_append_left _ (List.mem_append_left _ (List.mem_of_getElem? (i := 90) rfl)))) (List.mem_cons_of_mem _ (List.mem_append_left _ (List.mem_append_left _ (List.mem_of_getElem? (i := 91) rfl)))) (List.mem_cons_of_mem _ (List.mem_append_left _ (List.mem_append_left _ (List.mem_of_getElem? (i := 19) rfl)))) (by decide +kernel)) gg_x_choose_holds
set_option maxHeartbeats 40000000 in
set_option maxRecDepth 100000 in
theorem c_s_choose (l : Launch) (dC : Nat → ClassId) (dI : Nat → Nat → Nat) (cy : Nat → ClassId) (a : Nat → Nat) (k0 : Nat) (IH : ∀ j : Nat, j < k0 → P_GV l dC dI cy a j) (d : Nat) (L0 : Nat → Int32) (σ0 : MS) (r0 : Int32 × MS) (h0 : x_GV k0 d 3 0 L0 σ0 = some r0) (sz : Nat) : Met l yX12_choose w_x_choose ({ frames := 57 + d, cells := 0, slots := 0, locals := 1375 + 27 * d }) (va_Pc [.ref (a 0), .int (L0 1)] (nIn (dC, dI) cy sz (vM cy a σ0))) (va_Qv (fun _ : Unit => True) (fun _ t => nOut (dC, dI) cy (va_A (vM cy a σ0) sz) (vM cy a r0.2) t) (va_A (vM cy a σ0) sz)) 0 0 (va_A (vM cy a σ0) sz) := by
  refine Met.ofW (cc := cX12_choose) (maxL := 4) (ret := none) (by decide) rfl ?_
  intro p e s m args below meth c s₁ B hml hv
  obtain ⟨rfl, hsz, hP, hK, hD0, hG⟩ := hv
  have hx := B.exec
  have hb := B.bytes
  have hr := B.returns
  have hts := atoms_spec (ws := w_x_choose) B.pre
  have hown : s.vm.findClass RX12 = some m.cls := findClass_of_methodNamed B.named
  have hlocks := B.notSynchronized
  subst hsz
  have hD := hD0.self (sz := s.heap.size)
  generalize hAe : va_A (vM cy a σ0) s.heap.size = A at hD ⊢
  have hA : ∀ q : Nat, s.heap.size ≤ q → A q := fun q h => by rw [← hAe]; exact Or.inr h
  have hS : va_S A s.heap s.heap [] := va_S.rf
  have hl := lv_entry ([.ref (a 0), .int (L0 1)]) (n := 4) (Nat.le_of_ble_eq_true rfl)
  rw [lg_entry_eq]
  generalize (lg_sl ([.ref (a 0), .int (L0 1)]) ++ List.replicate (4 - (lg_sl ([.ref (a 0), .int (L0 1)])).length) Slot.unset).toArray = ls at hl ⊢
  have hl : lv_has ls 4 [(0, .ref (a 0)), (1, .int (L0 1))] := hl
  have blk : ∀ k : Nat, k ≤ k0 → (bT p l e (headSpec w_x_choose ({ frames := 57 + d, cells := 0, slots := 0, locals := 1375 + 27 * d })).room s m #[.ref (a 0), .int (L0 1)] below meth c dC dI cy a A (qV dC dI cy a A below #[.ref (a 0), .int (L0 1)] s) 4 (x_GV k d 3 0) (fun L => [(0, .ref (a 0)), (1, .int (L 1))]) 0 (fun L => [])) ∧ (bT p l e (headSpec w_x_choose ({ frames := 57 + d, cells := 0, slots := 0, locals := 1375 + 27 * d })).room s m #[.ref (a 0), .int (L0 1)] below meth c dC dI cy a A (qV dC dI cy a A below #[.ref (a 0), .int (L0 1)] s) 4 (x_GV k d 3 1) (fun L => [(0, .ref (a 0)), (1, .int (L 1)), (2, .int (L 2)), (3, .int (L 3))]) 9 (fun L => [])) ∧ (bT p l e (headSpec w_x_choose ({ frames := 57 + d, cells := 0, slots := 0, locals := 1375 + 27 * d })).room s m #[.ref (a 0), .int (L0 1)] below meth c dC dI cy a A (qV dC dI cy a A below #[.ref (a 0), .int (L0 1)] s) 4 (x_GV k d 3 2) (fun L => [(0, .ref (a 0)), (1, .int (L 1)), (2, .int (L 2)), (3, .int (L 3))]) 43 (fun L => [])) ∧ (bT p l e (headSpec w_x_choose ({ frames := 57 + d, cells := 0, slots := 0, locals := 1375 + 27 * d })).room s m #[.ref (a 0), .int (L0 1)] below meth c dC dI cy a A (qV dC dI cy a A below #[.ref (a 0), .int (L0 1)] s) 4 (x_GV k d 3 3) (fun L => [(0, .ref (a 0)), (1, .int (L 1)), (2, .int (L 2)), (3, .int (L 3))]) 48 (fun L => [])) ∧ (bT p l e (headSpec w_x_choose ({ frames := 57 + d, cells := 0, slots := 0, locals := 1375 + 27 * d })).room s m #[.ref (a 0), .int (L0 1)] below meth c dC dI cy a A (qV dC dI cy a A below #[.ref (a 0), .int (L0 1)] s) 4 (x_GV k d 3 4) (fun L => [(0, .ref (a 0)), (1, .int (L 1)), (2, .int (L 2)), (3, .int (L 3))]) 58 (fun L => [])) ∧ (bT p l e (headSpec w_x_choose ({ frames := 57 + d, cells := 0, slots := 0, locals := 1375 + 27 * d })).room s m #[.ref (a 0), .int (L0 1)] below meth c dC dI cy a A (qV dC dI cy a A below #[.ref (a 0), .int (L0 1)] s) 4 (x_GV k d 3 5) (fun L => [(0, .ref (a 0)), (1, .int (L 1)), (2, .int (L 2)), (3, .int (L 3))]) 75 (fun L => [])) := by
    intro k
    induction k with
    | zero => exact fun _ => ⟨fun L σ r h => (by cases h), fun L σ r h => (by cases h), fun L σ r h => (by cases h), fun L σ r h => (by cases h), fun L σ r h => (by cases h), fun L σ r h => (by cases h)⟩
    | succ k ih =>
      intro hk
      replace ih := ih (by omega)
      refine ⟨?_, ?_, ?_, ?_, ?_, ?_⟩
      · intro L σ r h H locs ls hP hD hS hl
        rw [x_GV_3, s_choose_0] at h
        refine lv_aload_n hx hb dX12_choose_0 rfl (lv_at hl 0 rfl) ?_
        refine ng_16 hx hb hts in_x_choose hown hK hP (hts _ (List.mem_cons_of_mem _ (List.mem_append_left _ (List.mem_append_left _ (List.mem_of_getElem? (i := 21) rfl))))) dX12_choose_1 ?_
        refine lv_iload_n hx hb dX12_choose_4 rfl (lv_at hl 1 rfl) ?_
        obtain ⟨q1, h⟩ := nb_ite1 h
        refine nl_6 hx hb hK hP q1 dX12_choose_5 ?_
        refine lv_istore_n (lv' := [(2, .int (σ.2.2 6 ((L 1)).toNatClampNeg)), (0, .ref (a 0)), (1, .int (L 1))]) hx hb dX12_choose_6 rfl hl (by decide) rfl (fun ls hl => ?_)
        refine lv_iconst (v := 1) hx hb dX12_choose_7 (by decide) ?_
        refine lv_istore_n (lv' := [(3, .int 1), (2, .int (σ.2.2 6 ((L 1)).toNatClampNeg)), (0, .ref (a 0)), (1, .int (L 1))]) hx hb dX12_choose_8 rfl hl (by decide) rfl (fun ls hl => ?_)
        exact ih.2.1 (upd (upd L 2 ((σ.2.2 6 ((L 1)).toNatClampNeg))) 3 1) σ r h H locs ls hP hD hS (lv_sub hl [2, 3, 1, 0] rfl)
      · intro L σ r h H locs ls hP hD hS hl
        rw [x_GV_3, s_choose_1] at h
        refine lv_iload_n hx hb dX12_choose_9 rfl (lv_at hl 3 rfl) ?_
        refine lv_if_eq (tgt := 58) hx hb dX12_choose_10 (by decide) (fun c1 => ?_) (fun c1 => ?_)
        · rw [if_pos c1] at h
          exact ih.2.2.2.2.1 L σ r h H locs ls hP hD hS (lv_sub hl [0, 1, 2, 3] rfl)
        · rw [if_neg c1] at h
          refine lv_aload_n hx hb dX12_choose_13 rfl (lv_at hl 0 rfl) ?_
          refine ng_56 hx hb hts in_x_choose hown hK hP (hts _ (List.mem_cons_of_mem _ (List.mem_append_left _ (List.mem_append_left _ (List.mem_of_getElem? (i := 13) rfl))))) dX12_choose_14 ?_
          refine lv_if_ne (tgt := 58) hx hb dX12_choose_17 (by decide) (fun c2 => ?_) (fun c2 => ?_)
          · rw [if_neg c2] at h
            exact ih.2.2.2.2.1 L σ r h H locs ls hP hD hS (lv_sub hl [0, 1, 2, 3] rfl)
          · rw [if_pos c2] at h
            refine lv_aload_n hx hb dX12_choose_20 rfl (lv_at hl 0 rfl) ?_
            refine ng_15 hx hb hts in_x_choose hown hK hP (hts _ (List.mem_cons_of_mem _ (List.mem_append_left _ (List.mem_append_left _ (List.mem_of_getElem? (i := 20) rfl))))) dX12_choose_21 ?_
            refine lv_iload_n hx hb dX12_choose_24 rfl (lv_at hl 2 rfl) ?_
            obtain ⟨q3, h⟩ := nb_ite1 h
            refine nl_5 hx hb hK hP q3 dX12_choose_25 ?_
            refine lv_iconst (v := (-1)) hx hb dX12_choose_26 (by decide) ?_
            refine lv_icmp_eq (tgt := 43) hx hb dX12_choose_27 (by decide) (fun c4 => ?_) (fun c4 => ?_)
            · rw [if_pos c4] at h
              exact ih.2.2.1 L σ r h H locs ls hP hD hS (lv_sub hl [0, 1, 2, 3] rfl)
            · rw [if_neg c4] at h
              refine lv_aload_n hx hb dX12_choose_30 rfl (lv_at hl 0 rfl) ?_
              refine lv_aload_n hx hb dX12_choose_31 rfl (lv_at hl 0 rfl) ?_
              refine ng_15 hx hb hts in_x_choose hown hK hP (hts _ (List.mem_cons_of_mem _ (List.mem_append_left _ (List.mem_append_left _ (List.mem_of_getElem? (i := 20) rfl))))) dX12_choose_32 ?_
              refine lv_iload_n hx hb dX12_choose_35 rfl (lv_at hl 2 rfl) ?_
              obtain ⟨q5, h⟩ := nb_ite1 h
              refine nl_5 hx hb hK hP q5 dX12_choose_36 ?_
              obtain ⟨e6, he6, h⟩ := od_ex h
              obtain ⟨r6, hc6, h⟩ := ob_ex h
              refine nc_Vi (As := [.int (σ.2.2 5 ((L 2)).toNatClampNeg)]) (rest := []) ⟨hx, hb, hml, hown, hts⟩ ((IH k (by omega)).2.2.2.2.2.2.2.2.1 e6 (upd (fun _ => 0) 1 ((σ.2.2 5 ((L 2)).toNatClampNeg))) σ r6 hc6 H.size) (cwV 1 hts g_x_choose_holds_672 rfl rfl rfl hd_x_holds (by show (57 + e6) + 1 ≤ 57 + d ∧ 8 + (2 + 11) + (1375 + 27 * e6) ≤ 1375 + 27 * d; omega)) hK hG hA hP hD hS rfl hl.1 rfl (Nat.le_of_ble_eq_true rfl) dX12_choose_37 ⟨Nat.le_refl _, Nat.le_refl _⟩ (fun H locs hP hD hS => ?_)
              refine lv_if_eq (tgt := 48) hx hb dX12_choose_40 (by decide) (fun c7 => ?_) (fun c7 => ?_)
              · rw [if_pos c7] at h
                exact ih.2.2.2.1 L r6.2 r h H locs ls hP hD hS (lv_sub hl [0, 1, 2, 3] rfl)
              · rw [if_neg c7] at h
                exact ih.2.2.1 L r6.2 r h H locs ls hP hD hS (lv_sub hl [0, 1, 2, 3] rfl)
      · intro L σ r h H locs ls hP hD hS hl
        rw [x_GV_3, s_choose_2] at h
        refine lv_iconst (v := 0) hx hb dX12_choose_43 (by decide) ?_
        refine lv_istore_n (lv' := [(3, .int 0), (0, .ref (a 0)), (1, .int (L 1)), (2, .int (L 2))]) hx hb dX12_choose_44 rfl hl (by decide) rfl (fun ls hl => ?_)
        refine lv_goto (tgt := 9) hx hb dX12_choose_45 (by decide) ?_
        exact ih.2.1 (upd L 3 0) σ r h H locs ls hP hD hS (lv_sub hl [1, 2, 3, 0] rfl)
      · intro L σ r h H locs ls hP hD hS hl
        rw [x_GV_3, s_choose_3] at h
        refine lv_aload_n hx hb dX12_choose_48 rfl (lv_at hl 0 rfl) ?_
        refine ng_19 hx hb hts in_x_choose hown hK hP (hts _ (List.mem_cons_of_mem _ (List.mem_append_left _ (List.mem_append_left _ (List.mem_of_getElem? (i := 77) rfl))))) dX12_choose_49 ?_
        refine lv_iload_n hx hb dX12_choose_52 rfl (lv_at hl 2 rfl) ?_
        obtain ⟨q1, h⟩ := nb_ite1 h
        refine nl_9 hx hb hK hP q1 dX12_choose_53 ?_
        refine lv_istore_n (lv' := [(2, .int (σ.2.2 9 ((L 2)).toNatClampNeg)), (0, .ref (a 0)), (1, .int (L 1)), (3, .int (L 3))]) hx hb dX12_choose_54 rfl hl (by decide) rfl (fun ls hl => ?_)
        refine lv_goto (tgt := 9) hx hb dX12_choose_55 (by decide) ?_
        exact ih.2.1 (upd L 2 ((σ.2.2 9 ((L 2)).toNatClampNeg))) σ r h H locs ls hP hD hS (lv_sub hl [1, 2, 0, 3] rfl)
      · intro L σ r h H locs ls hP hD hS hl
        rw [x_GV_3, s_choose_4] at h
        refine lv_aload_n hx hb dX12_choose_58 rfl (lv_at hl 0 rfl) ?_
        refine ng_56 hx hb hts in_x_choose hown hK hP (hts _ (List.mem_cons_of_mem _ (List.mem_append_left _ (List.mem_append_left _ (List.mem_of_getElem? (i := 13) rfl))))) dX12_choose_59 ?_
        refine lv_if_ne (tgt := 75) hx hb dX12_choose_62 (by decide) (fun c1 => ?_) (fun c1 => ?_)
        · rw [if_neg c1] at h
          exact ih.2.2.2.2.2 L σ r h H locs ls hP hD hS (lv_sub hl [0, 1, 2, 3] rfl)
        · rw [if_pos c1] at h
          refine lv_aload_n hx hb dX12_choose_65 rfl (lv_at hl 0 rfl) ?_
          refine lv_aload_n hx hb dX12_choose_66 rfl (lv_at hl 0 rfl) ?_
          refine ng_16 hx hb hts in_x_choose hown hK hP (hts _ (List.mem_cons_of_mem _ (List.mem_append_left _ (List.mem_append_left _ (List.mem_of_getElem? (i := 21) rfl))))) dX12_choose_67 ?_
          refine lv_iload_n hx hb dX12_choose_70 rfl (lv_at hl 2 rfl) ?_
          obtain ⟨q2, h⟩ := nb_ite1 h
          refine nl_6 hx hb hK hP q2 dX12_choose_71 ?_
          obtain ⟨e3, he3, h⟩ := od_ex h
          obtain ⟨r3, hc3, h⟩ := ob_ex h
          refine nc_Vv (As := [.int (σ.2.2 6 ((L 2)).toNatClampNeg)]) (rest := []) ⟨hx, hb, hml, hown, hts⟩ ((IH k (by omega)).2.2.2.2.1 e3 (upd (fun _ => 0) 1 ((σ.2.2 6 ((L 2)).toNatClampNeg))) σ r3 hc3 H.size) (cwV 1 hts g_x_choose_eval_566 rfl rfl rfl hd_x_eval (by show (57 + e3) + 1 ≤ 57 + d ∧ 8 + (3 + 11) + (1375 + 27 * e3) ≤ 1375 + 27 * d; omega)) hK hG hA hP hD hS rfl hl.1 rfl (Nat.le_of_ble_eq_true rfl) dX12_choose_72 ⟨Nat.le_refl _, Nat.le_refl _⟩ (fun H locs hP hD hS => ?_)
          exact ih.2.2.2.2.2 L r3.2 r h H locs ls hP hD hS (lv_sub hl [0, 1, 2, 3] rfl)
      · intro L σ r h H locs ls hP hD hS hl
        rw [x_GV_3, s_choose_5] at h
        cases h
        exact W.vret hx hb hr (fun t ht hW => ⟨⟨(), rfl, trivial, by rw [ht]; exact hP, va_K.moved hW.alike hK, hD⟩, hS.F ht⟩) hS.2.2 dX12_choose_75
  exact (blk k0 (Nat.le_refl _)).1 L0 σ0 r0 h0 s.heap [] ls hP hD hS hl
theorem gg_x_eval_begins : GoodIn w_x_eval w_x_begins := goodIn_sub (fun w h => (List.mem_cons.mp h).elim (fun e => e ▸ (List.mem_cons_of_mem _ (List.mem_append_left _ (List.mem_append_left _ (List.mem_of_getElem? (i := 0) rfl))))) (fun h => List.mem_cons_of_mem _ h)) w_x_begins_good
theorem g_x_eval_begins_578 : GoodIn w_x_eval (wsV RX12 578 RX12 yX12_begins w_x_begins) := goodIn_app (nb_g4 (List.mem_cons_of_mem _ (List.mem_append_left _ (List.mem_append_left _ (List.mem_of_getElem? (i := 94) rfl)))) (List.mem_cons_of_mem _ (List.mem_append_left _ (List.mem_append_left _ (List.mem_of_getElem? (i := 95) rfl)))) (List.mem_cons_of_mem _ (List.mem_append_left _ (List.mem_append_left _ (List.mem_of_getElem? (i := 96) rfl)))) (List.mem_cons_of_mem _ (List.mem_append_left _ (List.mem_append_left _ (List.mem_of_getElem? (i := 19) rfl)))) (by decide +kernel)) gg_x_eval_begins
theorem gg_x_eval_goesOn : GoodIn w_x_eval w_x_goesOn := goodIn_sub (fun w h => (List.mem_cons.mp h).elim (fun e => e ▸ (List.mem_cons_of_mem _ (List.mem_append_left _ (List.mem_append_left _ (List.mem_of_getElem? (i := 7) rfl))))) (fun h => List.mem_cons_of_mem _ h)) w_x_goesOn_good
theorem g_x_eval_goesOn_581 : GoodIn w_x_eval (wsV RX12 581 RX12 yX12_goesOn w_x_goesOn) := goodIn_app (nb_g4 (List.mem_cons_of_mem _ (List.mem_append_left _ (List.mem_append_left _ (List.mem_of_getElem? (i := 97) rfl)))) (List.mem_cons_of_mem _ (List.mem_append_left _ (List.mem_append_left _ (List.mem_of_getElem? (i := 98) rfl)))) (List.mem_cons_of_mem _ (List.mem_append_left _ (List.mem_append_left _ (List.mem_of_getElem? (i := 99) rfl)))) (List.mem_cons_of_mem _ (List.mem_append_left _ (List.mem_append_left _ (List.mem_of_getElem? (i := 19) rfl)))) (by decide +kernel)) gg_x_eval_goesOn
theorem gg_x_eval_isOver : GoodIn w_x_eval w_x_isOver := goodIn_sub (fun w h => (List.mem_cons.mp h).elim (fun e => (List.mem_cons_of_mem _ (List.mem_append_left _ (List.mem_append_right _ (List.mem_append_right _ (List.mem_append_right _ (List.mem_append_right _ (List.mem_append_right _ (List.mem_append_right _ (List.mem_append_right _ (List.mem_append_right _ (List.mem_append_right _ (List.mem_append_right _ (List.mem_append_right _ (List.mem_append_right _ (List.mem_append_left _ (List.mem_cons.mpr (Or.inl e)))))))))))))))))) (fun h => (List.mem_append.mp h).elim (fun h => (List.mem_cons_of_mem _ (List.mem_append_left _ (List.mem_append_right _ (List.mem_append_right _ (List.mem_append_right _ (List.mem_append_right _ (List.mem_append_right _ (List.mem_append_right _ (List.mem_append_right _ (List.mem_append_right _ (List.mem_append_right _ (List.mem_append_right _ (List.mem_append_right _ (List.mem_append_right _ (List.mem_append_left _ (List.mem_cons_of_mem _ h))))))))))))))))) (fun h => List.mem_cons_of_mem _ (List.mem_append_right _ h)))) w_x_isOver_good
theorem g_x_eval_isOver_575 : GoodIn w_x_eval (va_wsS RX12 575 yX12_isOver w_x_isOver) := goodIn_app (nb_g3 (List.mem_cons_of_mem _ (List.mem_append_left _ (List.mem_append_left _ (List.mem_of_getElem? (i := 92) rfl)))) (List.mem_cons_of_mem _ (List.mem_append_left _ (List.mem_append_left _ (List.mem_of_getElem? (i := 93) rfl)))) (List.mem_cons_of_mem _ (List.mem_append_left _ (List.mem_append_left _ (List.mem_of_getElem? (i := 19) rfl)))) (by decide +kernel)) gg_x_eval_isOver
set_option maxHeartbeats 40000000 in
set_option maxRecDepth 100000 in
theorem c_s_eval (l : Launch) (dC : Nat → ClassId) (dI : Nat → Nat → Nat) (cy : Nat → ClassId) (a : Nat → Nat) (k0 : Nat) (IH : ∀ j : Nat, j < k0 → P_GV l dC dI cy a j) (d : Nat) (L0 : Nat → Int32) (σ0 : MS) (r0 : Int32 × MS) (h0 : x_GV k0 d 4 0 L0 σ0 = some r0) (sz : Nat) : Met l yX12_eval w_x_eval ({ frames := 57 + d, cells := 0, slots := 0, locals := 1375 + 27 * d }) (va_Pc [.ref (a 0), .int (L0 1)] (nIn (dC, dI) cy sz (vM cy a σ0))) (va_Qv (fun _ : Unit => True) (fun _ t => nOut (dC, dI) cy (va_A (vM cy a σ0) sz) (vM cy a r0.2) t) (va_A (vM cy a σ0) sz)) 0 0 (va_A (vM cy a σ0) sz) := by
  refine Met.ofW (cc := cX12_eval) (maxL := 3) (ret := none) (by decide) rfl ?_
  intro p e s m args below meth c s₁ B hml hv
  obtain ⟨rfl, hsz, hP, hK, hD0, hG⟩ := hv
  have hx := B.exec
  have hb := B.bytes
  have hr := B.returns
  have hts := atoms_spec (ws := w_x_eval) B.pre
  have hown : s.vm.findClass RX12 = some m.cls := findClass_of_methodNamed B.named
  have hlocks := B.notSynchronized
  subst hsz
  have hD := hD0.self (sz := s.heap.size)
  generalize hAe : va_A (vM cy a σ0) s.heap.size = A at hD ⊢
  have hA : ∀ q : Nat, s.heap.size ≤ q → A q := fun q h => by rw [← hAe]; exact Or.inr h
  have hS : va_S A s.heap s.heap [] := va_S.rf
  have hl := lv_entry ([.ref (a 0), .int (L0 1)]) (n := 3) (Nat.le_of_ble_eq_true rfl)
  rw [lg_entry_eq]
  generalize (lg_sl ([.ref (a 0), .int (L0 1)]) ++ List.replicate (3 - (lg_sl ([.ref (a 0), .int (L0 1)])).length) Slot.unset).toArray = ls at hl ⊢
  have hl : lv_has ls 3 [(0, .ref (a 0)), (1, .int (L0 1))] := hl
  have blk : ∀ k : Nat, k ≤ k0 → (bT p l e (headSpec w_x_eval ({ frames := 57 + d, cells := 0, slots := 0, locals := 1375 + 27 * d })).room s m #[.ref (a 0), .int (L0 1)] below meth c dC dI cy a A (qV dC dI cy a A below #[.ref (a 0), .int (L0 1)] s) 3 (x_GV k d 4 0) (fun L => [(0, .ref (a 0)), (1, .int (L 1))]) 0 (fun L => [])) ∧ (bT p l e (headSpec w_x_eval ({ frames := 57 + d, cells := 0, slots := 0, locals := 1375 + 27 * d })).room s m #[.ref (a 0), .int (L0 1)] below meth c dC dI cy a A (qV dC dI cy a A below #[.ref (a 0), .int (L0 1)] s) 3 (x_GV k d 4 1) (fun L => [(0, .ref (a 0)), (1, .int (L 1)), (2, .int (L 2))]) 2 (fun L => [])) ∧ (bT p l e (headSpec w_x_eval ({ frames := 57 + d, cells := 0, slots := 0, locals := 1375 + 27 * d })).room s m #[.ref (a 0), .int (L0 1)] below meth c dC dI cy a A (qV dC dI cy a A below #[.ref (a 0), .int (L0 1)] s) 3 (x_GV k d 4 2) (fun L => [(0, .ref (a 0)), (1, .int (L 1)), (2, .int (L 2))]) 24 (fun L => [])) ∧ (bT p l e (headSpec w_x_eval ({ frames := 57 + d, cells := 0, slots := 0, locals := 1375 + 27 * d })).room s m #[.ref (a 0), .int (L0 1)] below meth c dC dI cy a A (qV dC dI cy a A below #[.ref (a 0), .int (L0 1)] s) 3 (x_GV k d 4 3) (fun L => [(0, .ref (a 0)), (1, .int (L 1)), (2, .int (L 2))]) 29 (fun L => [])) ∧ (bT p l e (headSpec w_x_eval ({ frames := 57 + d, cells := 0, slots := 0, locals := 1375 + 27 * d })).room s m #[.ref (a 0), .int (L0 1)] below meth c dC dI cy a A (qV dC dI cy a A below #[.ref (a 0), .int (L0 1)] s) 3 (x_GV k d 4 4) (fun L => [(0, .ref (a 0)), (1, .int (L 1)), (2, .int (L 2))]) 56 (fun L => [])) := by
    intro k
    induction k with
    | zero => exact fun _ => ⟨fun L σ r h => (by cases h), fun L σ r h => (by cases h), fun L σ r h => (by cases h), fun L σ r h => (by cases h), fun L σ r h => (by cases h)⟩
    | succ k ih =>
      intro hk
      replace ih := ih (by omega)
      refine ⟨?_, ?_, ?_, ?_, ?_⟩
      · intro L σ r h H locs ls hP hD hS hl
        rw [x_GV_4, s_eval_0] at h
        refine lv_iload_n hx hb dX12_eval_0 rfl (lv_at hl 1 rfl) ?_
        refine lv_istore_n (lv' := [(2, .int (L 1)), (0, .ref (a 0)), (1, .int (L 1))]) hx hb dX12_eval_1 rfl hl (by decide) rfl (fun ls hl => ?_)
        exact ih.2.1 (upd L 2 ((L 1))) σ r h H locs ls hP hD hS (lv_sub hl [1, 2, 0] rfl)
      · intro L σ r h H locs ls hP hD hS hl
        rw [x_GV_4, s_eval_1] at h
        refine lv_aload_n hx hb dX12_eval_2 rfl (lv_at hl 0 rfl) ?_
        refine ng_14 hx hb hts in_x_eval hown hK hP (hts _ (List.mem_cons_of_mem _ (List.mem_append_left _ (List.mem_append_left _ (List.mem_of_getElem? (i := 14) rfl))))) dX12_eval_3 ?_
        refine lv_iload_n hx hb dX12_eval_6 rfl (lv_at hl 2 rfl) ?_
        obtain ⟨q1, h⟩ := nb_ite1 h
        refine nl_4 hx hb hK hP q1 dX12_eval_7 ?_
        obtain ⟨r2, hc2, h⟩ := ob_ex h
        refine nc_Si (As := [.int (σ.2.2 4 ((L 2)).toNatClampNeg)]) (rest := []) ⟨hx, hb, hml, hown, hts⟩ (c_x_isOver l dC dI cy a k (upd (fun _ => 0) 0 ((σ.2.2 4 ((L 2)).toNatClampNeg))) σ r2 hc2 H.size) (va_cwS 1 hts g_x_eval_isOver_575 rfl rfl rfl hd_x_isOver (by show 0 + 1 ≤ 57 + d ∧ 8 + (1 + 11) + 0 ≤ 1375 + 27 * d; omega)) hK hG hA hP hD hS rfl hl.1 rfl (Nat.le_of_ble_eq_true rfl) dX12_eval_8 ⟨Nat.le_refl _, Nat.le_refl _⟩ (fun H locs hP hD hS => ?_)
        refine lv_if_eq (tgt := 24) hx hb dX12_eval_11 (by decide) (fun c3 => ?_) (fun c3 => ?_)
        · rw [if_pos c3] at h
          exact ih.2.2.1 L r2.2 r h H locs ls hP hD hS (lv_sub hl [0, 1, 2] rfl)
        · rw [if_neg c3] at h
          refine lv_aload_n hx hb dX12_eval_14 rfl (lv_at hl 0 rfl) ?_
          refine ng_16 hx hb hts in_x_eval hown hK hP (hts _ (List.mem_cons_of_mem _ (List.mem_append_left _ (List.mem_append_left _ (List.mem_of_getElem? (i := 21) rfl))))) dX12_eval_15 ?_
          refine lv_iload_n hx hb dX12_eval_18 rfl (lv_at hl 2 rfl) ?_
          obtain ⟨q4, h⟩ := nb_ite1 h
          refine nl_6 hx hb hK hP q4 dX12_eval_19 ?_
          refine lv_istore_n (lv' := [(2, .int (r2.2.2.2 6 ((L 2)).toNatClampNeg)), (0, .ref (a 0)), (1, .int (L 1))]) hx hb dX12_eval_20 rfl hl (by decide) rfl (fun ls hl => ?_)
          refine lv_goto (tgt := 2) hx hb dX12_eval_21 (by decide) ?_
          exact ih.2.1 (upd L 2 ((r2.2.2.2 6 ((L 2)).toNatClampNeg))) r2.2 r h H locs ls hP hD hS (lv_sub hl [1, 2, 0] rfl)
      · intro L σ r h H locs ls hP hD hS hl
        rw [x_GV_4, s_eval_2] at h
        refine lv_aload_n hx hb dX12_eval_24 rfl (lv_at hl 0 rfl) ?_
        refine lv_iload_n hx hb dX12_eval_25 rfl (lv_at hl 2 rfl) ?_
        obtain ⟨e1, he1, h⟩ := od_ex h
        obtain ⟨r1, hc1, h⟩ := ob_ex h
        refine nc_Vv (As := [.int (L 2)]) (rest := []) ⟨hx, hb, hml, hown, hts⟩ ((IH k (by omega)).1 e1 (upd (fun _ => 0) 1 ((L 2))) σ r1 hc1 H.size) (cwV 1 hts g_x_eval_begins_578 rfl rfl rfl hd_x_begins (by show (57 + e1) + 1 ≤ 57 + d ∧ 8 + (2 + 11) + (1375 + 27 * e1) ≤ 1375 + 27 * d; omega)) hK hG hA hP hD hS rfl hl.1 rfl (Nat.le_of_ble_eq_true rfl) dX12_eval_26 ⟨Nat.le_refl _, Nat.le_refl _⟩ (fun H locs hP hD hS => ?_)
        exact ih.2.2.2.1 L r1.2 r h H locs ls hP hD hS (lv_sub hl [0, 1, 2] rfl)
      · intro L σ r h H locs ls hP hD hS hl
        rw [x_GV_4, s_eval_3] at h
        refine lv_iload_n hx hb dX12_eval_29 rfl (lv_at hl 2 rfl) ?_
        refine lv_iload_n hx hb dX12_eval_30 rfl (lv_at hl 1 rfl) ?_
        refine lv_icmp_eq (tgt := 56) hx hb dX12_eval_31 (by decide) (fun c1 => ?_) (fun c1 => ?_)
        · rw [if_pos c1] at h
          exact ih.2.2.2.2 L σ r h H locs ls hP hD hS (lv_sub hl [0, 1, 2] rfl)
        · rw [if_neg c1] at h
          refine lv_aload_n hx hb dX12_eval_34 rfl (lv_at hl 0 rfl) ?_
          refine ng_56 hx hb hts in_x_eval hown hK hP (hts _ (List.mem_cons_of_mem _ (List.mem_append_left _ (List.mem_append_left _ (List.mem_of_getElem? (i := 13) rfl))))) dX12_eval_35 ?_
          refine lv_if_ne (tgt := 56) hx hb dX12_eval_38 (by decide) (fun c2 => ?_) (fun c2 => ?_)
          · rw [if_neg c2] at h
            exact ih.2.2.2.2 L σ r h H locs ls hP hD hS (lv_sub hl [0, 1, 2] rfl)
          · rw [if_pos c2] at h
            refine lv_aload_n hx hb dX12_eval_41 rfl (lv_at hl 0 rfl) ?_
            refine ng_19 hx hb hts in_x_eval hown hK hP (hts _ (List.mem_cons_of_mem _ (List.mem_append_left _ (List.mem_append_left _ (List.mem_of_getElem? (i := 77) rfl))))) dX12_eval_42 ?_
            refine lv_iload_n hx hb dX12_eval_45 rfl (lv_at hl 2 rfl) ?_
            obtain ⟨q3, h⟩ := nb_ite1 h
            refine nl_9 hx hb hK hP q3 dX12_eval_46 ?_
            refine lv_istore_n (lv' := [(2, .int (σ.2.2 9 ((L 2)).toNatClampNeg)), (0, .ref (a 0)), (1, .int (L 1))]) hx hb dX12_eval_47 rfl hl (by decide) rfl (fun ls hl => ?_)
            refine lv_aload_n hx hb dX12_eval_48 rfl (lv_at hl 1 rfl) ?_
            refine lv_iload_n hx hb dX12_eval_49 rfl (lv_at hl 0 rfl) ?_
            obtain ⟨e4, he4, h⟩ := od_ex h
            obtain ⟨r4, hc4, h⟩ := ob_ex h
            refine nc_Vv (As := [.int (σ.2.2 9 ((L 2)).toNatClampNeg)]) (rest := []) ⟨hx, hb, hml, hown, hts⟩ ((IH k (by omega)).2.2.2.2.2.2.2.1 e4 (upd (fun _ => 0) 1 ((σ.2.2 9 ((L 2)).toNatClampNeg))) σ r4 hc4 H.size) (cwV 1 hts g_x_eval_goesOn_581 rfl rfl rfl hd_x_goesOn (by show (57 + e4) + 1 ≤ 57 + d ∧ 8 + (6 + 11) + (1375 + 27 * e4) ≤ 1375 + 27 * d; omega)) hK hG hA hP hD hS rfl hl.1 rfl (Nat.le_of_ble_eq_true rfl) dX12_eval_50 ⟨Nat.le_refl _, Nat.le_refl _⟩ (fun H locs hP hD hS => ?_)
            refine lv_goto (tgt := 29) hx hb dX12_eval_53 (by decide) ?_
            exact ih.2.2.2.1 (upd L 2 ((σ.2.2 9 ((L 2)).toNatClampNeg))) r4.2 r h H locs ls hP hD hS (lv_sub hl [1, 2, 0] rfl)
      · intro L σ r h H locs ls hP hD hS hl
        rw [x_GV_4, s_eval_4] at h
        cases h
        exact W.vret hx hb hr (fun t ht hW => ⟨⟨(), rfl, trivial, by rw [ht]; exact hP, va_K.moved hW.alike hK, hD⟩, hS.F ht⟩) hS.2.2 dX12_eval_56
  exact (blk k0 (Nat.le_refl _)).1 L0 σ0 r0 h0 s.heap [] ls hP hD hS hl
theorem gg_x_former_answer : GoodIn w_x_former w_x_answer := goodIn_sub (fun w h => (List.mem_cons.mp h).elim (fun e => (List.mem_cons_of_mem _ (List.mem_append_left _ (List.mem_append_right _ (List.mem_append_right _ (List.mem_append_right _ (List.mem_append_left _ (List.mem_cons.mpr (Or.inl e))))))))) (fun h => (List.mem_append.mp h).elim (fun h => (List.mem_cons_of_mem _ (List.mem_append_left _ (List.mem_append_right _ (List.mem_append_right _ (List.mem_append_right _ (List.mem_append_left _ (List.mem_cons_of_mem _ h)))))))) (fun h => List.mem_cons_of_mem _ (List.mem_append_right _ h)))) w_x_answer_good
theorem g_x_former_answer_591 : GoodIn w_x_former (wsV RX12 591 RX12 yX12_answer w_x_answer) := goodIn_app (nb_g4 (List.mem_cons_of_mem _ (List.mem_append_left _ (List.mem_append_left _ (List.mem_of_getElem? (i := 25) rfl)))) (List.mem_cons_of_mem _ (List.mem_append_left _ (List.mem_append_left _ (List.mem_of_getElem? (i := 26) rfl)))) (List.mem_cons_of_mem _ (List.mem_append_left _ (List.mem_append_left _ (List.mem_of_getElem? (i := 27) rfl)))) (List.mem_cons_of_mem _ (List.mem_append_left _ (List.mem_append_left _ (List.mem_of_getElem? (i := 19) rfl)))) (by decide +kernel)) gg_x_former_answer
theorem gg_x_former_clear : GoodIn w_x_former w_x_clear := goodIn_sub (fun w h => (List.mem_cons.mp h).elim (fun e => (List.mem_cons_of_mem _ (List.mem_append_left _ (List.mem_append_right _ (List.mem_append_right _ (List.mem_append_right _ (List.mem_append_right _ (List.mem_append_right _ (List.mem_append_right _ (List.mem_append_right _ (List.mem_append_right _ (List.mem_append_right _ (List.mem_append_right _ (List.mem_append_right _ (List.mem_append_right _ (List.mem_append_right _ (List.mem_append_left _ (List.mem_cons.mpr (Or.inl e))))))))))))))))))) (fun h => (List.mem_append.mp h).elim (fun h => (List.mem_cons_of_mem _ (List.mem_append_left _ (List.mem_append_right _ (List.mem_append_right _ (List.mem_append_right _ (List.mem_append_right _ (List.mem_append_right _ (List.mem_append_right _ (List.mem_append_right _ (List.mem_append_right _ (List.mem_append_right _ (List.mem_append_right _ (List.mem_append_right _ (List.mem_append_right _ (List.mem_append_right _ (List.mem_append_left _ (List.mem_cons_of_mem _ h)))))))))))))))))) (fun h => List.mem_cons_of_mem _ (List.mem_append_right _ h)))) w_x_clear_good
theorem g_x_former_clear_722 : GoodIn w_x_former (wsV RX12 722 RX12 yX12_clear w_x_clear) := goodIn_app (nb_g4 (List.mem_cons_of_mem _ (List.mem_append_left _ (List.mem_append_left _ (List.mem_of_getElem? (i := 104) rfl)))) (List.mem_cons_of_mem _ (List.mem_append_left _ (List.mem_append_left _ (List.mem_of_getElem? (i := 105) rfl)))) (List.mem_cons_of_mem _ (List.mem_append_left _ (List.mem_append_left _ (List.mem_of_getElem? (i := 106) rfl)))) (List.mem_cons_of_mem _ (List.mem_append_left _ (List.mem_append_left _ (List.mem_of_getElem? (i := 19) rfl)))) (by decide +kernel)) gg_x_former_clear
theorem gg_x_former_eval : GoodIn w_x_former w_x_eval := goodIn_sub (fun w h => (List.mem_cons.mp h).elim (fun e => e ▸ (List.mem_cons_of_mem _ (List.mem_append_left _ (List.mem_append_left _ (List.mem_of_getElem? (i := 4) rfl))))) (fun h => List.mem_cons_of_mem _ h)) w_x_eval_good
theorem g_x_former_eval_566 : GoodIn w_x_former (wsV RX12 566 RX12 yX12_eval w_x_eval) := goodIn_app (nb_g4 (List.mem_cons_of_mem _ (List.mem_append_left _ (List.mem_append_left _ (List.mem_of_getElem? (i := 62) rfl)))) (List.mem_cons_of_mem _ (List.mem_append_left _ (List.mem_append_left _ (List.mem_of_getElem? (i := 63) rfl)))) (List.mem_cons_of_mem _ (List.mem_append_left _ (List.mem_append_left _ (List.mem_of_getElem? (i := 64) rfl)))) (List.mem_cons_of_mem _ (List.mem_append_left _ (List.mem_append_left _ (List.mem_of_getElem? (i := 19) rfl)))) (by decide +kernel)) gg_x_former_eval
theorem gg_x_former_fail : GoodIn w_x_former w_x_fail := goodIn_sub (fun w h => (List.mem_cons.mp h).elim (fun e => (List.mem_cons_of_mem _ (List.mem_append_left _ (List.mem_append_right _ (List.mem_append_right _ (List.mem_append_right _ (List.mem_append_right _ (List.mem_append_right _ (List.mem_append_right _ (List.mem_append_right _ (List.mem_append_right _ (List.mem_append_right _ (List.mem_append_right _ (List.mem_append_right _ (List.mem_append_left _ (List.mem_cons.mpr (Or.inl e))))))))))))))))) (fun h => (List.mem_append.mp h).elim (fun h => (List.mem_cons_of_mem _ (List.mem_append_left _ (List.mem_append_right _ (List.mem_append_right _ (List.mem_append_right _ (List.mem_append_right _ (List.mem_append_right _ (List.mem_append_right _ (List.mem_append_right _ (List.mem_append_right _ (List.mem_append_right _ (List.mem_append_right _ (List.mem_append_right _ (List.mem_append_left _ (List.mem_cons_of_mem _ h)))))))))))))))) (fun h => List.mem_cons_of_mem _ (List.mem_append_right _ h)))) w_x_fail_good
theorem g_x_former_fail_369 : GoodIn w_x_former (wsV RX12 369 RX12 yX12_fail w_x_fail) := goodIn_app (nb_g4 (List.mem_cons_of_mem _ (List.mem_append_left _ (List.mem_append_left _ (List.mem_of_getElem? (i := 80) rfl)))) (List.mem_cons_of_mem _ (List.mem_append_left _ (List.mem_append_left _ (List.mem_of_getElem? (i := 81) rfl)))) (List.mem_cons_of_mem _ (List.mem_append_left _ (List.mem_append_left _ (List.mem_of_getElem? (i := 82) rfl)))) (List.mem_cons_of_mem _ (List.mem_append_left _ (List.mem_append_left _ (List.mem_of_getElem? (i := 19) rfl)))) (by decide +kernel)) gg_x_former_fail
theorem gg_x_former_goOn : GoodIn w_x_former w_x_goOn := goodIn_sub (fun w h => (List.mem_cons.mp h).elim (fun e => e ▸ (List.mem_cons_of_mem _ (List.mem_append_left _ (List.mem_append_left _ (List.mem_of_getElem? (i := 6) rfl))))) (fun h => List.mem_cons_of_mem _ h)) w_x_goOn_good
theorem g_x_former_goOn_718 : GoodIn w_x_former (wsV RX12 718 RX12 yX12_goOn w_x_goOn) := goodIn_app (nb_g4 (List.mem_cons_of_mem _ (List.mem_append_left _ (List.mem_append_left _ (List.mem_of_getElem? (i := 101) rfl)))) (List.mem_cons_of_mem _ (List.mem_append_left _ (List.mem_append_left _ (List.mem_of_getElem? (i := 102) rfl)))) (List.mem_cons_of_mem _ (List.mem_append_left _ (List.mem_append_left _ (List.mem_of_getElem? (i := 103) rfl)))) (List.mem_cons_of_mem _ (List.mem_append_left _ (List.mem_append_left _ (List.mem_of_getElem? (i := 19) rfl)))) (by decide +kernel)) gg_x_former_goOn
theorem gg_x_former_holds : GoodIn w_x_former w_x_holds := goodIn_sub (fun w h => (List.mem_cons.mp h).elim (fun e => e ▸ (List.mem_cons_of_mem _ (List.mem_append_left _ (List.mem_append_left _ (List.mem_of_getElem? (i := 8) rfl))))) (fun h => List.mem_cons_of_mem _ h)) w_x_holds_good
theorem g_x_former_holds_672 : GoodIn w_x_former (wsV RX12 672 RX12 yX12_holds w_x_holds) := goodIn_app (nb_g4 (List.mem_cons_of_mem _ (List.mem_append_left _ (List.mem_append_left _ (List.mem_of_getElem? (i := 89) rfl)))) (List.mem_cons_of_mem _ (List.mem_append_left _ (List.mem_append_left _ (List.mem_of_getElem? (i := 90) rfl)))) (List.mem_cons_of_mem _ (List.mem_append_left _ (List.mem_append_left _ (List.mem_of_getElem? (i := 91) rfl)))) (List.mem_cons_of_mem _ (List.mem_append_left _ (List.mem_append_left _ (List.mem_of_getElem? (i := 19) rfl)))) (by decide +kernel)) gg_x_former_holds
theorem gg_x_former_push : GoodIn w_x_former w_x_push := goodIn_sub (fun w h => (List.mem_cons.mp h).elim (fun e => (List.mem_cons_of_mem _ (List.mem_append_left _ (List.mem_append_right _ (List.mem_append_right _ (List.mem_append_right _ (List.mem_append_right _ (List.mem_append_left _ (List.mem_cons.mpr (Or.inl e)))))))))) (fun h => (List.mem_append.mp h).elim (fun h => (List.mem_cons_of_mem _ (List.mem_append_left _ (List.mem_append_right _ (List.mem_append_right _ (List.mem_append_right _ (List.mem_append_right _ (List.mem_append_left _ (List.mem_cons_of_mem _ h))))))))) (fun h => List.mem_cons_of_mem _ (List.mem_append_right _ h)))) w_x_push_good
theorem g_x_former_push_594 : GoodIn w_x_former (wsV RX12 594 RX12 yX12_push w_x_push) := goodIn_app (nb_g4 (List.mem_cons_of_mem _ (List.mem_append_left _ (List.mem_append_left _ (List.mem_of_getElem? (i := 28) rfl)))) (List.mem_cons_of_mem _ (List.mem_append_left _ (List.mem_append_left _ (List.mem_of_getElem? (i := 29) rfl)))) (List.mem_cons_of_mem _ (List.mem_append_left _ (List.mem_append_left _ (List.mem_of_getElem? (i := 30) rfl)))) (List.mem_cons_of_mem _ (List.mem_append_left _ (List.mem_append_left _ (List.mem_of_getElem? (i := 19) rfl)))) (by decide +kernel)) gg_x_former_push
theorem gg_x_former_setOf : GoodIn w_x_former w_x_setOf := goodIn_sub (fun w h => (List.mem_cons.mp h).elim (fun e => (List.mem_cons_of_mem _ (List.mem_append_left _ (List.mem_append_right _ (List.mem_append_right _ (List.mem_append_right _ (List.mem_append_right _ (List.mem_append_right _ (List.mem_append_right _ (List.mem_append_right _ (List.mem_append_right _ (List.mem_append_right _ (List.mem_append_right _ (List.mem_append_right _ (List.mem_append_right _ (List.mem_append_right _ (List.mem_append_right _ (List.mem_append_left _ (List.mem_cons.mpr (Or.inl e)))))))))))))))))))) (fun h => (List.mem_append.mp h).elim (fun h => (List.mem_cons_of_mem _ (List.mem_append_left _ (List.mem_append_right _ (List.mem_append_right _ (List.mem_append_right _ (List.mem_append_right _ (List.mem_append_right _ (List.mem_append_right _ (List.mem_append_right _ (List.mem_append_right _ (List.mem_append_right _ (List.mem_append_right _ (List.mem_append_right _ (List.mem_append_right _ (List.mem_append_right _ (List.mem_append_right _ (List.mem_append_left _ (List.mem_cons_of_mem _ h))))))))))))))))))) (fun h => List.mem_cons_of_mem _ (List.mem_append_right _ h)))) w_x_setOf_good
theorem g_x_former_setOf_678 : GoodIn w_x_former (wsV RX12 678 RX12 yX12_setOf w_x_setOf) := goodIn_app (nb_g4 (List.mem_cons_of_mem _ (List.mem_append_left _ (List.mem_append_left _ (List.mem_of_getElem? (i := 107) rfl)))) (List.mem_cons_of_mem _ (List.mem_append_left _ (List.mem_append_left _ (List.mem_of_getElem? (i := 108) rfl)))) (List.mem_cons_of_mem _ (List.mem_append_left _ (List.mem_append_left _ (List.mem_of_getElem? (i := 109) rfl)))) (List.mem_cons_of_mem _ (List.mem_append_left _ (List.mem_append_left _ (List.mem_of_getElem? (i := 19) rfl)))) (by decide +kernel)) gg_x_former_setOf
theorem gg_x_former_tupleOf : GoodIn w_x_former w_x_tupleOf := goodIn_sub (fun w h => (List.mem_cons.mp h).elim (fun e => (List.mem_cons_of_mem _ (List.mem_append_left _ (List.mem_append_right _ (List.mem_append_right _ (List.mem_append_right _ (List.mem_append_right _ (List.mem_append_right _ (List.mem_append_right _ (List.mem_append_right _ (List.mem_append_right _ (List.mem_append_right _ (List.mem_append_right _ (List.mem_append_right _ (List.mem_append_right _ (List.mem_append_right _ (List.mem_append_right _ (List.mem_append_right _ (List.mem_append_left _ (List.mem_cons.mpr (Or.inl e))))))))))))))))))))) (fun h => (List.mem_append.mp h).elim (fun h => (List.mem_cons_of_mem _ (List.mem_append_left _ (List.mem_append_right _ (List.mem_append_right _ (List.mem_append_right _ (List.mem_append_right _ (List.mem_append_right _ (List.mem_append_right _ (List.mem_append_right _ (List.mem_append_right _ (List.mem_append_right _ (List.mem_append_right _ (List.mem_append_right _ (List.mem_append_right _ (List.mem_append_right _ (List.mem_append_right _ (List.mem_append_right _ (List.mem_append_left _ (List.mem_cons_of_mem _ h)))))))))))))))))))) (fun h => List.mem_cons_of_mem _ (List.mem_append_right _ h)))) w_x_tupleOf_good
theorem g_x_former_tupleOf_675 : GoodIn w_x_former (wsV RX12 675 RX12 yX12_tupleOf w_x_tupleOf) := goodIn_app (nb_g4 (List.mem_cons_of_mem _ (List.mem_append_left _ (List.mem_append_left _ (List.mem_of_getElem? (i := 110) rfl)))) (List.mem_cons_of_mem _ (List.mem_append_left _ (List.mem_append_left _ (List.mem_of_getElem? (i := 111) rfl)))) (List.mem_cons_of_mem _ (List.mem_append_left _ (List.mem_append_left _ (List.mem_of_getElem? (i := 112) rfl)))) (List.mem_cons_of_mem _ (List.mem_append_left _ (List.mem_append_left _ (List.mem_of_getElem? (i := 19) rfl)))) (by decide +kernel)) gg_x_former_tupleOf
set_option maxHeartbeats 40000000 in
set_option maxRecDepth 100000 in
theorem c_s_former (l : Launch) (dC : Nat → ClassId) (dI : Nat → Nat → Nat) (cy : Nat → ClassId) (a : Nat → Nat) (k0 : Nat) (IH : ∀ j : Nat, j < k0 → P_GV l dC dI cy a j) (d : Nat) (L0 : Nat → Int32) (σ0 : MS) (r0 : Int32 × MS) (h0 : x_GV k0 d 5 0 L0 σ0 = some r0) (sz : Nat) : Met l yX12_former w_x_former ({ frames := 57 + d, cells := 0, slots := 0, locals := 1375 + 27 * d }) (va_Pc [.ref (a 0), .int (L0 1)] (nIn (dC, dI) cy sz (vM cy a σ0))) (va_Qv (fun _ : Unit => True) (fun _ t => nOut (dC, dI) cy (va_A (vM cy a σ0) sz) (vM cy a r0.2) t) (va_A (vM cy a σ0) sz)) 0 0 (va_A (vM cy a σ0) sz) := by
  refine Met.ofW (cc := cX12_former) (maxL := 5) (ret := none) (by decide) rfl ?_
  intro p e s m args below meth c s₁ B hml hv
  obtain ⟨rfl, hsz, hP, hK, hD0, hG⟩ := hv
  have hx := B.exec
  have hb := B.bytes
  have hr := B.returns
  have hts := atoms_spec (ws := w_x_former) B.pre
  have hown : s.vm.findClass RX12 = some m.cls := findClass_of_methodNamed B.named
  have hlocks := B.notSynchronized
  subst hsz
  have hD := hD0.self (sz := s.heap.size)
  generalize hAe : va_A (vM cy a σ0) s.heap.size = A at hD ⊢
  have hA : ∀ q : Nat, s.heap.size ≤ q → A q := fun q h => by rw [← hAe]; exact Or.inr h
  have hS : va_S A s.heap s.heap [] := va_S.rf
  have hl := lv_entry ([.ref (a 0), .int (L0 1)]) (n := 5) (Nat.le_of_ble_eq_true rfl)
  rw [lg_entry_eq]
  generalize (lg_sl ([.ref (a 0), .int (L0 1)]) ++ List.replicate (5 - (lg_sl ([.ref (a 0), .int (L0 1)])).length) Slot.unset).toArray = ls at hl ⊢
  have hl : lv_has ls 5 [(0, .ref (a 0)), (1, .int (L0 1))] := hl
  have blk : ∀ k : Nat, k ≤ k0 → (bT p l e (headSpec w_x_former ({ frames := 57 + d, cells := 0, slots := 0, locals := 1375 + 27 * d })).room s m #[.ref (a 0), .int (L0 1)] below meth c dC dI cy a A (qV dC dI cy a A below #[.ref (a 0), .int (L0 1)] s) 5 (x_GV k d 5 0) (fun L => [(0, .ref (a 0)), (1, .int (L 1))]) 0 (fun L => [])) ∧ (bT p l e (headSpec w_x_former ({ frames := 57 + d, cells := 0, slots := 0, locals := 1375 + 27 * d })).room s m #[.ref (a 0), .int (L0 1)] below meth c dC dI cy a A (qV dC dI cy a A below #[.ref (a 0), .int (L0 1)] s) 5 (x_GV k d 5 1) (fun L => [(0, .ref (a 0)), (1, .int (L 1)), (2, .int (L 2)), (3, .int (L 3)), (4, .int (L 4))]) 24 (fun L => [])) ∧ (bT p l e (headSpec w_x_former ({ frames := 57 + d, cells := 0, slots := 0, locals := 1375 + 27 * d })).room s m #[.ref (a 0), .int (L0 1)] below meth c dC dI cy a A (qV dC dI cy a A below #[.ref (a 0), .int (L0 1)] s) 5 (x_GV k d 5 2) (fun L => [(0, .ref (a 0)), (1, .int (L 1)), (2, .int (L 2)), (3, .int (L 3)), (4, .int (L 4))]) 59 (fun L => [])) ∧ (bT p l e (headSpec w_x_former ({ frames := 57 + d, cells := 0, slots := 0, locals := 1375 + 27 * d })).room s m #[.ref (a 0), .int (L0 1)] below meth c dC dI cy a A (qV dC dI cy a A below #[.ref (a 0), .int (L0 1)] s) 5 (x_GV k d 5 3) (fun L => [(0, .ref (a 0)), (1, .int (L 1)), (2, .int (L 2)), (3, .int (L 3)), (4, .int (L 4))]) 105 (fun L => [])) ∧ (bT p l e (headSpec w_x_former ({ frames := 57 + d, cells := 0, slots := 0, locals := 1375 + 27 * d })).room s m #[.ref (a 0), .int (L0 1)] below meth c dC dI cy a A (qV dC dI cy a A below #[.ref (a 0), .int (L0 1)] s) 5 (x_GV k d 5 4) (fun L => [(0, .ref (a 0)), (1, .int (L 1)), (2, .int (L 2)), (3, .int (L 3)), (4, .int (L 4))]) 131 (fun L => [])) ∧ (bT p l e (headSpec w_x_former ({ frames := 57 + d, cells := 0, slots := 0, locals := 1375 + 27 * d })).room s m #[.ref (a 0), .int (L0 1)] below meth c dC dI cy a A (qV dC dI cy a A below #[.ref (a 0), .int (L0 1)] s) 5 (x_GV k d 5 5) (fun L => [(0, .ref (a 0)), (1, .int (L 1)), (2, .int (L 2)), (3, .int (L 3)), (4, .int (L 4))]) 132 (fun L => [.int (L 100)])) ∧ (bT p l e (headSpec w_x_former ({ frames := 57 + d, cells := 0, slots := 0, locals := 1375 + 27 * d })).room s m #[.ref (a 0), .int (L0 1)] below meth c dC dI cy a A (qV dC dI cy a A below #[.ref (a 0), .int (L0 1)] s) 5 (x_GV k d 5 6) (fun L => [(0, .ref (a 0)), (1, .int (L 1)), (2, .int (L 2)), (3, .int (L 3)), (4, .int (L 4))]) 137 (fun L => [])) ∧ (bT p l e (headSpec w_x_former ({ frames := 57 + d, cells := 0, slots := 0, locals := 1375 + 27 * d })).room s m #[.ref (a 0), .int (L0 1)] below meth c dC dI cy a A (qV dC dI cy a A below #[.ref (a 0), .int (L0 1)] s) 5 (x_GV k d 5 7) (fun L => [(0, .ref (a 0)), (1, .int (L 1)), (2, .int (L 2)), (3, .int (L 3)), (4, .int (L 4))]) 142 (fun L => [])) ∧ (bT p l e (headSpec w_x_former ({ frames := 57 + d, cells := 0, slots := 0, locals := 1375 + 27 * d })).room s m #[.ref (a 0), .int (L0 1)] below meth c dC dI cy a A (qV dC dI cy a A below #[.ref (a 0), .int (L0 1)] s) 5 (x_GV k d 5 8) (fun L => [(0, .ref (a 0)), (1, .int (L 1)), (2, .int (L 2)), (3, .int (L 3)), (4, .int (L 4))]) 179 (fun L => [.ref (a 0), .ref (a 0)])) ∧ (bT p l e (headSpec w_x_former ({ frames := 57 + d, cells := 0, slots := 0, locals := 1375 + 27 * d })).room s m #[.ref (a 0), .int (L0 1)] below meth c dC dI cy a A (qV dC dI cy a A below #[.ref (a 0), .int (L0 1)] s) 5 (x_GV k d 5 9) (fun L => [(0, .ref (a 0)), (1, .int (L 1)), (2, .int (L 2)), (3, .int (L 3)), (4, .int (L 4))]) 184 (fun L => [.int (L 100), .ref (a 0), .ref (a 0)])) ∧ (bT p l e (headSpec w_x_former ({ frames := 57 + d, cells := 0, slots := 0, locals := 1375 + 27 * d })).room s m #[.ref (a 0), .int (L0 1)] below meth c dC dI cy a A (qV dC dI cy a A below #[.ref (a 0), .int (L0 1)] s) 5 (x_GV k d 5 10) (fun L => [(0, .ref (a 0)), (1, .int (L 1)), (2, .int (L 2)), (3, .int (L 3)), (4, .int (L 4))]) 190 (fun L => [])) := by
    intro k
    induction k with
    | zero => exact fun _ => ⟨fun L σ r h => (by cases h), fun L σ r h => (by cases h), fun L σ r h => (by cases h), fun L σ r h => (by cases h), fun L σ r h => (by cases h), fun L σ r h => (by cases h), fun L σ r h => (by cases h), fun L σ r h => (by cases h), fun L σ r h => (by cases h), fun L σ r h => (by cases h), fun L σ r h => (by cases h)⟩
    | succ k ih =>
      intro hk
      replace ih := ih (by omega)
      refine ⟨?_, ?_, ?_, ?_, ?_, ?_, ?_, ?_, ?_, ?_, ?_⟩
      · intro L σ r h H locs ls hP hD hS hl
        rw [x_GV_5, s_former_0] at h
        refine lv_aload_n hx hb dX12_former_0 rfl (lv_at hl 0 rfl) ?_
        refine ng_59 hx hb hts in_x_former hown hK hP (hts _ (List.mem_cons_of_mem _ (List.mem_append_left _ (List.mem_append_left _ (List.mem_of_getElem? (i := 76) rfl))))) dX12_former_1 ?_
        refine lv_istore_n (lv' := [(2, .int (σ.1 59)), (0, .ref (a 0)), (1, .int (L 1))]) hx hb dX12_former_4 rfl hl (by decide) rfl (fun ls hl => ?_)
        refine lv_aload_n hx hb dX12_former_5 rfl (lv_at hl 1 rfl) ?_
        refine ng_72 hx hb hts in_x_former hown hK hP (hts _ (List.mem_cons_of_mem _ (List.mem_append_left _ (List.mem_append_left _ (List.mem_of_getElem? (i := 100) rfl))))) dX12_former_6 ?_
        refine lv_istore_n (lv' := [(3, .int (σ.1 72)), (2, .int (σ.1 59)), (0, .ref (a 0)), (1, .int (L 1))]) hx hb dX12_former_9 rfl hl (by decide) rfl (fun ls hl => ?_)
        refine lv_aload_n hx hb dX12_former_10 rfl (lv_at hl 2 rfl) ?_
        refine lv_iload_n hx hb dX12_former_11 rfl (lv_at hl 0 rfl) ?_
        refine lv_aload_n hx hb dX12_former_12 rfl (lv_at hl 2 rfl) ?_
        refine ng_16 hx hb hts in_x_former hown hK hP (hts _ (List.mem_cons_of_mem _ (List.mem_append_left _ (List.mem_append_left _ (List.mem_of_getElem? (i := 21) rfl))))) dX12_former_13 ?_
        refine lv_iload_n hx hb dX12_former_16 rfl (lv_at hl 3 rfl) ?_
        obtain ⟨q1, h⟩ := nb_ite1 h
        refine nl_6 hx hb hK hP q1 dX12_former_17 ?_
        refine lv_iconst (v := 1) hx hb dX12_former_18 (by decide) ?_
        obtain ⟨e2, he2, h⟩ := od_ex h
        obtain ⟨r2, hc2, h⟩ := ob_ex h
        refine nc_Vi (As := [.int (σ.1 72), .int (σ.2.2 6 ((L 1)).toNatClampNeg), .int 1]) (rest := []) ⟨hx, hb, hml, hown, hts⟩ ((IH k (by omega)).2.2.2.2.2.2.1 e2 (upd (upd (upd (fun _ => 0) 1 ((σ.1 72))) 2 ((σ.2.2 6 ((L 1)).toNatClampNeg))) 3 1) σ r2 hc2 H.size) (cwV 3 hts g_x_former_goOn_718 rfl rfl rfl hd_x_goOn (by show (57 + e2) + 1 ≤ 57 + d ∧ 8 + (6 + 11) + (1375 + 27 * e2) ≤ 1375 + 27 * d; omega)) hK hG hA hP hD hS rfl hl.1 rfl (Nat.le_of_ble_eq_true rfl) dX12_former_19 ⟨Nat.le_refl _, Nat.le_refl _⟩ (fun H locs hP hD hS => ?_)
        refine lv_istore (lv' := [(4, .int r2.1), (3, .int (σ.1 72)), (2, .int (σ.1 59)), (0, .ref (a 0)), (1, .int (L 1))]) hx hb dX12_former_22 hl (by decide) rfl (fun ls hl => ?_)
        exact ih.2.1 (upd (upd (upd L 2 ((σ.1 59))) 3 ((σ.1 72))) 4 r2.1) r2.2 r h H locs ls hP hD hS (lv_sub hl [3, 4, 2, 1, 0] rfl)
      · intro L σ r h H locs ls hP hD hS hl
        rw [x_GV_5, s_former_1] at h
        refine lv_iload hx hb dX12_former_24 (lv_at hl 4 rfl) ?_
        refine lv_if_eq (tgt := 137) hx hb dX12_former_26 (by decide) (fun c1 => ?_) (fun c1 => ?_)
        · rw [if_pos c1] at h
          exact ih.2.2.2.2.2.2.1 L σ r h H locs ls hP hD hS (lv_sub hl [0, 1, 2, 3, 4] rfl)
        · rw [if_neg c1] at h
          refine lv_aload_n hx hb dX12_former_29 rfl (lv_at hl 0 rfl) ?_
          refine ng_56 hx hb hts in_x_former hown hK hP (hts _ (List.mem_cons_of_mem _ (List.mem_append_left _ (List.mem_append_left _ (List.mem_of_getElem? (i := 13) rfl))))) dX12_former_30 ?_
          refine lv_if_ne (tgt := 137) hx hb dX12_former_33 (by decide) (fun c2 => ?_) (fun c2 => ?_)
          · rw [if_neg c2] at h
            exact ih.2.2.2.2.2.2.1 L σ r h H locs ls hP hD hS (lv_sub hl [0, 1, 2, 3, 4] rfl)
          · rw [if_pos c2] at h
            refine lv_aload_n hx hb dX12_former_36 rfl (lv_at hl 0 rfl) ?_
            refine ng_17 hx hb hts in_x_former hown hK hP (hts _ (List.mem_cons_of_mem _ (List.mem_append_left _ (List.mem_append_left _ (List.mem_of_getElem? (i := 71) rfl))))) dX12_former_37 ?_
            refine lv_iload_n hx hb dX12_former_40 rfl (lv_at hl 1 rfl) ?_
            obtain ⟨q3, h⟩ := nb_ite1 h
            refine nl_7 hx hb hK hP q3 dX12_former_41 ?_
            refine lv_iconst (v := (-1)) hx hb dX12_former_42 (by decide) ?_
            refine lv_icmp_eq (tgt := 59) hx hb dX12_former_43 (by decide) (fun c4 => ?_) (fun c4 => ?_)
            · rw [if_pos c4] at h
              exact ih.2.2.1 L σ r h H locs ls hP hD hS (lv_sub hl [0, 1, 2, 3, 4] rfl)
            · rw [if_neg c4] at h
              refine lv_aload_n hx hb dX12_former_46 rfl (lv_at hl 0 rfl) ?_
              refine lv_aload_n hx hb dX12_former_47 rfl (lv_at hl 0 rfl) ?_
              refine ng_17 hx hb hts in_x_former hown hK hP (hts _ (List.mem_cons_of_mem _ (List.mem_append_left _ (List.mem_append_left _ (List.mem_of_getElem? (i := 71) rfl))))) dX12_former_48 ?_
              refine lv_iload_n hx hb dX12_former_51 rfl (lv_at hl 1 rfl) ?_
              obtain ⟨q5, h⟩ := nb_ite1 h
              refine nl_7 hx hb hK hP q5 dX12_former_52 ?_
              obtain ⟨e6, he6, h⟩ := od_ex h
              obtain ⟨r6, hc6, h⟩ := ob_ex h
              refine nc_Vi (As := [.int (σ.2.2 7 ((L 1)).toNatClampNeg)]) (rest := []) ⟨hx, hb, hml, hown, hts⟩ ((IH k (by omega)).2.2.2.2.2.2.2.2.1 e6 (upd (fun _ => 0) 1 ((σ.2.2 7 ((L 1)).toNatClampNeg))) σ r6 hc6 H.size) (cwV 1 hts g_x_former_holds_672 rfl rfl rfl hd_x_holds (by show (57 + e6) + 1 ≤ 57 + d ∧ 8 + (2 + 11) + (1375 + 27 * e6) ≤ 1375 + 27 * d; omega)) hK hG hA hP hD hS rfl hl.1 rfl (Nat.le_of_ble_eq_true rfl) dX12_former_53 ⟨Nat.le_refl _, Nat.le_refl _⟩ (fun H locs hP hD hS => ?_)
              refine lv_if_eq (tgt := 105) hx hb dX12_former_56 (by decide) (fun c7 => ?_) (fun c7 => ?_)
              · rw [if_pos c7] at h
                exact ih.2.2.2.1 L r6.2 r h H locs ls hP hD hS (lv_sub hl [0, 1, 2, 3, 4] rfl)
              · rw [if_neg c7] at h
                exact ih.2.2.1 L r6.2 r h H locs ls hP hD hS (lv_sub hl [0, 1, 2, 3, 4] rfl)
      · intro L σ r h H locs ls hP hD hS hl
        rw [x_GV_5, s_former_2] at h
        refine lv_aload_n hx hb dX12_former_59 rfl (lv_at hl 0 rfl) ?_
        refine lv_aload_n hx hb dX12_former_60 rfl (lv_at hl 0 rfl) ?_
        refine ng_18 hx hb hts in_x_former hown hK hP (hts _ (List.mem_cons_of_mem _ (List.mem_append_left _ (List.mem_append_left _ (List.mem_of_getElem? (i := 72) rfl))))) dX12_former_61 ?_
        refine lv_iload_n hx hb dX12_former_64 rfl (lv_at hl 1 rfl) ?_
        obtain ⟨q1, h⟩ := nb_ite1 h
        refine nl_8 hx hb hK hP q1 dX12_former_65 ?_
        obtain ⟨e2, he2, h⟩ := od_ex h
        obtain ⟨r2, hc2, h⟩ := ob_ex h
        refine nc_Vv (As := [.int (σ.2.2 8 ((L 1)).toNatClampNeg)]) (rest := []) ⟨hx, hb, hml, hown, hts⟩ ((IH k (by omega)).2.2.2.2.1 e2 (upd (fun _ => 0) 1 ((σ.2.2 8 ((L 1)).toNatClampNeg))) σ r2 hc2 H.size) (cwV 1 hts g_x_former_eval_566 rfl rfl rfl hd_x_eval (by show (57 + e2) + 1 ≤ 57 + d ∧ 8 + (3 + 11) + (1375 + 27 * e2) ≤ 1375 + 27 * d; omega)) hK hG hA hP hD hS rfl hl.1 rfl (Nat.le_of_ble_eq_true rfl) dX12_former_66 ⟨Nat.le_refl _, Nat.le_refl _⟩ (fun H locs hP hD hS => ?_)
        refine lv_aload_n hx hb dX12_former_69 rfl (lv_at hl 0 rfl) ?_
        refine ng_56 hx hb hts in_x_former hown hK hP (hts _ (List.mem_cons_of_mem _ (List.mem_append_left _ (List.mem_append_left _ (List.mem_of_getElem? (i := 13) rfl))))) dX12_former_70 ?_
        refine lv_if_ne (tgt := 105) hx hb dX12_former_73 (by decide) (fun c3 => ?_) (fun c3 => ?_)
        · rw [if_neg c3] at h
          exact ih.2.2.2.1 L r2.2 r h H locs ls hP hD hS (lv_sub hl [0, 1, 2, 3, 4] rfl)
        · rw [if_pos c3] at h
          refine lv_aload_n hx hb dX12_former_76 rfl (lv_at hl 0 rfl) ?_
          refine ng_15 hx hb hts in_x_former hown hK hP (hts _ (List.mem_cons_of_mem _ (List.mem_append_left _ (List.mem_append_left _ (List.mem_of_getElem? (i := 20) rfl))))) dX12_former_77 ?_
          refine lv_iload_n hx hb dX12_former_80 rfl (lv_at hl 1 rfl) ?_
          obtain ⟨q4, h⟩ := nb_ite1 h
          refine nl_5 hx hb hK hP q4 dX12_former_81 ?_
          refine lv_iconst (v := 1) hx hb dX12_former_82 (by decide) ?_
          refine lv_icmp_ne (tgt := 105) hx hb dX12_former_83 (by decide) (fun c5 => ?_) (fun c5 => ?_)
          · rw [if_neg c5] at h
            exact ih.2.2.2.1 L r2.2 r h H locs ls hP hD hS (lv_sub hl [0, 1, 2, 3, 4] rfl)
          · rw [if_pos c5] at h
            refine lv_aload_n hx hb dX12_former_86 rfl (lv_at hl 0 rfl) ?_
            refine ng_58 hx hb hts in_x_former hown hK hP (hts _ (List.mem_cons_of_mem _ (List.mem_append_left _ (List.mem_append_left _ (List.mem_of_getElem? (i := 87) rfl))))) dX12_former_87 ?_
            refine lv_aload_n hx hb dX12_former_90 rfl (lv_at hl 0 rfl) ?_
            refine ng_59 hx hb hts in_x_former hown hK hP (hts _ (List.mem_cons_of_mem _ (List.mem_append_left _ (List.mem_append_left _ (List.mem_of_getElem? (i := 76) rfl))))) dX12_former_91 ?_
            refine lv_iconst (v := 1) hx hb dX12_former_94 (by decide) ?_
            refine lv_isub hx hb dX12_former_95 ?_
            obtain ⟨q6, h⟩ := nb_ite1 h
            refine nl_29 hx hb hK hP q6 dX12_former_96 ?_
            refine lv_if_ne (tgt := 105) hx hb dX12_former_97 (by decide) (fun c7 => ?_) (fun c7 => ?_)
            · rw [if_neg c7] at h
              exact ih.2.2.2.1 L r2.2 r h H locs ls hP hD hS (lv_sub hl [0, 1, 2, 3, 4] rfl)
            · rw [if_pos c7] at h
              refine lv_aload_n hx hb dX12_former_100 rfl (lv_at hl 0 rfl) ?_
              refine lv_iconst (v := 3) hx hb dX12_former_101 (by decide) ?_
              obtain ⟨r8, hc8, h⟩ := ob_ex h
              refine nc_Vv (As := [.int 3]) (rest := []) ⟨hx, hb, hml, hown, hts⟩ (c_x_fail l dC dI cy a k (upd (fun _ => 0) 1 3) r2.2 r8 hc8 H.size) (cwV 1 hts g_x_former_fail_369 rfl rfl rfl hd_x_fail (by show 0 + 1 ≤ 57 + d ∧ 8 + (2 + 11) + 0 ≤ 1375 + 27 * d; omega)) hK hG hA hP hD hS rfl hl.1 rfl (Nat.le_of_ble_eq_true rfl) dX12_former_102 ⟨Nat.le_refl _, Nat.le_refl _⟩ (fun H locs hP hD hS => ?_)
              exact ih.2.2.2.1 L r8.2 r h H locs ls hP hD hS (lv_sub hl [0, 1, 2, 3, 4] rfl)
      · intro L σ r h H locs ls hP hD hS hl
        rw [x_GV_5, s_former_3] at h
        refine lv_aload_n hx hb dX12_former_105 rfl (lv_at hl 0 rfl) ?_
        refine ng_56 hx hb hts in_x_former hown hK hP (hts _ (List.mem_cons_of_mem _ (List.mem_append_left _ (List.mem_append_left _ (List.mem_of_getElem? (i := 13) rfl))))) dX12_former_106 ?_
        refine lv_if_ne (tgt := 131) hx hb dX12_former_109 (by decide) (fun c1 => ?_) (fun c1 => ?_)
        · rw [if_neg c1] at h
          exact ih.2.2.2.2.1 L σ r h H locs ls hP hD hS (lv_sub hl [0, 1, 2, 3, 4] rfl)
        · rw [if_pos c1] at h
          refine lv_aload_n hx hb dX12_former_112 rfl (lv_at hl 0 rfl) ?_
          refine lv_iload_n hx hb dX12_former_113 rfl (lv_at hl 3 rfl) ?_
          refine lv_aload_n hx hb dX12_former_114 rfl (lv_at hl 0 rfl) ?_
          refine ng_16 hx hb hts in_x_former hown hK hP (hts _ (List.mem_cons_of_mem _ (List.mem_append_left _ (List.mem_append_left _ (List.mem_of_getElem? (i := 21) rfl))))) dX12_former_115 ?_
          refine lv_iload_n hx hb dX12_former_118 rfl (lv_at hl 1 rfl) ?_
          obtain ⟨q2, h⟩ := nb_ite1 h
          refine nl_6 hx hb hK hP q2 dX12_former_119 ?_
          refine lv_iconst (v := 0) hx hb dX12_former_120 (by decide) ?_
          obtain ⟨e3, he3, h⟩ := od_ex h
          obtain ⟨r3, hc3, h⟩ := ob_ex h
          refine nc_Vi (As := [.int (L 3), .int (σ.2.2 6 ((L 1)).toNatClampNeg), .int 0]) (rest := []) ⟨hx, hb, hml, hown, hts⟩ ((IH k (by omega)).2.2.2.2.2.2.1 e3 (upd (upd (upd (fun _ => 0) 1 ((L 3))) 2 ((σ.2.2 6 ((L 1)).toNatClampNeg))) 3 0) σ r3 hc3 H.size) (cwV 3 hts g_x_former_goOn_718 rfl rfl rfl hd_x_goOn (by show (57 + e3) + 1 ≤ 57 + d ∧ 8 + (6 + 11) + (1375 + 27 * e3) ≤ 1375 + 27 * d; omega)) hK hG hA hP hD hS rfl hl.1 rfl (Nat.le_of_ble_eq_true rfl) dX12_former_121 ⟨Nat.le_refl _, Nat.le_refl _⟩ (fun H locs hP hD hS => ?_)
          refine lv_if_eq (tgt := 131) hx hb dX12_former_124 (by decide) (fun c4 => ?_) (fun c4 => ?_)
          · rw [if_pos c4] at h
            exact ih.2.2.2.2.1 L r3.2 r h H locs ls hP hD hS (lv_sub hl [0, 1, 2, 3, 4] rfl)
          · rw [if_neg c4] at h
            refine lv_iconst (v := 1) hx hb dX12_former_127 (by decide) ?_
            refine lv_goto (tgt := 132) hx hb dX12_former_128 (by decide) ?_
            exact ih.2.2.2.2.2.1 (upd L 100 1) r3.2 r h H locs ls hP hD hS (lv_sub hl [0, 1, 2, 3, 4] rfl)
      · intro L σ r h H locs ls hP hD hS hl
        rw [x_GV_5, s_former_4] at h
        refine lv_iconst (v := 0) hx hb dX12_former_131 (by decide) ?_
        exact ih.2.2.2.2.2.1 (upd L 100 0) σ r h H locs ls hP hD hS (lv_sub hl [0, 1, 2, 3, 4] rfl)
      · intro L σ r h H locs ls hP hD hS hl
        rw [x_GV_5, s_former_5] at h
        refine lv_istore (lv' := [(4, .int (L 100)), (0, .ref (a 0)), (1, .int (L 1)), (2, .int (L 2)), (3, .int (L 3))]) hx hb dX12_former_132 hl (by decide) rfl (fun ls hl => ?_)
        refine lv_goto (tgt := 24) hx hb dX12_former_134 (by decide) ?_
        exact ih.2.1 (upd L 4 ((L 100))) σ r h H locs ls hP hD hS (lv_sub hl [1, 2, 3, 4, 0] rfl)
      · intro L σ r h H locs ls hP hD hS hl
        rw [x_GV_5, s_former_6] at h
        refine lv_aload_n hx hb dX12_former_137 rfl (lv_at hl 0 rfl) ?_
        refine lv_iload_n hx hb dX12_former_138 rfl (lv_at hl 3 rfl) ?_
        refine np_72 hx hb hts in_x_former hown hK hP hD hS (hts _ (List.mem_cons_of_mem _ (List.mem_append_left _ (List.mem_append_left _ (List.mem_of_getElem? (i := 100) rfl))))) dX12_former_139 (fun H locs hP hD hS => ?_)
        exact ih.2.2.2.2.2.2.2.1 L (upd σ.1 72 ((L 3)), σ.2.1, σ.2.2) r h H locs ls hP hD hS (lv_sub hl [0, 1, 2, 3, 4] rfl)
      · intro L σ r h H locs ls hP hD hS hl
        rw [x_GV_5, s_former_7] at h
        refine lv_aload_n hx hb dX12_former_142 rfl (lv_at hl 0 rfl) ?_
        refine lv_aload_n hx hb dX12_former_143 rfl (lv_at hl 0 rfl) ?_
        refine ng_16 hx hb hts in_x_former hown hK hP (hts _ (List.mem_cons_of_mem _ (List.mem_append_left _ (List.mem_append_left _ (List.mem_of_getElem? (i := 21) rfl))))) dX12_former_144 ?_
        refine lv_iload_n hx hb dX12_former_147 rfl (lv_at hl 1 rfl) ?_
        obtain ⟨q1, h⟩ := nb_ite1 h
        refine nl_6 hx hb hK hP q1 dX12_former_148 ?_
        obtain ⟨r2, hc2, h⟩ := ob_ex h
        refine nc_Vv (As := [.int (σ.2.2 6 ((L 1)).toNatClampNeg)]) (rest := []) ⟨hx, hb, hml, hown, hts⟩ (c_x_clear l dC dI cy a k (upd (fun _ => 0) 1 ((σ.2.2 6 ((L 1)).toNatClampNeg))) σ r2 hc2 H.size) (cwV 1 hts g_x_former_clear_722 rfl rfl rfl hd_x_clear (by show 1 + 1 ≤ 57 + d ∧ 8 + (4 + 11) + 22 ≤ 1375 + 27 * d; omega)) hK hG hA hP hD hS rfl hl.1 rfl (Nat.le_of_ble_eq_true rfl) dX12_former_149 ⟨Nat.le_refl _, Nat.le_refl _⟩ (fun H locs hP hD hS => ?_)
        refine lv_aload_n hx hb dX12_former_152 rfl (lv_at hl 0 rfl) ?_
        refine ng_56 hx hb hts in_x_former hown hK hP (hts _ (List.mem_cons_of_mem _ (List.mem_append_left _ (List.mem_append_left _ (List.mem_of_getElem? (i := 13) rfl))))) dX12_former_153 ?_
        refine lv_if_ne (tgt := 190) hx hb dX12_former_156 (by decide) (fun c3 => ?_) (fun c3 => ?_)
        · rw [if_neg c3] at h
          exact ih.2.2.2.2.2.2.2.2.2.2 L r2.2 r h H locs ls hP hD hS (lv_sub hl [0, 1, 2, 3, 4] rfl)
        · rw [if_pos c3] at h
          refine lv_aload_n hx hb dX12_former_159 rfl (lv_at hl 0 rfl) ?_
          refine lv_aload_n hx hb dX12_former_160 rfl (lv_at hl 0 rfl) ?_
          refine lv_aload_n hx hb dX12_former_161 rfl (lv_at hl 0 rfl) ?_
          refine ng_15 hx hb hts in_x_former hown hK hP (hts _ (List.mem_cons_of_mem _ (List.mem_append_left _ (List.mem_append_left _ (List.mem_of_getElem? (i := 20) rfl))))) dX12_former_162 ?_
          refine lv_iload_n hx hb dX12_former_165 rfl (lv_at hl 1 rfl) ?_
          obtain ⟨q4, h⟩ := nb_ite1 h
          refine nl_5 hx hb hK hP q4 dX12_former_166 ?_
          refine lv_iconst (v := 1) hx hb dX12_former_167 (by decide) ?_
          refine lv_icmp_ne (tgt := 179) hx hb dX12_former_168 (by decide) (fun c5 => ?_) (fun c5 => ?_)
          · rw [if_neg c5] at h
            exact ih.2.2.2.2.2.2.2.2.1 L r2.2 r h H locs ls hP hD hS (lv_sub hl [0, 1, 2, 3, 4] rfl)
          · rw [if_pos c5] at h
            refine lv_aload_n hx hb dX12_former_171 rfl (lv_at hl 0 rfl) ?_
            refine lv_iload_n hx hb dX12_former_172 rfl (lv_at hl 2 rfl) ?_
            obtain ⟨r6, hc6, h⟩ := ob_ex h
            refine nc_Vi (As := [.int (L 2)]) (rest := [.ref (a 0), .ref (a 0)]) ⟨hx, hb, hml, hown, hts⟩ (c_x_setOf l dC dI cy a k (upd (fun _ => 0) 1 ((L 2))) r2.2 r6 hc6 H.size) (cwV 1 hts g_x_former_setOf_678 rfl rfl rfl hd_x_setOf (by show 45 + 1 ≤ 57 + d ∧ 8 + (5 + 11) + 1247 ≤ 1375 + 27 * d; omega)) hK hG hA hP hD hS rfl hl.1 rfl (Nat.le_of_ble_eq_true rfl) dX12_former_173 ⟨Nat.le_refl _, Nat.le_refl _⟩ (fun H locs hP hD hS => ?_)
            refine lv_goto (tgt := 184) hx hb dX12_former_176 (by decide) ?_
            exact ih.2.2.2.2.2.2.2.2.2.1 (upd L 100 r6.1) r6.2 r h H locs ls hP hD hS (lv_sub hl [0, 1, 2, 3, 4] rfl)
      · intro L σ r h H locs ls hP hD hS hl
        rw [x_GV_5, s_former_8] at h
        refine lv_aload_n hx hb dX12_former_179 rfl (lv_at hl 0 rfl) ?_
        refine lv_iload_n hx hb dX12_former_180 rfl (lv_at hl 2 rfl) ?_
        obtain ⟨r1, hc1, h⟩ := ob_ex h
        refine nc_Vi (As := [.int (L 2)]) (rest := [.ref (a 0), .ref (a 0)]) ⟨hx, hb, hml, hown, hts⟩ (c_x_tupleOf l dC dI cy a k (upd (fun _ => 0) 1 ((L 2))) σ r1 hc1 H.size) (cwV 1 hts g_x_former_tupleOf_675 rfl rfl rfl hd_x_tupleOf (by show 3 + 1 ≤ 57 + d ∧ 8 + (5 + 11) + 68 ≤ 1375 + 27 * d; omega)) hK hG hA hP hD hS rfl hl.1 rfl (Nat.le_of_ble_eq_true rfl) dX12_former_181 ⟨Nat.le_refl _, Nat.le_refl _⟩ (fun H locs hP hD hS => ?_)
        exact ih.2.2.2.2.2.2.2.2.2.1 (upd L 100 r1.1) r1.2 r h H locs ls hP hD hS (lv_sub hl [0, 1, 2, 3, 4] rfl)
      · intro L σ r h H locs ls hP hD hS hl
        rw [x_GV_5, s_former_9] at h
        obtain ⟨r1, hc1, h⟩ := ob_ex h
        refine nc_Vi (As := [.int (L 100)]) (rest := [.ref (a 0)]) ⟨hx, hb, hml, hown, hts⟩ (c_x_answer l dC dI cy a k (upd (fun _ => 0) 1 ((L 100))) σ r1 hc1 H.size) (cwV 1 hts g_x_former_answer_591 rfl rfl rfl hd_x_answer (by show 2 + 1 ≤ 57 + d ∧ 8 + (2 + 11) + 42 ≤ 1375 + 27 * d; omega)) hK hG hA hP hD hS rfl hl.1 rfl (Nat.le_of_ble_eq_true rfl) dX12_former_184 ⟨Nat.le_refl _, Nat.le_refl _⟩ (fun H locs hP hD hS => ?_)
        obtain ⟨r2, hc2, h⟩ := ob_ex h
        refine nc_Vv (As := [.int r1.1]) (rest := []) ⟨hx, hb, hml, hown, hts⟩ (c_x_push l dC dI cy a k (upd (fun _ => 0) 1 r1.1) r1.2 r2 hc2 H.size) (cwV 1 hts g_x_former_push_594 rfl rfl rfl hd_x_push (by show 0 + 1 ≤ 57 + d ∧ 8 + (2 + 11) + 0 ≤ 1375 + 27 * d; omega)) hK hG hA hP hD hS rfl hl.1 rfl (Nat.le_of_ble_eq_true rfl) dX12_former_187 ⟨Nat.le_refl _, Nat.le_refl _⟩ (fun H locs hP hD hS => ?_)
        exact ih.2.2.2.2.2.2.2.2.2.2 L r2.2 r h H locs ls hP hD hS (lv_sub hl [0, 1, 2, 3, 4] rfl)
      · intro L σ r h H locs ls hP hD hS hl
        rw [x_GV_5, s_former_10] at h
        cases h
        exact W.vret hx hb hr (fun t ht hW => ⟨⟨(), rfl, trivial, by rw [ht]; exact hP, va_K.moved hW.alike hK, hD⟩, hS.F ht⟩) hS.2.2 dX12_former_190
  exact (blk k0 (Nat.le_refl _)).1 L0 σ0 r0 h0 s.heap [] ls hP hD hS hl
theorem gg_x_goOn_openIter : GoodIn w_x_goOn w_x_openIter := goodIn_sub (fun w h => (List.mem_cons.mp h).elim (fun e => e ▸ (List.mem_cons_of_mem _ (List.mem_append_left _ (List.mem_append_left _ (List.mem_of_getElem? (i := 9) rfl))))) (fun h => List.mem_cons_of_mem _ h)) w_x_openIter_good
theorem g_x_goOn_openIter_712 : GoodIn w_x_goOn (wsV RX12 712 RX12 yX12_openIter w_x_openIter) := goodIn_app (nb_g4 (List.mem_cons_of_mem _ (List.mem_append_left _ (List.mem_append_left _ (List.mem_of_getElem? (i := 114) rfl)))) (List.mem_cons_of_mem _ (List.mem_append_left _ (List.mem_append_left _ (List.mem_of_getElem? (i := 115) rfl)))) (List.mem_cons_of_mem _ (List.mem_append_left _ (List.mem_append_left _ (List.mem_of_getElem? (i := 116) rfl)))) (List.mem_cons_of_mem _ (List.mem_append_left _ (List.mem_append_left _ (List.mem_of_getElem? (i := 19) rfl)))) (by decide +kernel)) gg_x_goOn_openIter
theorem gg_x_goOn_stepIter : GoodIn w_x_goOn w_x_stepIter := goodIn_sub (fun w h => (List.mem_cons.mp h).elim (fun e => (List.mem_cons_of_mem _ (List.mem_append_left _ (List.mem_append_right _ (List.mem_append_right _ (List.mem_append_right _ (List.mem_append_right _ (List.mem_append_right _ (List.mem_append_right _ (List.mem_append_right _ (List.mem_append_right _ (List.mem_append_right _ (List.mem_append_right _ (List.mem_append_right _ (List.mem_append_right _ (List.mem_append_right _ (List.mem_append_right _ (List.mem_append_right _ (List.mem_append_right _ (List.mem_append_left _ (List.mem_cons.mpr (Or.inl e)))))))))))))))))))))) (fun h => (List.mem_append.mp h).elim (fun h => (List.mem_cons_of_mem _ (List.mem_append_left _ (List.mem_append_right _ (List.mem_append_right _ (List.mem_append_right _ (List.mem_append_right _ (List.mem_append_right _ (List.mem_append_right _ (List.mem_append_right _ (List.mem_append_right _ (List.mem_append_right _ (List.mem_append_right _ (List.mem_append_right _ (List.mem_append_right _ (List.mem_append_right _ (List.mem_append_right _ (List.mem_append_right _ (List.mem_append_right _ (List.mem_append_left _ (List.mem_cons_of_mem _ h))))))))))))))))))))) (fun h => List.mem_cons_of_mem _ (List.mem_append_right _ h)))) w_x_stepIter_good
theorem g_x_goOn_stepIter_715 : GoodIn w_x_goOn (wsV RX12 715 RX12 yX12_stepIter w_x_stepIter) := goodIn_app (nb_g4 (List.mem_cons_of_mem _ (List.mem_append_left _ (List.mem_append_left _ (List.mem_of_getElem? (i := 117) rfl)))) (List.mem_cons_of_mem _ (List.mem_append_left _ (List.mem_append_left _ (List.mem_of_getElem? (i := 118) rfl)))) (List.mem_cons_of_mem _ (List.mem_append_left _ (List.mem_append_left _ (List.mem_of_getElem? (i := 119) rfl)))) (List.mem_cons_of_mem _ (List.mem_append_left _ (List.mem_append_left _ (List.mem_of_getElem? (i := 19) rfl)))) (by decide +kernel)) gg_x_goOn_stepIter
theorem gg_x_goOn_sweep : GoodIn w_x_goOn w_x_sweep := goodIn_sub (fun w h => (List.mem_cons.mp h).elim (fun e => (List.mem_cons_of_mem _ (List.mem_append_left _ (List.mem_append_right _ (List.mem_append_left _ (List.mem_cons.mpr (Or.inl e))))))) (fun h => (List.mem_append.mp h).elim (fun h => (List.mem_cons_of_mem _ (List.mem_append_left _ (List.mem_append_right _ (List.mem_append_left _ (List.mem_cons_of_mem _ h)))))) (fun h => List.mem_cons_of_mem _ (List.mem_append_right _ h)))) w_x_sweep_good
theorem g_x_goOn_sweep_585 : GoodIn w_x_goOn (wsV RX12 585 RX12 yX12_sweep w_x_sweep) := goodIn_app (nb_g4 (List.mem_cons_of_mem _ (List.mem_append_left _ (List.mem_append_left _ (List.mem_of_getElem? (i := 16) rfl)))) (List.mem_cons_of_mem _ (List.mem_append_left _ (List.mem_append_left _ (List.mem_of_getElem? (i := 17) rfl)))) (List.mem_cons_of_mem _ (List.mem_append_left _ (List.mem_append_left _ (List.mem_of_getElem? (i := 18) rfl)))) (List.mem_cons_of_mem _ (List.mem_append_left _ (List.mem_append_left _ (List.mem_of_getElem? (i := 19) rfl)))) (by decide +kernel)) gg_x_goOn_sweep
set_option maxHeartbeats 40000000 in
set_option maxRecDepth 100000 in
theorem c_s_goOn (l : Launch) (dC : Nat → ClassId) (dI : Nat → Nat → Nat) (cy : Nat → ClassId) (a : Nat → Nat) (k0 : Nat) (IH : ∀ j : Nat, j < k0 → P_GV l dC dI cy a j) (d : Nat) (L0 : Nat → Int32) (σ0 : MS) (r0 : Int32 × MS) (h0 : x_GV k0 d 6 0 L0 σ0 = some r0) (sz : Nat) : Met l yX12_goOn w_x_goOn ({ frames := 57 + d, cells := 0, slots := 0, locals := 1375 + 27 * d }) (va_Pc [.ref (a 0), .int (L0 1), .int (L0 2), .int (L0 3)] (nIn (dC, dI) cy sz (vM cy a σ0))) (va_Qi (fun (z : Int32) (_ : Unit) => z = r0.1) (fun _ t => nOut (dC, dI) cy (va_A (vM cy a σ0) sz) (vM cy a r0.2) t) (va_A (vM cy a σ0) sz)) 0 0 (va_A (vM cy a σ0) sz) := by
  refine Met.ofW (cc := cX12_goOn) (maxL := 6) (ret := (some .boolean)) (by decide) rfl ?_
  intro p e s m args below meth c s₁ B hml hv
  obtain ⟨rfl, hsz, hP, hK, hD0, hG⟩ := hv
  have hx := B.exec
  have hb := B.bytes
  have hr := B.returns
  have hts := atoms_spec (ws := w_x_goOn) B.pre
  have hown : s.vm.findClass RX12 = some m.cls := findClass_of_methodNamed B.named
  have hlocks := B.notSynchronized
  subst hsz
  have hD := hD0.self (sz := s.heap.size)
  generalize hAe : va_A (vM cy a σ0) s.heap.size = A at hD ⊢
  have hA : ∀ q : Nat, s.heap.size ≤ q → A q := fun q h => by rw [← hAe]; exact Or.inr h
  have hS : va_S A s.heap s.heap [] := va_S.rf
  have hl := lv_entry ([.ref (a 0), .int (L0 1), .int (L0 2), .int (L0 3)]) (n := 6) (Nat.le_of_ble_eq_true rfl)
  rw [lg_entry_eq]
  generalize (lg_sl ([.ref (a 0), .int (L0 1), .int (L0 2), .int (L0 3)]) ++ List.replicate (6 - (lg_sl ([.ref (a 0), .int (L0 1), .int (L0 2), .int (L0 3)])).length) Slot.unset).toArray = ls at hl ⊢
  have hl : lv_has ls 6 [(0, .ref (a 0)), (1, .int (L0 1)), (2, .int (L0 2)), (3, .int (L0 3))] := hl
  have blk : ∀ k : Nat, k ≤ k0 → (bT p l e (headSpec w_x_goOn ({ frames := 57 + d, cells := 0, slots := 0, locals := 1375 + 27 * d })).room s m #[.ref (a 0), .int (L0 1), .int (L0 2), .int (L0 3)] below meth c dC dI cy a A (qI dC dI cy a A below #[.ref (a 0), .int (L0 1), .int (L0 2), .int (L0 3)] s) 6 (x_GV k d 6 0) (fun L => [(0, .ref (a 0)), (1, .int (L 1)), (2, .int (L 2)), (3, .int (L 3))]) 0 (fun L => [])) ∧ (bT p l e (headSpec w_x_goOn ({ frames := 57 + d, cells := 0, slots := 0, locals := 1375 + 27 * d })).room s m #[.ref (a 0), .int (L0 1), .int (L0 2), .int (L0 3)] below meth c dC dI cy a A (qI dC dI cy a A below #[.ref (a 0), .int (L0 1), .int (L0 2), .int (L0 3)] s) 6 (x_GV k d 6 1) (fun L => [(0, .ref (a 0)), (1, .int (L 1)), (2, .int (L 2)), (3, .int (L 3)), (4, .int (L 4))]) 3 (fun L => [])) ∧ (bT p l e (headSpec w_x_goOn ({ frames := 57 + d, cells := 0, slots := 0, locals := 1375 + 27 * d })).room s m #[.ref (a 0), .int (L0 1), .int (L0 2), .int (L0 3)] below meth c dC dI cy a A (qI dC dI cy a A below #[.ref (a 0), .int (L0 1), .int (L0 2), .int (L0 3)] s) 6 (x_GV k d 6 2) (fun L => [(0, .ref (a 0)), (1, .int (L 1)), (2, .int (L 2)), (3, .int (L 3)), (4, .int (L 4))]) 34 (fun L => [])) ∧ (bT p l e (headSpec w_x_goOn ({ frames := 57 + d, cells := 0, slots := 0, locals := 1375 + 27 * d })).room s m #[.ref (a 0), .int (L0 1), .int (L0 2), .int (L0 3)] below meth c dC dI cy a A (qI dC dI cy a A below #[.ref (a 0), .int (L0 1), .int (L0 2), .int (L0 3)] s) 6 (x_GV k d 6 3) (fun L => [(0, .ref (a 0)), (1, .int (L 1)), (2, .int (L 2)), (3, .int (L 3)), (4, .int (L 4))]) 50 (fun L => [.int (L 100)])) ∧ (bT p l e (headSpec w_x_goOn ({ frames := 57 + d, cells := 0, slots := 0, locals := 1375 + 27 * d })).room s m #[.ref (a 0), .int (L0 1), .int (L0 2), .int (L0 3)] below meth c dC dI cy a A (qI dC dI cy a A below #[.ref (a 0), .int (L0 1), .int (L0 2), .int (L0 3)] s) 6 (x_GV k d 6 4) (fun L => [(0, .ref (a 0)), (1, .int (L 1)), (2, .int (L 2)), (3, .int (L 3)), (4, .int (L 4)), (5, .int (L 5))]) 60 (fun L => [])) ∧ (bT p l e (headSpec w_x_goOn ({ frames := 57 + d, cells := 0, slots := 0, locals := 1375 + 27 * d })).room s m #[.ref (a 0), .int (L0 1), .int (L0 2), .int (L0 3)] below meth c dC dI cy a A (qI dC dI cy a A below #[.ref (a 0), .int (L0 1), .int (L0 2), .int (L0 3)] s) 6 (x_GV k d 6 5) (fun L => [(0, .ref (a 0)), (1, .int (L 1)), (2, .int (L 2)), (3, .int (L 3)), (4, .int (L 4)), (5, .int (L 5))]) 75 (fun L => [])) ∧ (bT p l e (headSpec w_x_goOn ({ frames := 57 + d, cells := 0, slots := 0, locals := 1375 + 27 * d })).room s m #[.ref (a 0), .int (L0 1), .int (L0 2), .int (L0 3)] below meth c dC dI cy a A (qI dC dI cy a A below #[.ref (a 0), .int (L0 1), .int (L0 2), .int (L0 3)] s) 6 (x_GV k d 6 6) (fun L => [(0, .ref (a 0)), (1, .int (L 1)), (2, .int (L 2)), (3, .int (L 3)), (4, .int (L 4))]) 91 (fun L => [])) ∧ (bT p l e (headSpec w_x_goOn ({ frames := 57 + d, cells := 0, slots := 0, locals := 1375 + 27 * d })).room s m #[.ref (a 0), .int (L0 1), .int (L0 2), .int (L0 3)] below meth c dC dI cy a A (qI dC dI cy a A below #[.ref (a 0), .int (L0 1), .int (L0 2), .int (L0 3)] s) 6 (x_GV k d 6 7) (fun L => [(0, .ref (a 0)), (1, .int (L 1)), (2, .int (L 2)), (3, .int (L 3)), (4, .int (L 4))]) 101 (fun L => [])) ∧ (bT p l e (headSpec w_x_goOn ({ frames := 57 + d, cells := 0, slots := 0, locals := 1375 + 27 * d })).room s m #[.ref (a 0), .int (L0 1), .int (L0 2), .int (L0 3)] below meth c dC dI cy a A (qI dC dI cy a A below #[.ref (a 0), .int (L0 1), .int (L0 2), .int (L0 3)] s) 6 (x_GV k d 6 8) (fun L => [(0, .ref (a 0)), (1, .int (L 1)), (2, .int (L 2)), (3, .int (L 3)), (4, .int (L 4))]) 140 (fun L => [])) ∧ (bT p l e (headSpec w_x_goOn ({ frames := 57 + d, cells := 0, slots := 0, locals := 1375 + 27 * d })).room s m #[.ref (a 0), .int (L0 1), .int (L0 2), .int (L0 3)] below meth c dC dI cy a A (qI dC dI cy a A below #[.ref (a 0), .int (L0 1), .int (L0 2), .int (L0 3)] s) 6 (x_GV k d 6 9) (fun L => [(0, .ref (a 0)), (1, .int (L 1)), (2, .int (L 2)), (3, .int (L 3)), (4, .int (L 4))]) 167 (fun L => [])) := by
    intro k
    induction k with
    | zero => exact fun _ => ⟨fun L σ r h => (by cases h), fun L σ r h => (by cases h), fun L σ r h => (by cases h), fun L σ r h => (by cases h), fun L σ r h => (by cases h), fun L σ r h => (by cases h), fun L σ r h => (by cases h), fun L σ r h => (by cases h), fun L σ r h => (by cases h), fun L σ r h => (by cases h)⟩
    | succ k ih =>
      intro hk
      replace ih := ih (by omega)
      refine ⟨?_, ?_, ?_, ?_, ?_, ?_, ?_, ?_, ?_, ?_⟩
      · intro L σ r h H locs ls hP hD hS hl
        rw [x_GV_6, s_goOn_0] at h
        refine lv_iload_n hx hb dX12_goOn_0 rfl (lv_at hl 3 rfl) ?_
        refine lv_istore (lv' := [(4, .int (L 3)), (0, .ref (a 0)), (1, .int (L 1)), (2, .int (L 2)), (3, .int (L 3))]) hx hb dX12_goOn_1 hl (by decide) rfl (fun ls hl => ?_)
        exact ih.2.1 (upd L 4 ((L 3))) σ r h H locs ls hP hD hS (lv_sub hl [1, 2, 3, 4, 0] rfl)
      · intro L σ r h H locs ls hP hD hS hl
        rw [x_GV_6, s_goOn_1] at h
        refine lv_aload_n hx hb dX12_goOn_3 rfl (lv_at hl 0 rfl) ?_
        refine ng_56 hx hb hts in_x_goOn hown hK hP (hts _ (List.mem_cons_of_mem _ (List.mem_append_left _ (List.mem_append_left _ (List.mem_of_getElem? (i := 13) rfl))))) dX12_goOn_4 ?_
        refine lv_if_ne (tgt := 167) hx hb dX12_goOn_7 (by decide) (fun c1 => ?_) (fun c1 => ?_)
        · rw [if_neg c1] at h
          exact ih.2.2.2.2.2.2.2.2.2 L σ r h H locs ls hP hD hS (lv_sub hl [0, 1, 2, 3, 4] rfl)
        · rw [if_pos c1] at h
          refine lv_aload_n hx hb dX12_goOn_10 rfl (lv_at hl 0 rfl) ?_
          refine lv_ldcw (v := 780000) hx hb hown (hts _ (List.mem_cons_of_mem _ (List.mem_append_left _ (List.mem_append_left _ (List.mem_of_getElem? (i := 15) rfl))))) dX12_goOn_11 ?_
          obtain ⟨r2, hc2, h⟩ := ob_ex h
          refine nc_Vv (As := [.int 780000]) (rest := []) ⟨hx, hb, hml, hown, hts⟩ (c_x_sweep l dC dI cy a k (upd (fun _ => 0) 1 780000) σ r2 hc2 H.size) (cwV 1 hts g_x_goOn_sweep_585 rfl rfl rfl hd_x_sweep (by show 3 + 1 ≤ 57 + d ∧ 8 + (5 + 11) + 70 ≤ 1375 + 27 * d; omega)) hK hG hA hP hD hS rfl hl.1 rfl (Nat.le_of_ble_eq_true rfl) dX12_goOn_14 ⟨Nat.le_refl _, Nat.le_refl _⟩ (fun H locs hP hD hS => ?_)
          refine lv_iload hx hb dX12_goOn_17 (lv_at hl 4 rfl) ?_
          refine lv_if_eq (tgt := 91) hx hb dX12_goOn_19 (by decide) (fun c3 => ?_) (fun c3 => ?_)
          · rw [if_pos c3] at h
            exact ih.2.2.2.2.2.2.1 L r2.2 r h H locs ls hP hD hS (lv_sub hl [0, 1, 2, 3, 4] rfl)
          · rw [if_neg c3] at h
            refine lv_aload_n hx hb dX12_goOn_22 rfl (lv_at hl 0 rfl) ?_
            refine ng_72 hx hb hts in_x_goOn hown hK hP (hts _ (List.mem_cons_of_mem _ (List.mem_append_left _ (List.mem_append_left _ (List.mem_of_getElem? (i := 100) rfl))))) dX12_goOn_23 ?_
            refine lv_iload_n hx hb dX12_goOn_26 rfl (lv_at hl 1 rfl) ?_
            refine lv_icmp_ne (tgt := 34) hx hb dX12_goOn_27 (by decide) (fun c4 => ?_) (fun c4 => ?_)
            · rw [if_neg c4] at h
              exact ih.2.2.1 L r2.2 r h H locs ls hP hD hS (lv_sub hl [0, 1, 2, 3, 4] rfl)
            · rw [if_pos c4] at h
              refine lv_iload_n hx hb dX12_goOn_30 rfl (lv_at hl 2 rfl) ?_
              refine lv_goto (tgt := 50) hx hb dX12_goOn_31 (by decide) ?_
              exact ih.2.2.2.1 (upd L 100 ((L 2))) r2.2 r h H locs ls hP hD hS (lv_sub hl [0, 1, 2, 3, 4] rfl)
      · intro L σ r h H locs ls hP hD hS hl
        rw [x_GV_6, s_goOn_2] at h
        refine lv_aload_n hx hb dX12_goOn_34 rfl (lv_at hl 0 rfl) ?_
        refine ng_19 hx hb hts in_x_goOn hown hK hP (hts _ (List.mem_cons_of_mem _ (List.mem_append_left _ (List.mem_append_left _ (List.mem_of_getElem? (i := 77) rfl))))) dX12_goOn_35 ?_
        refine lv_aload_n hx hb dX12_goOn_38 rfl (lv_at hl 0 rfl) ?_
        refine ng_98 hx hb hts in_x_goOn hown hK hP (hts _ (List.mem_cons_of_mem _ (List.mem_append_left _ (List.mem_append_left _ (List.mem_of_getElem? (i := 113) rfl))))) dX12_goOn_39 ?_
        refine lv_aload_n hx hb dX12_goOn_42 rfl (lv_at hl 0 rfl) ?_
        refine ng_72 hx hb hts in_x_goOn hown hK hP (hts _ (List.mem_cons_of_mem _ (List.mem_append_left _ (List.mem_append_left _ (List.mem_of_getElem? (i := 100) rfl))))) dX12_goOn_43 ?_
        refine lv_iconst (v := 1) hx hb dX12_goOn_46 (by decide) ?_
        refine lv_isub hx hb dX12_goOn_47 ?_
        obtain ⟨q1, h⟩ := nb_ite1 h
        refine nl_50 hx hb hK hP q1 dX12_goOn_48 ?_
        obtain ⟨q2, h⟩ := nb_ite1 h
        refine nl_9 hx hb hK hP q2 dX12_goOn_49 ?_
        exact ih.2.2.2.1 (upd L 100 ((σ.2.2 9 ((σ.2.2 50 ((((σ.1 72)) - 1)).toNatClampNeg)).toNatClampNeg))) σ r h H locs ls hP hD hS (lv_sub hl [0, 1, 2, 3, 4] rfl)
      · intro L σ r h H locs ls hP hD hS hl
        rw [x_GV_6, s_goOn_3] at h
        refine lv_istore (lv' := [(5, .int (L 100)), (0, .ref (a 0)), (1, .int (L 1)), (2, .int (L 2)), (3, .int (L 3)), (4, .int (L 4))]) hx hb dX12_goOn_50 hl (by decide) rfl (fun ls hl => ?_)
        refine lv_iload hx hb dX12_goOn_52 (lv_at hl 0 rfl) ?_
        refine lv_iconst (v := (-1)) hx hb dX12_goOn_54 (by decide) ?_
        refine lv_icmp_ne (tgt := 60) hx hb dX12_goOn_55 (by decide) (fun c1 => ?_) (fun c1 => ?_)
        · rw [if_neg c1] at h
          exact ih.2.2.2.2.1 (upd L 5 ((L 100))) σ r h H locs ls hP hD hS (lv_sub hl [1, 2, 3, 4, 5, 0] rfl)
        · rw [if_pos c1] at h
          refine lv_iconst (v := 1) hx hb dX12_goOn_58 (by decide) ?_
          cases h
          exact W.zret (v := 1) hx hb hr rfl (fun t ht hW => ⟨⟨1, (), rfl, rfl, by rw [ht]; exact hP, va_K.moved hW.alike hK, hD⟩, hS.F ht⟩) hS.2.2 dX12_goOn_59
      · intro L σ r h H locs ls hP hD hS hl
        rw [x_GV_6, s_goOn_4] at h
        refine lv_aload_n hx hb dX12_goOn_60 rfl (lv_at hl 0 rfl) ?_
        refine lv_iload hx hb dX12_goOn_61 (lv_at hl 5 rfl) ?_
        obtain ⟨e1, he1, h⟩ := od_ex h
        obtain ⟨r1, hc1, h⟩ := ob_ex h
        refine nc_Vv (As := [.int (L 5)]) (rest := []) ⟨hx, hb, hml, hown, hts⟩ ((IH k (by omega)).2.2.2.2.2.2.2.2.2.1 e1 (upd (fun _ => 0) 1 ((L 5))) σ r1 hc1 H.size) (cwV 1 hts g_x_goOn_openIter_712 rfl rfl rfl hd_x_openIter (by show (57 + e1) + 1 ≤ 57 + d ∧ 8 + (3 + 11) + (1375 + 27 * e1) ≤ 1375 + 27 * d; omega)) hK hG hA hP hD hS rfl hl.1 rfl (Nat.le_of_ble_eq_true rfl) dX12_goOn_63 ⟨Nat.le_refl _, Nat.le_refl _⟩ (fun H locs hP hD hS => ?_)
        refine lv_aload_n hx hb dX12_goOn_66 rfl (lv_at hl 0 rfl) ?_
        refine ng_56 hx hb hts in_x_goOn hown hK hP (hts _ (List.mem_cons_of_mem _ (List.mem_append_left _ (List.mem_append_left _ (List.mem_of_getElem? (i := 13) rfl))))) dX12_goOn_67 ?_
        refine lv_if_le (tgt := 75) hx hb dX12_goOn_70 (by decide) (fun c2 => ?_) (fun c2 => ?_)
        · rw [if_pos c2] at h
          exact ih.2.2.2.2.2.1 L r1.2 r h H locs ls hP hD hS (lv_sub hl [0, 1, 2, 3, 4, 5] rfl)
        · rw [if_neg c2] at h
          refine lv_iconst (v := 0) hx hb dX12_goOn_73 (by decide) ?_
          cases h
          exact W.zret (v := 0) hx hb hr rfl (fun t ht hW => ⟨⟨0, (), rfl, rfl, by rw [ht]; exact hP, va_K.moved hW.alike hK, hD⟩, hS.F ht⟩) hS.2.2 dX12_goOn_74
      · intro L σ r h H locs ls hP hD hS hl
        rw [x_GV_6, s_goOn_5] at h
        refine lv_aload_n hx hb dX12_goOn_75 rfl (lv_at hl 0 rfl) ?_
        refine ng_98 hx hb hts in_x_goOn hown hK hP (hts _ (List.mem_cons_of_mem _ (List.mem_append_left _ (List.mem_append_left _ (List.mem_of_getElem? (i := 113) rfl))))) dX12_goOn_76 ?_
        refine lv_aload_n hx hb dX12_goOn_79 rfl (lv_at hl 0 rfl) ?_
        refine ng_72 hx hb hts in_x_goOn hown hK hP (hts _ (List.mem_cons_of_mem _ (List.mem_append_left _ (List.mem_append_left _ (List.mem_of_getElem? (i := 100) rfl))))) dX12_goOn_80 ?_
        refine lv_iconst (v := 1) hx hb dX12_goOn_83 (by decide) ?_
        refine lv_isub hx hb dX12_goOn_84 ?_
        refine lv_iload hx hb dX12_goOn_85 (lv_at hl 5 rfl) ?_
        obtain ⟨q1, h⟩ := nb_ite1 h
        refine ns_50 hx hb hK hP hD hS q1 dX12_goOn_87 (fun H locs hP hD hS => ?_)
        refine lv_goto (tgt := 101) hx hb dX12_goOn_88 (by decide) ?_
        exact ih.2.2.2.2.2.2.2.1 L (σ.1, σ.2.1, updG σ.2.2 50 (upd (σ.2.2 50) ((((σ.1 72)) - 1)).toNatClampNeg ((L 5)))) r h H locs ls hP hD hS (lv_sub hl [0, 1, 2, 3, 4] rfl)
      · intro L σ r h H locs ls hP hD hS hl
        rw [x_GV_6, s_goOn_6] at h
        refine lv_aload_n hx hb dX12_goOn_91 rfl (lv_at hl 0 rfl) ?_
        refine ng_72 hx hb hts in_x_goOn hown hK hP (hts _ (List.mem_cons_of_mem _ (List.mem_append_left _ (List.mem_append_left _ (List.mem_of_getElem? (i := 100) rfl))))) dX12_goOn_92 ?_
        refine lv_iload_n hx hb dX12_goOn_95 rfl (lv_at hl 1 rfl) ?_
        refine lv_icmp_ne (tgt := 101) hx hb dX12_goOn_96 (by decide) (fun c1 => ?_) (fun c1 => ?_)
        · rw [if_neg c1] at h
          exact ih.2.2.2.2.2.2.2.1 L σ r h H locs ls hP hD hS (lv_sub hl [0, 1, 2, 3, 4] rfl)
        · rw [if_pos c1] at h
          refine lv_iconst (v := 0) hx hb dX12_goOn_99 (by decide) ?_
          cases h
          exact W.zret (v := 0) hx hb hr rfl (fun t ht hW => ⟨⟨0, (), rfl, rfl, by rw [ht]; exact hP, va_K.moved hW.alike hK, hD⟩, hS.F ht⟩) hS.2.2 dX12_goOn_100
      · intro L σ r h H locs ls hP hD hS hl
        rw [x_GV_6, s_goOn_7] at h
        refine lv_aload_n hx hb dX12_goOn_101 rfl (lv_at hl 0 rfl) ?_
        refine lv_aload_n hx hb dX12_goOn_102 rfl (lv_at hl 0 rfl) ?_
        refine ng_98 hx hb hts in_x_goOn hown hK hP (hts _ (List.mem_cons_of_mem _ (List.mem_append_left _ (List.mem_append_left _ (List.mem_of_getElem? (i := 113) rfl))))) dX12_goOn_103 ?_
        refine lv_aload_n hx hb dX12_goOn_106 rfl (lv_at hl 0 rfl) ?_
        refine ng_72 hx hb hts in_x_goOn hown hK hP (hts _ (List.mem_cons_of_mem _ (List.mem_append_left _ (List.mem_append_left _ (List.mem_of_getElem? (i := 100) rfl))))) dX12_goOn_107 ?_
        refine lv_iconst (v := 1) hx hb dX12_goOn_110 (by decide) ?_
        refine lv_isub hx hb dX12_goOn_111 ?_
        obtain ⟨q1, h⟩ := nb_ite1 h
        refine nl_50 hx hb hK hP q1 dX12_goOn_112 ?_
        obtain ⟨r2, hc2, h⟩ := ob_ex h
        refine nc_Vi (As := [.int (σ.2.2 50 ((((σ.1 72)) - 1)).toNatClampNeg)]) (rest := []) ⟨hx, hb, hml, hown, hts⟩ (c_x_stepIter l dC dI cy a k (upd (fun _ => 0) 1 ((σ.2.2 50 ((((σ.1 72)) - 1)).toNatClampNeg))) σ r2 hc2 H.size) (cwV 1 hts g_x_goOn_stepIter_715 rfl rfl rfl hd_x_stepIter (by show 4 + 1 ≤ 57 + d ∧ 8 + (4 + 11) + 88 ≤ 1375 + 27 * d; omega)) hK hG hA hP hD hS rfl hl.1 rfl (Nat.le_of_ble_eq_true rfl) dX12_goOn_113 ⟨Nat.le_refl _, Nat.le_refl _⟩ (fun H locs hP hD hS => ?_)
        refine lv_istore (lv' := [(4, .int r2.1), (0, .ref (a 0)), (1, .int (L 1)), (2, .int (L 2)), (3, .int (L 3))]) hx hb dX12_goOn_116 hl (by decide) rfl (fun ls hl => ?_)
        refine lv_iload hx hb dX12_goOn_118 (lv_at hl 0 rfl) ?_
        refine lv_if_ne (tgt := 140) hx hb dX12_goOn_120 (by decide) (fun c3 => ?_) (fun c3 => ?_)
        · rw [if_neg c3] at h
          exact ih.2.2.2.2.2.2.2.2.1 (upd L 4 r2.1) r2.2 r h H locs ls hP hD hS (lv_sub hl [1, 2, 3, 4, 0] rfl)
        · rw [if_pos c3] at h
          refine lv_aload_n hx hb dX12_goOn_123 rfl (lv_at hl 1 rfl) ?_
          refine ng_56 hx hb hts in_x_goOn hown hK hP (hts _ (List.mem_cons_of_mem _ (List.mem_append_left _ (List.mem_append_left _ (List.mem_of_getElem? (i := 13) rfl))))) dX12_goOn_124 ?_
          refine lv_if_ne (tgt := 140) hx hb dX12_goOn_127 (by decide) (fun c4 => ?_) (fun c4 => ?_)
          · rw [if_neg c4] at h
            exact ih.2.2.2.2.2.2.2.2.1 (upd L 4 r2.1) r2.2 r h H locs ls hP hD hS (lv_sub hl [1, 2, 3, 4, 0] rfl)
          · rw [if_pos c4] at h
            refine lv_aload_n hx hb dX12_goOn_130 rfl (lv_at hl 1 rfl) ?_
            refine lv_dup hx hb dX12_goOn_131 rfl ?_
            refine ng_72 hx hb hts in_x_goOn hown hK hP (hts _ (List.mem_cons_of_mem _ (List.mem_append_left _ (List.mem_append_left _ (List.mem_of_getElem? (i := 100) rfl))))) dX12_goOn_132 ?_
            refine lv_iconst (v := 1) hx hb dX12_goOn_135 (by decide) ?_
            refine lv_isub hx hb dX12_goOn_136 ?_
            refine np_72 hx hb hts in_x_goOn hown hK hP hD hS (hts _ (List.mem_cons_of_mem _ (List.mem_append_left _ (List.mem_append_left _ (List.mem_of_getElem? (i := 100) rfl))))) dX12_goOn_137 (fun H locs hP hD hS => ?_)
            exact ih.2.2.2.2.2.2.2.2.1 (upd L 4 r2.1) (upd r2.2.1 72 ((((r2.2.1 72)) - 1)), r2.2.2.1, r2.2.2.2) r h H locs ls hP hD hS (lv_sub hl [1, 2, 3, 4, 0] rfl)
      · intro L σ r h H locs ls hP hD hS hl
        rw [x_GV_6, s_goOn_8] at h
        refine lv_iload hx hb dX12_goOn_140 (lv_at hl 4 rfl) ?_
        refine lv_if_eq (tgt := 3) hx hb dX12_goOn_142 (by decide) (fun c1 => ?_) (fun c1 => ?_)
        · rw [if_pos c1] at h
          exact ih.2.1 L σ r h H locs ls hP hD hS (lv_sub hl [0, 1, 2, 3, 4] rfl)
        · rw [if_neg c1] at h
          refine lv_aload_n hx hb dX12_goOn_145 rfl (lv_at hl 0 rfl) ?_
          refine ng_19 hx hb hts in_x_goOn hown hK hP (hts _ (List.mem_cons_of_mem _ (List.mem_append_left _ (List.mem_append_left _ (List.mem_of_getElem? (i := 77) rfl))))) dX12_goOn_146 ?_
          refine lv_aload_n hx hb dX12_goOn_149 rfl (lv_at hl 0 rfl) ?_
          refine ng_98 hx hb hts in_x_goOn hown hK hP (hts _ (List.mem_cons_of_mem _ (List.mem_append_left _ (List.mem_append_left _ (List.mem_of_getElem? (i := 113) rfl))))) dX12_goOn_150 ?_
          refine lv_aload_n hx hb dX12_goOn_153 rfl (lv_at hl 0 rfl) ?_
          refine ng_72 hx hb hts in_x_goOn hown hK hP (hts _ (List.mem_cons_of_mem _ (List.mem_append_left _ (List.mem_append_left _ (List.mem_of_getElem? (i := 100) rfl))))) dX12_goOn_154 ?_
          refine lv_iconst (v := 1) hx hb dX12_goOn_157 (by decide) ?_
          refine lv_isub hx hb dX12_goOn_158 ?_
          obtain ⟨q2, h⟩ := nb_ite1 h
          refine nl_50 hx hb hK hP q2 dX12_goOn_159 ?_
          obtain ⟨q3, h⟩ := nb_ite1 h
          refine nl_9 hx hb hK hP q3 dX12_goOn_160 ?_
          refine lv_iconst (v := (-1)) hx hb dX12_goOn_161 (by decide) ?_
          refine lv_icmp_ne (tgt := 3) hx hb dX12_goOn_162 (by decide) (fun c4 => ?_) (fun c4 => ?_)
          · rw [if_neg c4] at h
            exact ih.2.1 L σ r h H locs ls hP hD hS (lv_sub hl [0, 1, 2, 3, 4] rfl)
          · rw [if_pos c4] at h
            refine lv_iconst (v := 1) hx hb dX12_goOn_165 (by decide) ?_
            cases h
            exact W.zret (v := 1) hx hb hr rfl (fun t ht hW => ⟨⟨1, (), rfl, rfl, by rw [ht]; exact hP, va_K.moved hW.alike hK, hD⟩, hS.F ht⟩) hS.2.2 dX12_goOn_166
      · intro L σ r h H locs ls hP hD hS hl
        rw [x_GV_6, s_goOn_9] at h
        refine lv_iconst (v := 0) hx hb dX12_goOn_167 (by decide) ?_
        cases h
        exact W.zret (v := 0) hx hb hr rfl (fun t ht hW => ⟨⟨0, (), rfl, rfl, by rw [ht]; exact hP, va_K.moved hW.alike hK, hD⟩, hS.F ht⟩) hS.2.2 dX12_goOn_168
  exact (blk k0 (Nat.le_refl _)).1 L0 σ0 r0 h0 s.heap [] ls hP hD hS hl

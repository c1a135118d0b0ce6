/-! returns -/
def x_returns : Nat → Nat → (Nat → Int32) → MS → Option (Int32 × MS)
  | 0, _, _, _ => none
  | k + 1, 0, L, σ => if ¬ (((L 1)) < 0 ∨ 70000 ≤ ((L 1)).toNatClampNeg) then (if ((σ.2.2 5 ((L 1)).toNatClampNeg)) = ((-1)) then (x_returns k 3 (upd L 2 0) σ) else (if ¬ (((L 1)) < 0 ∨ 70000 ≤ ((L 1)).toNatClampNeg) then (ob (x_eval k 0 (upd (fun _ => 0) 1 ((σ.2.2 5 ((L 1)).toNatClampNeg))) σ) (fun r4 => if ((r4.2.1 56)) ≤ 0 then (x_returns k 1 (upd L 2 0) r4.2) else (x_returns k 2 (upd (upd L 2 0) 100 0) r4.2))) else none)) else none
  | k + 1, 1, L, σ => ob (x_pop k 0 (fun _ => 0) σ) (fun r1 => x_returns k 2 (upd L 100 r1.1) r1.2)
  | k + 1, 2, L, σ => x_returns k 3 (upd L 2 ((L 100))) σ
  | k + 1, 3, L, σ => if ((σ.1 56)) = 0 then (ob (x_giveBack k 0 (upd (fun _ => 0) 1 ((L 2))) σ) (fun r2 => ob (x_goOnBehind k 0 (upd (fun _ => 0) 1 r2.1) r2.2) (fun r3 => x_returns k 4 L r3.2))) else (x_returns k 4 L σ)
  | k + 1, 4, L, σ => some (0, σ)
  | _ + 1, _ + 5, _, _ => none
def o_x_returns : List Cond := [.fieldLink RX12 86 "SetHouseModel" "x1" "[I", .methodLink RX12 566 yX12_eval, .instanceMethod yX12_eval, .selects RX12 yX12_eval yX12_eval, .initialized RX12, .fieldLink RX12 362 "SetHouseModel" "err" "I", .methodLink RX12 572 yX12_pop, .instanceMethod yX12_pop, .selects RX12 yX12_pop yX12_pop, .methodLink RX12 865 yX12_giveBack, .instanceMethod yX12_giveBack, .selects RX12 yX12_giveBack yX12_giveBack, .methodLink RX12 874 yX12_goOnBehind, .instanceMethod yX12_goOnBehind, .selects RX12 yX12_goOnBehind yX12_goOnBehind]
theorem o_x_returns_good : o_x_returns.all goodWord = true := by decide +kernel
def p_x_returns : List Cond := o_x_returns ++ ((.code yX12_eval cX12_eval 3 none :: p_x_GV) ++ ((.code yX12_pop cX12_pop 1 (some .int) :: p_x_pop) ++ ((.code yX12_giveBack cX12_giveBack 8 (some .int) :: p_x_giveBack) ++ ((.code yX12_goOnBehind cX12_goOnBehind 2 none :: p_x_goOnBehind) ++ []))))
theorem p_x_returns_good : p_x_returns.all goodWord = true := nb_all2 o_x_returns_good (nb_all2 (nb_allc (by decide +kernel) p_x_GV_good) (nb_all2 (nb_allc (by decide +kernel) p_x_pop_good) (nb_all2 (nb_allc (by decide +kernel) p_x_giveBack_good) (nb_all2 (nb_allc (by decide +kernel) p_x_goOnBehind_good) rfl))))
def w_x_returns : List Cond := .code yX12_returns cX12_returns 3 none :: (p_x_returns ++ fM)
theorem w_x_returns_good : w_x_returns.all goodWord = true := nb_allc (by decide +kernel) (nb_all2 p_x_returns_good fM_good)
theorem in_x_returns : ∀ w ∈ wsX120, w ∈ w_x_returns := fun _ h => List.mem_cons_of_mem _ (List.mem_append_right _ h)
theorem hd_x_returns : yX12_returns.cls = RX12 ∧ yX12_returns.cls ≠ "java/lang/invoke/MethodHandle" ∧ yX12_returns.cls ≠ "java/lang/invoke/VarHandle" ∧ (parseMethodDescriptor yX12_returns.desc).map (fun d => d.parameters.length) = some 1 := by decide +kernel
theorem gg_x_returns_eval : GoodIn w_x_returns w_x_eval := goodIn_sub (fun w h => (List.mem_cons.mp h).elim (fun e => (List.mem_cons_of_mem _ (List.mem_append_left _ (List.mem_append_right _ (List.mem_append_left _ (List.mem_cons.mpr (Or.inl e))))))) (fun h => (List.mem_append.mp h).elim (fun h => (List.mem_cons_of_mem _ (List.mem_append_left _ (List.mem_append_right _ (List.mem_append_left _ (List.mem_cons_of_mem _ h)))))) (fun h => List.mem_cons_of_mem _ (List.mem_append_right _ h)))) w_x_eval_good
theorem g_x_returns_eval_566 : GoodIn w_x_returns (wsV RX12 566 RX12 yX12_eval w_x_eval) := goodIn_app (nb_g4 (List.mem_cons_of_mem _ (List.mem_append_left _ (List.mem_append_left _ (List.mem_of_getElem? (i := 1) rfl)))) (List.mem_cons_of_mem _ (List.mem_append_left _ (List.mem_append_left _ (List.mem_of_getElem? (i := 2) rfl)))) (List.mem_cons_of_mem _ (List.mem_append_left _ (List.mem_append_left _ (List.mem_of_getElem? (i := 3) rfl)))) (List.mem_cons_of_mem _ (List.mem_append_left _ (List.mem_append_left _ (List.mem_of_getElem? (i := 4) rfl)))) (by decide +kernel)) gg_x_returns_eval
theorem gg_x_returns_giveBack : GoodIn w_x_returns w_x_giveBack := goodIn_sub (fun w h => (List.mem_cons.mp h).elim (fun e => (List.mem_cons_of_mem _ (List.mem_append_left _ (List.mem_append_right _ (List.mem_append_right _ (List.mem_append_right _ (List.mem_append_left _ (List.mem_cons.mpr (Or.inl e))))))))) (fun h => (List.mem_append.mp h).elim (fun h => (List.mem_cons_of_mem _ (List.mem_append_left _ (List.mem_append_right _ (List.mem_append_right _ (List.mem_append_right _ (List.mem_append_left _ (List.mem_cons_of_mem _ h)))))))) (fun h => List.mem_cons_of_mem _ (List.mem_append_right _ h)))) w_x_giveBack_good
theorem g_x_returns_giveBack_865 : GoodIn w_x_returns (wsV RX12 865 RX12 yX12_giveBack w_x_giveBack) := goodIn_app (nb_g4 (List.mem_cons_of_mem _ (List.mem_append_left _ (List.mem_append_left _ (List.mem_of_getElem? (i := 9) rfl)))) (List.mem_cons_of_mem _ (List.mem_append_left _ (List.mem_append_left _ (List.mem_of_getElem? (i := 10) rfl)))) (List.mem_cons_of_mem _ (List.mem_append_left _ (List.mem_append_left _ (List.mem_of_getElem? (i := 11) rfl)))) (List.mem_cons_of_mem _ (List.mem_append_left _ (List.mem_append_left _ (List.mem_of_getElem? (i := 4) rfl)))) (by decide +kernel)) gg_x_returns_giveBack
theorem gg_x_returns_goOnBehind : GoodIn w_x_returns w_x_goOnBehind := goodIn_sub (fun w h => (List.mem_cons.mp h).elim (fun e => (List.mem_cons_of_mem _ (List.mem_append_left _ (List.mem_append_right _ (List.mem_append_right _ (List.mem_append_right _ (List.mem_append_right _ (List.mem_append_left _ (List.mem_cons.mpr (Or.inl e)))))))))) (fun h => (List.mem_append.mp h).elim (fun h => (List.mem_cons_of_mem _ (List.mem_append_left _ (List.mem_append_right _ (List.mem_append_right _ (List.mem_append_right _ (List.mem_append_right _ (List.mem_append_left _ (List.mem_cons_of_mem _ h))))))))) (fun h => List.mem_cons_of_mem _ (List.mem_append_right _ h)))) w_x_goOnBehind_good
theorem g_x_returns_goOnBehind_874 : GoodIn w_x_returns (wsV RX12 874 RX12 yX12_goOnBehind w_x_goOnBehind) := goodIn_app (nb_g4 (List.mem_cons_of_mem _ (List.mem_append_left _ (List.mem_append_left _ (List.mem_of_getElem? (i := 12) rfl)))) (List.mem_cons_of_mem _ (List.mem_append_left _ (List.mem_append_left _ (List.mem_of_getElem? (i := 13) rfl)))) (List.mem_cons_of_mem _ (List.mem_append_left _ (List.mem_append_left _ (List.mem_of_getElem? (i := 14) rfl)))) (List.mem_cons_of_mem _ (List.mem_append_left _ (List.mem_append_left _ (List.mem_of_getElem? (i := 4) rfl)))) (by decide +kernel)) gg_x_returns_goOnBehind
theorem gg_x_returns_pop : GoodIn w_x_returns w_x_pop := goodIn_sub (fun w h => (List.mem_cons.mp h).elim (fun e => (List.mem_cons_of_mem _ (List.mem_append_left _ (List.mem_append_right _ (List.mem_append_right _ (List.mem_append_left _ (List.mem_cons.mpr (Or.inl e)))))))) (fun h => (List.mem_append.mp h).elim (fun h => (List.mem_cons_of_mem _ (List.mem_append_left _ (List.mem_append_right _ (List.mem_append_right _ (List.mem_append_left _ (List.mem_cons_of_mem _ h))))))) (fun h => List.mem_cons_of_mem _ (List.mem_append_right _ h)))) w_x_pop_good
theorem g_x_returns_pop_572 : GoodIn w_x_returns (wsV RX12 572 RX12 yX12_pop w_x_pop) := goodIn_app (nb_g4 (List.mem_cons_of_mem _ (List.mem_append_left _ (List.mem_append_left _ (List.mem_of_getElem? (i := 6) rfl)))) (List.mem_cons_of_mem _ (List.mem_append_left _ (List.mem_append_left _ (List.mem_of_getElem? (i := 7) rfl)))) (List.mem_cons_of_mem _ (List.mem_append_left _ (List.mem_append_left _ (List.mem_of_getElem? (i := 8) rfl)))) (List.mem_cons_of_mem _ (List.mem_append_left _ (List.mem_append_left _ (List.mem_of_getElem? (i := 4) rfl)))) (by decide +kernel)) gg_x_returns_pop
set_option maxHeartbeats 40000000 in
set_option maxRecDepth 100000 in
theorem c_x_returns (l : Launch) (dC : Nat → ClassId) (dI : Nat → Nat → Nat) (cy : Nat → ClassId) (a : Nat → Nat) (k0 : Nat) (L0 : Nat → Int32) (σ0 : MS) (r0 : Int32 × MS) (h0 : x_returns k0 0 L0 σ0 = some r0) (sz : Nat) : Met l yX12_returns w_x_returns ({ frames := 1364, cells := 0, slots := 0, locals := 36636 }) (va_Pc [.ref (a 0), .int (L0 1)] (nIn (dC, dI) cy sz (vM cy a σ0))) (va_Qv (fun _ : Unit => True) (fun _ t => nOut (dC, dI) cy (va_A (vM cy a σ0) sz) (vM cy a r0.2) t) (va_A (vM cy a σ0) sz)) 0 0 (va_A (vM cy a σ0) sz) := by
  refine Met.ofW (cc := cX12_returns) (maxL := 3) (ret := none) (by decide) rfl ?_
  intro p e s m args below meth c s₁ B hml hv
  obtain ⟨rfl, hsz, hP, hK, hD0, hG⟩ := hv
  have hx := B.exec
  have hb := B.bytes
  have hr := B.returns
  have hts := atoms_spec (ws := w_x_returns) B.pre
  have hown : s.vm.findClass RX12 = some m.cls := findClass_of_methodNamed B.named
  have hlocks := B.notSynchronized
  subst hsz
  have hD := hD0.self (sz := s.heap.size)
  generalize hAe : va_A (vM cy a σ0) s.heap.size = A at hD ⊢
  have hA : ∀ q : Nat, s.heap.size ≤ q → A q := fun q h => by rw [← hAe]; exact Or.inr h
  have hS : va_S A s.heap s.heap [] := va_S.rf
  have hl := lv_entry ([.ref (a 0), .int (L0 1)]) (n := 3) (Nat.le_of_ble_eq_true rfl)
  rw [lg_entry_eq]
  generalize (lg_sl ([.ref (a 0), .int (L0 1)]) ++ List.replicate (3 - (lg_sl ([.ref (a 0), .int (L0 1)])).length) Slot.unset).toArray = ls at hl ⊢
  have hl : lv_has ls 3 [(0, .ref (a 0)), (1, .int (L0 1))] := hl
  have blk : ∀ k : Nat, (bT p l e (headSpec w_x_returns ({ frames := 1364, cells := 0, slots := 0, locals := 36636 })).room s m #[.ref (a 0), .int (L0 1)] below meth c dC dI cy a A (qV dC dI cy a A below #[.ref (a 0), .int (L0 1)] s) 3 (x_returns k 0) (fun L => [(0, .ref (a 0)), (1, .int (L 1))]) 0 (fun L => [])) ∧ (bT p l e (headSpec w_x_returns ({ frames := 1364, cells := 0, slots := 0, locals := 36636 })).room s m #[.ref (a 0), .int (L0 1)] below meth c dC dI cy a A (qV dC dI cy a A below #[.ref (a 0), .int (L0 1)] s) 3 (x_returns k 1) (fun L => [(0, .ref (a 0)), (1, .int (L 1)), (2, .int (L 2))]) 33 (fun L => [])) ∧ (bT p l e (headSpec w_x_returns ({ frames := 1364, cells := 0, slots := 0, locals := 36636 })).room s m #[.ref (a 0), .int (L0 1)] below meth c dC dI cy a A (qV dC dI cy a A below #[.ref (a 0), .int (L0 1)] s) 3 (x_returns k 2) (fun L => [(0, .ref (a 0)), (1, .int (L 1)), (2, .int (L 2))]) 37 (fun L => [.int (L 100)])) ∧ (bT p l e (headSpec w_x_returns ({ frames := 1364, cells := 0, slots := 0, locals := 36636 })).room s m #[.ref (a 0), .int (L0 1)] below meth c dC dI cy a A (qV dC dI cy a A below #[.ref (a 0), .int (L0 1)] s) 3 (x_returns k 3) (fun L => [(0, .ref (a 0)), (1, .int (L 1)), (2, .int (L 2))]) 38 (fun L => [])) ∧ (bT p l e (headSpec w_x_returns ({ frames := 1364, cells := 0, slots := 0, locals := 36636 })).room s m #[.ref (a 0), .int (L0 1)] below meth c dC dI cy a A (qV dC dI cy a A below #[.ref (a 0), .int (L0 1)] s) 3 (x_returns k 4) (fun L => [(0, .ref (a 0)), (1, .int (L 1)), (2, .int (L 2))]) 54 (fun L => [])) := by
    intro k
    induction k with
    | zero => exact ⟨fun L σ r h => (by cases h), fun L σ r h => (by cases h), fun L σ r h => (by cases h), fun L σ r h => (by cases h), fun L σ r h => (by cases h)⟩
    | succ k ih =>
      refine ⟨?_, ?_, ?_, ?_, ?_⟩
      · intro L σ r h H locs ls hP hD hS hl
        rw [x_returns] at h
        refine lv_iconst (v := 0) hx hb dX12_returns_0 (by decide) ?_
        refine lv_istore_n (lv' := [(2, .int 0), (0, .ref (a 0)), (1, .int (L 1))]) hx hb dX12_returns_1 rfl hl (by decide) rfl (fun ls hl => ?_)
        refine lv_aload_n hx hb dX12_returns_2 rfl (lv_at hl 1 rfl) ?_
        refine ng_15 hx hb hts in_x_returns hown hK hP (hts _ (List.mem_cons_of_mem _ (List.mem_append_left _ (List.mem_append_left _ (List.mem_of_getElem? (i := 0) rfl))))) dX12_returns_3 ?_
        refine lv_iload_n hx hb dX12_returns_6 rfl (lv_at hl 2 rfl) ?_
        obtain ⟨q1, h⟩ := nb_ite1 h
        refine nl_5 hx hb hK hP q1 dX12_returns_7 ?_
        refine lv_iconst (v := (-1)) hx hb dX12_returns_8 (by decide) ?_
        refine lv_icmp_eq (tgt := 38) hx hb dX12_returns_9 (by decide) (fun c2 => ?_) (fun c2 => ?_)
        · rw [if_pos c2] at h
          exact ih.2.2.2.1 (upd L 2 0) σ r h H locs ls hP hD hS (lv_sub hl [1, 2, 0] rfl)
        · rw [if_neg c2] at h
          refine lv_aload_n hx hb dX12_returns_12 rfl (lv_at hl 1 rfl) ?_
          refine lv_aload_n hx hb dX12_returns_13 rfl (lv_at hl 1 rfl) ?_
          refine ng_15 hx hb hts in_x_returns hown hK hP (hts _ (List.mem_cons_of_mem _ (List.mem_append_left _ (List.mem_append_left _ (List.mem_of_getElem? (i := 0) rfl))))) dX12_returns_14 ?_
          refine lv_iload_n hx hb dX12_returns_17 rfl (lv_at hl 2 rfl) ?_
          obtain ⟨q3, h⟩ := nb_ite1 h
          refine nl_5 hx hb hK hP q3 dX12_returns_18 ?_
          obtain ⟨r4, hc4, h⟩ := ob_ex h
          refine nc_Vv (As := [.int (σ.2.2 5 ((L 1)).toNatClampNeg)]) (rest := []) ⟨hx, hb, hml, hown, hts⟩ (c_x_eval l dC dI cy a k (upd (fun _ => 0) 1 ((σ.2.2 5 ((L 1)).toNatClampNeg))) σ r4 hc4 H.size) (cwV 1 hts g_x_returns_eval_566 rfl rfl rfl hd_x_eval ⟨Nat.le_of_ble_eq_true rfl, Nat.le_of_ble_eq_true rfl⟩) hK hG hA hP hD hS rfl hl.1 rfl (Nat.le_of_ble_eq_true rfl) dX12_returns_19 ⟨Nat.le_refl _, Nat.le_refl _⟩ (fun H locs hP hD hS => ?_)
          refine lv_aload_n hx hb dX12_returns_22 rfl (lv_at hl 1 rfl) ?_
          refine ng_56 hx hb hts in_x_returns hown hK hP (hts _ (List.mem_cons_of_mem _ (List.mem_append_left _ (List.mem_append_left _ (List.mem_of_getElem? (i := 5) rfl))))) dX12_returns_23 ?_
          refine lv_if_le (tgt := 33) hx hb dX12_returns_26 (by decide) (fun c5 => ?_) (fun c5 => ?_)
          · rw [if_pos c5] at h
            exact ih.2.1 (upd L 2 0) r4.2 r h H locs ls hP hD hS (lv_sub hl [1, 2, 0] rfl)
          · rw [if_neg c5] at h
            refine lv_iconst (v := 0) hx hb dX12_returns_29 (by decide) ?_
            refine lv_goto (tgt := 37) hx hb dX12_returns_30 (by decide) ?_
            exact ih.2.2.1 (upd (upd L 2 0) 100 0) r4.2 r h H locs ls hP hD hS (lv_sub hl [1, 2, 0] rfl)
      · intro L σ r h H locs ls hP hD hS hl
        rw [x_returns] at h
        refine lv_aload_n hx hb dX12_returns_33 rfl (lv_at hl 0 rfl) ?_
        obtain ⟨r1, hc1, h⟩ := ob_ex h
        refine nc_Vi (As := []) (rest := []) ⟨hx, hb, hml, hown, hts⟩ (c_x_pop l dC dI cy a k (fun _ => 0) σ r1 hc1 H.size) (cwV 0 hts g_x_returns_pop_572 rfl rfl rfl hd_x_pop ⟨Nat.le_of_ble_eq_true rfl, Nat.le_of_ble_eq_true rfl⟩) hK hG hA hP hD hS rfl hl.1 rfl (Nat.le_of_ble_eq_true rfl) dX12_returns_34 ⟨Nat.le_refl _, Nat.le_refl _⟩ (fun H locs hP hD hS => ?_)
        exact ih.2.2.1 (upd L 100 r1.1) r1.2 r h H locs ls hP hD hS (lv_sub hl [0, 1, 2] rfl)
      · intro L σ r h H locs ls hP hD hS hl
        rw [x_returns] at h
        refine lv_istore_n (lv' := [(2, .int (L 100)), (0, .ref (a 0)), (1, .int (L 1))]) hx hb dX12_returns_37 rfl hl (by decide) rfl (fun ls hl => ?_)
        exact ih.2.2.2.1 (upd L 2 ((L 100))) σ r h H locs ls hP hD hS (lv_sub hl [1, 2, 0] rfl)
      · intro L σ r h H locs ls hP hD hS hl
        rw [x_returns] at h
        refine lv_aload_n hx hb dX12_returns_38 rfl (lv_at hl 0 rfl) ?_
        refine ng_56 hx hb hts in_x_returns hown hK hP (hts _ (List.mem_cons_of_mem _ (List.mem_append_left _ (List.mem_append_left _ (List.mem_of_getElem? (i := 5) rfl))))) dX12_returns_39 ?_
        refine lv_if_ne (tgt := 54) hx hb dX12_returns_42 (by decide) (fun c1 => ?_) (fun c1 => ?_)
        · rw [if_neg c1] at h
          exact ih.2.2.2.2 L σ r h H locs ls hP hD hS (lv_sub hl [0, 1, 2] rfl)
        · rw [if_pos c1] at h
          refine lv_aload_n hx hb dX12_returns_45 rfl (lv_at hl 0 rfl) ?_
          refine lv_aload_n hx hb dX12_returns_46 rfl (lv_at hl 0 rfl) ?_
          refine lv_iload_n hx hb dX12_returns_47 rfl (lv_at hl 2 rfl) ?_
          obtain ⟨r2, hc2, h⟩ := ob_ex h
          refine nc_Vi (As := [.int (L 2)]) (rest := [.ref (a 0)]) ⟨hx, hb, hml, hown, hts⟩ (c_x_giveBack l dC dI cy a k (upd (fun _ => 0) 1 ((L 2))) σ r2 hc2 H.size) (cwV 1 hts g_x_returns_giveBack_865 rfl rfl rfl hd_x_giveBack ⟨Nat.le_of_ble_eq_true rfl, Nat.le_of_ble_eq_true rfl⟩) hK hG hA hP hD hS rfl hl.1 rfl (Nat.le_of_ble_eq_true rfl) dX12_returns_48 ⟨Nat.le_refl _, Nat.le_refl _⟩ (fun H locs hP hD hS => ?_)
          obtain ⟨r3, hc3, h⟩ := ob_ex h
          refine nc_Vv (As := [.int r2.1]) (rest := []) ⟨hx, hb, hml, hown, hts⟩ (c_x_goOnBehind l dC dI cy a k (upd (fun _ => 0) 1 r2.1) r2.2 r3 hc3 H.size) (cwV 1 hts g_x_returns_goOnBehind_874 rfl rfl rfl hd_x_goOnBehind ⟨Nat.le_of_ble_eq_true rfl, Nat.le_of_ble_eq_true rfl⟩) hK hG hA hP hD hS rfl hl.1 rfl (Nat.le_of_ble_eq_true rfl) dX12_returns_51 ⟨Nat.le_refl _, Nat.le_refl _⟩ (fun H locs hP hD hS => ?_)
          exact ih.2.2.2.2 L r3.2 r h H locs ls hP hD hS (lv_sub hl [0, 1, 2] rfl)
      · intro L σ r h H locs ls hP hD hS hl
        rw [x_returns] at h
        cases h
        exact W.vret hx hb hr (fun t ht hW => ⟨⟨(), rfl, trivial, by rw [ht]; exact hP, va_K.moved hW.alike hK, hD⟩, hS.F ht⟩) hS.2.2 dX12_returns_54
  exact (blk k0).1 L0 σ0 r0 h0 s.heap [] ls hP hD hS hl
/-! succeed -/
def x_succeed : Nat → Nat → (Nat → Int32) → MS → Option (Int32 × MS)
  | 0, _, _, _ => none
  | k + 1, 0, L, σ => if ((σ.1 63)) = 0 then (ob (x_fail k 0 (upd (fun _ => 0) 1 10) σ) (fun r2 => some (0, r2.2))) else (x_succeed k 1 L σ)
  | k + 1, 1, L, σ => x_succeed k 2 L (upd σ.1 63 ((((σ.1 63)) - 1)), σ.2.1, σ.2.2)
  | k + 1, 2, L, σ => if ¬ (((σ.1 63)) < 0 ∨ 20 ≤ ((σ.1 63)).toNatClampNeg) then (x_succeed k 3 L (upd σ.1 65 ((((σ.1 65)) - ((σ.2.2 32 ((σ.1 63)).toNatClampNeg)))), σ.2.1, σ.2.2)) else none
  | k + 1, 3, L, σ => ob (x_pass k 0 (upd (fun _ => 0) 1 ((L 1))) σ) (fun r1 => some (0, r1.2))
  | _ + 1, _ + 4, _, _ => none
def o_x_succeed : List Cond := [.fieldLink RX12 402 "SetHouseModel" "points" "I", .methodLink RX12 369 yX12_fail, .instanceMethod yX12_fail, .selects RX12 yX12_fail yX12_fail, .initialized RX12, .fieldLink RX12 855 "SetHouseModel" "pointsTotal" "I", .fieldLink RX12 968 "SetHouseModel" "savedTotal" "[I", .methodLink RX12 926 yX12_pass, .instanceMethod yX12_pass, .selects RX12 yX12_pass yX12_pass]
theorem o_x_succeed_good : o_x_succeed.all goodWord = true := by decide +kernel
def p_x_succeed : List Cond := o_x_succeed ++ ((.code yX12_fail cX12_fail 2 none :: p_x_fail) ++ ((.code yX12_pass cX12_pass 2 none :: p_x_pass) ++ []))
theorem p_x_succeed_good : p_x_succeed.all goodWord = true := nb_all2 o_x_succeed_good (nb_all2 (nb_allc (by decide +kernel) p_x_fail_good) (nb_all2 (nb_allc (by decide +kernel) p_x_pass_good) rfl))
def w_x_succeed : List Cond := .code yX12_succeed cX12_succeed 2 none :: (p_x_succeed ++ fM)
theorem w_x_succeed_good : w_x_succeed.all goodWord = true := nb_allc (by decide +kernel) (nb_all2 p_x_succeed_good fM_good)
theorem in_x_succeed : ∀ w ∈ wsX120, w ∈ w_x_succeed := fun _ h => List.mem_cons_of_mem _ (List.mem_append_right _ h)
theorem hd_x_succeed : yX12_succeed.cls = RX12 ∧ yX12_succeed.cls ≠ "java/lang/invoke/MethodHandle" ∧ yX12_succeed.cls ≠ "java/lang/invoke/VarHandle" ∧ (parseMethodDescriptor yX12_succeed.desc).map (fun d => d.parameters.length) = some 1 := by decide +kernel
theorem gg_x_succeed_fail : GoodIn w_x_succeed w_x_fail := goodIn_sub (fun w h => (List.mem_cons.mp h).elim (fun e => (List.mem_cons_of_mem _ (List.mem_append_left _ (List.mem_append_right _ (List.mem_append_left _ (List.mem_cons.mpr (Or.inl e))))))) (fun h => (List.mem_append.mp h).elim (fun h => (List.mem_cons_of_mem _ (List.mem_append_left _ (List.mem_append_right _ (List.mem_append_left _ (List.mem_cons_of_mem _ h)))))) (fun h => List.mem_cons_of_mem _ (List.mem_append_right _ h)))) w_x_fail_good
theorem g_x_succeed_fail_369 : GoodIn w_x_succeed (wsV RX12 369 RX12 yX12_fail w_x_fail) := goodIn_app (nb_g4 (List.mem_cons_of_mem _ (List.mem_append_left _ (List.mem_append_left _ (List.mem_of_getElem? (i := 1) rfl)))) (List.mem_cons_of_mem _ (List.mem_append_left _ (List.mem_append_left _ (List.mem_of_getElem? (i := 2) rfl)))) (List.mem_cons_of_mem _ (List.mem_append_left _ (List.mem_append_left _ (List.mem_of_getElem? (i := 3) rfl)))) (List.mem_cons_of_mem _ (List.mem_append_left _ (List.mem_append_left _ (List.mem_of_getElem? (i := 4) rfl)))) (by decide +kernel)) gg_x_succeed_fail
theorem gg_x_succeed_pass : GoodIn w_x_succeed w_x_pass := goodIn_sub (fun w h => (List.mem_cons.mp h).elim (fun e => (List.mem_cons_of_mem _ (List.mem_append_left _ (List.mem_append_right _ (List.mem_append_right _ (List.mem_append_left _ (List.mem_cons.mpr (Or.inl e)))))))) (fun h => (List.mem_append.mp h).elim (fun h => (List.mem_cons_of_mem _ (List.mem_append_left _ (List.mem_append_right _ (List.mem_append_right _ (List.mem_append_left _ (List.mem_cons_of_mem _ h))))))) (fun h => List.mem_cons_of_mem _ (List.mem_append_right _ h)))) w_x_pass_good
theorem g_x_succeed_pass_926 : GoodIn w_x_succeed (wsV RX12 926 RX12 yX12_pass w_x_pass) := goodIn_app (nb_g4 (List.mem_cons_of_mem _ (List.mem_append_left _ (List.mem_append_left _ (List.mem_of_getElem? (i := 7) rfl)))) (List.mem_cons_of_mem _ (List.mem_append_left _ (List.mem_append_left _ (List.mem_of_getElem? (i := 8) rfl)))) (List.mem_cons_of_mem _ (List.mem_append_left _ (List.mem_append_left _ (List.mem_of_getElem? (i := 9) rfl)))) (List.mem_cons_of_mem _ (List.mem_append_left _ (List.mem_append_left _ (List.mem_of_getElem? (i := 4) rfl)))) (by decide +kernel)) gg_x_succeed_pass
set_option maxHeartbeats 40000000 in
set_option maxRecDepth 100000 in
theorem c_x_succeed (l : Launch) (dC : Nat → ClassId) (dI : Nat → Nat → Nat) (cy : Nat → ClassId) (a : Nat → Nat) (k0 : Nat) (L0 : Nat → Int32) (σ0 : MS) (r0 : Int32 × MS) (h0 : x_succeed k0 0 L0 σ0 = some r0) (sz : Nat) : Met l yX12_succeed w_x_succeed ({ frames := 1365, cells := 0, slots := 0, locals := 36657 }) (va_Pc [.ref (a 0), .int (L0 1)] (nIn (dC, dI) cy sz (vM cy a σ0))) (va_Qv (fun _ : Unit => True) (fun _ t => nOut (dC, dI) cy (va_A (vM cy a σ0) sz) (vM cy a r0.2) t) (va_A (vM cy a σ0) sz)) 0 0 (va_A (vM cy a σ0) sz) := by
  refine Met.ofW (cc := cX12_succeed) (maxL := 2) (ret := none) (by decide) rfl ?_
  intro p e s m args below meth c s₁ B hml hv
  obtain ⟨rfl, hsz, hP, hK, hD0, hG⟩ := hv
  have hx := B.exec
  have hb := B.bytes
  have hr := B.returns
  have hts := atoms_spec (ws := w_x_succeed) B.pre
  have hown : s.vm.findClass RX12 = some m.cls := findClass_of_methodNamed B.named
  have hlocks := B.notSynchronized
  subst hsz
  have hD := hD0.self (sz := s.heap.size)
  generalize hAe : va_A (vM cy a σ0) s.heap.size = A at hD ⊢
  have hA : ∀ q : Nat, s.heap.size ≤ q → A q := fun q h => by rw [← hAe]; exact Or.inr h
  have hS : va_S A s.heap s.heap [] := va_S.rf
  have hl := lv_entry ([.ref (a 0), .int (L0 1)]) (n := 2) (Nat.le_of_ble_eq_true rfl)
  rw [lg_entry_eq]
  generalize (lg_sl ([.ref (a 0), .int (L0 1)]) ++ List.replicate (2 - (lg_sl ([.ref (a 0), .int (L0 1)])).length) Slot.unset).toArray = ls at hl ⊢
  have hl : lv_has ls 2 [(0, .ref (a 0)), (1, .int (L0 1))] := hl
  have blk : ∀ k : Nat, (bT p l e (headSpec w_x_succeed ({ frames := 1365, cells := 0, slots := 0, locals := 36657 })).room s m #[.ref (a 0), .int (L0 1)] below meth c dC dI cy a A (qV dC dI cy a A below #[.ref (a 0), .int (L0 1)] s) 2 (x_succeed k 0) (fun L => [(0, .ref (a 0)), (1, .int (L 1))]) 0 (fun L => [])) ∧ (bT p l e (headSpec w_x_succeed ({ frames := 1365, cells := 0, slots := 0, locals := 36657 })).room s m #[.ref (a 0), .int (L0 1)] below meth c dC dI cy a A (qV dC dI cy a A below #[.ref (a 0), .int (L0 1)] s) 2 (x_succeed k 1) (fun L => [(0, .ref (a 0)), (1, .int (L 1))]) 14 (fun L => [])) ∧ (bT p l e (headSpec w_x_succeed ({ frames := 1365, cells := 0, slots := 0, locals := 36657 })).room s m #[.ref (a 0), .int (L0 1)] below meth c dC dI cy a A (qV dC dI cy a A below #[.ref (a 0), .int (L0 1)] s) 2 (x_succeed k 2) (fun L => [(0, .ref (a 0)), (1, .int (L 1))]) 24 (fun L => [])) ∧ (bT p l e (headSpec w_x_succeed ({ frames := 1365, cells := 0, slots := 0, locals := 36657 })).room s m #[.ref (a 0), .int (L0 1)] below meth c dC dI cy a A (qV dC dI cy a A below #[.ref (a 0), .int (L0 1)] s) 2 (x_succeed k 3) (fun L => [(0, .ref (a 0)), (1, .int (L 1))]) 42 (fun L => [])) := by
    intro k
    induction k with
    | zero => exact ⟨fun L σ r h => (by cases h), fun L σ r h => (by cases h), fun L σ r h => (by cases h), fun L σ r h => (by cases h)⟩
    | succ k ih =>
      refine ⟨?_, ?_, ?_, ?_⟩
      · intro L σ r h H locs ls hP hD hS hl
        rw [x_succeed] at h
        refine lv_aload_n hx hb dX12_succeed_0 rfl (lv_at hl 0 rfl) ?_
        refine ng_63 hx hb hts in_x_succeed hown hK hP (hts _ (List.mem_cons_of_mem _ (List.mem_append_left _ (List.mem_append_left _ (List.mem_of_getElem? (i := 0) rfl))))) dX12_succeed_1 ?_
        refine lv_if_ne (tgt := 14) hx hb dX12_succeed_4 (by decide) (fun c1 => ?_) (fun c1 => ?_)
        · rw [if_neg c1] at h
          exact ih.2.1 L σ r h H locs ls hP hD hS (lv_sub hl [0, 1] rfl)
        · rw [if_pos c1] at h
          refine lv_aload_n hx hb dX12_succeed_7 rfl (lv_at hl 0 rfl) ?_
          refine lv_bipush (v := 10) hx hb dX12_succeed_8 (by decide) ?_
          obtain ⟨r2, hc2, h⟩ := ob_ex h
          refine nc_Vv (As := [.int 10]) (rest := []) ⟨hx, hb, hml, hown, hts⟩ (c_x_fail l dC dI cy a k (upd (fun _ => 0) 1 10) σ r2 hc2 H.size) (cwV 1 hts g_x_succeed_fail_369 rfl rfl rfl hd_x_fail ⟨Nat.le_of_ble_eq_true rfl, Nat.le_of_ble_eq_true rfl⟩) hK hG hA hP hD hS rfl hl.1 rfl (Nat.le_of_ble_eq_true rfl) dX12_succeed_10 ⟨Nat.le_refl _, Nat.le_refl _⟩ (fun H locs hP hD hS => ?_)
          cases h
          exact W.vret hx hb hr (fun t ht hW => ⟨⟨(), rfl, trivial, by rw [ht]; exact hP, va_K.moved hW.alike hK, hD⟩, hS.F ht⟩) hS.2.2 dX12_succeed_13
      · intro L σ r h H locs ls hP hD hS hl
        rw [x_succeed] at h
        refine lv_aload_n hx hb dX12_succeed_14 rfl (lv_at hl 0 rfl) ?_
        refine lv_dup hx hb dX12_succeed_15 rfl ?_
        refine ng_63 hx hb hts in_x_succeed hown hK hP (hts _ (List.mem_cons_of_mem _ (List.mem_append_left _ (List.mem_append_left _ (List.mem_of_getElem? (i := 0) rfl))))) dX12_succeed_16 ?_
        refine lv_iconst (v := 1) hx hb dX12_succeed_19 (by decide) ?_
        refine lv_isub hx hb dX12_succeed_20 ?_
        refine np_63 hx hb hts in_x_succeed hown hK hP hD hS (hts _ (List.mem_cons_of_mem _ (List.mem_append_left _ (List.mem_append_left _ (List.mem_of_getElem? (i := 0) rfl))))) dX12_succeed_21 (fun H locs hP hD hS => ?_)
        exact ih.2.2.1 L (upd σ.1 63 ((((σ.1 63)) - 1)), σ.2.1, σ.2.2) r h H locs ls hP hD hS (lv_sub hl [0, 1] rfl)
      · intro L σ r h H locs ls hP hD hS hl
        rw [x_succeed] at h
        refine lv_aload_n hx hb dX12_succeed_24 rfl (lv_at hl 0 rfl) ?_
        refine lv_dup hx hb dX12_succeed_25 rfl ?_
        refine ng_65 hx hb hts in_x_succeed hown hK hP (hts _ (List.mem_cons_of_mem _ (List.mem_append_left _ (List.mem_append_left _ (List.mem_of_getElem? (i := 5) rfl))))) dX12_succeed_26 ?_
        refine lv_aload_n hx hb dX12_succeed_29 rfl (lv_at hl 0 rfl) ?_
        refine ng_62 hx hb hts in_x_succeed hown hK hP (hts _ (List.mem_cons_of_mem _ (List.mem_append_left _ (List.mem_append_left _ (List.mem_of_getElem? (i := 6) rfl))))) dX12_succeed_30 ?_
        refine lv_aload_n hx hb dX12_succeed_33 rfl (lv_at hl 0 rfl) ?_
        refine ng_63 hx hb hts in_x_succeed hown hK hP (hts _ (List.mem_cons_of_mem _ (List.mem_append_left _ (List.mem_append_left _ (List.mem_of_getElem? (i := 0) rfl))))) dX12_succeed_34 ?_
        obtain ⟨q1, h⟩ := nb_ite1 h
        refine nl_32 hx hb hK hP q1 dX12_succeed_37 ?_
        refine lv_isub hx hb dX12_succeed_38 ?_
        refine np_65 hx hb hts in_x_succeed hown hK hP hD hS (hts _ (List.mem_cons_of_mem _ (List.mem_append_left _ (List.mem_append_left _ (List.mem_of_getElem? (i := 5) rfl))))) dX12_succeed_39 (fun H locs hP hD hS => ?_)
        exact ih.2.2.2 L (upd σ.1 65 ((((σ.1 65)) - ((σ.2.2 32 ((σ.1 63)).toNatClampNeg)))), σ.2.1, σ.2.2) r h H locs ls hP hD hS (lv_sub hl [0, 1] rfl)
      · intro L σ r h H locs ls hP hD hS hl
        rw [x_succeed] at h
        refine lv_aload_n hx hb dX12_succeed_42 rfl (lv_at hl 0 rfl) ?_
        refine lv_iload_n hx hb dX12_succeed_43 rfl (lv_at hl 1 rfl) ?_
        obtain ⟨r1, hc1, h⟩ := ob_ex h
        refine nc_Vv (As := [.int (L 1)]) (rest := []) ⟨hx, hb, hml, hown, hts⟩ (c_x_pass l dC dI cy a k (upd (fun _ => 0) 1 ((L 1))) σ r1 hc1 H.size) (cwV 1 hts g_x_succeed_pass_926 rfl rfl rfl hd_x_pass ⟨Nat.le_of_ble_eq_true rfl, Nat.le_of_ble_eq_true rfl⟩) hK hG hA hP hD hS rfl hl.1 rfl (Nat.le_of_ble_eq_true rfl) dX12_succeed_44 ⟨Nat.le_refl _, Nat.le_refl _⟩ (fun H locs hP hD hS => ?_)
        cases h
        exact W.vret hx hb hr (fun t ht hW => ⟨⟨(), rfl, trivial, by rw [ht]; exact hP, va_K.moved hW.alike hK, hD⟩, hS.F ht⟩) hS.2.2 dX12_succeed_47
  exact (blk k0).1 L0 σ0 r0 h0 s.heap [] ls hP hD hS hl
/-! without -/
def x_without : Nat → Nat → (Nat → Int32) → MS → Option (Int32 × MS)
  | 0, _, _, _ => none
  | k + 1, 0, L, σ => if ¬ (((((L 1)) + 1)) < 0 ∨ 1740000 ≤ ((((L 1)) + 1)).toNatClampNeg) then (if ¬ (((L 1)) < 0 ∨ 1740000 ≤ ((L 1)).toNatClampNeg) then (if ((σ.2.2 28 ((L 1)).toNatClampNeg)) = 4 then (x_without k 1 (upd (upd (upd L 3 ((σ.2.2 28 ((((L 1)) + 1)).toNatClampNeg))) 4 0) 5 0) σ) else (x_without k 6 (upd L 3 ((σ.2.2 28 ((((L 1)) + 1)).toNatClampNeg))) σ)) else none) else none
  | k + 1, 1, L, σ => if ((L 3)) ≤ ((L 5)) then (x_without k 5 L σ) else (if ¬ (((((((L 1)) + 4)) + ((L 5)))) < 0 ∨ 1740000 ≤ ((((((L 1)) + 4)) + ((L 5)))).toNatClampNeg) then (if ¬ (((L 4)) < 0 ∨ 8200 ≤ ((L 4)).toNatClampNeg) then (x_without k 2 L (σ.1, σ.2.1, updG σ.2.2 51 (upd (σ.2.2 51) ((L 4)).toNatClampNeg ((σ.2.2 28 ((((((L 1)) + 4)) + ((L 5)))).toNatClampNeg))))) else none) else none)
  | k + 1, 2, L, σ => if ((L 5)) = ((L 2)) then (x_without k 4 (upd (upd L 100 0) 101 ((L 4))) σ) else (x_without k 3 (upd L 100 ((L 4))) σ)
  | k + 1, 3, L, σ => x_without k 4 (upd (upd L 100 1) 101 ((L 100))) σ
  | k + 1, 4, L, σ => x_without k 1 (upd (upd L 4 ((((L 101)) + ((L 100))))) 5 (((L 5)) + 1)) σ
  | k + 1, 5, L, σ => ob (x_stringOf__51 k 0 (upd (upd (fun _ => 0) 2 0) 3 ((((L 3)) - 1))) σ) (fun r1 => some (r1.1, r1.2))
  | k + 1, 6, L, σ => x_without k 7 (upd (upd L 4 ((σ.1 59))) 5 0) σ
  | k + 1, 7, L, σ => if ((L 3)) ≤ ((L 5)) then (x_without k 9 L σ) else (if ((L 5)) = ((L 2)) then (x_without k 8 L σ) else (if ¬ (((((((L 1)) + 4)) + ((L 5)))) < 0 ∨ 1740000 ≤ ((((((L 1)) + 4)) + ((L 5)))).toNatClampNeg) then (ob (x_push k 0 (upd (fun _ => 0) 1 ((σ.2.2 28 ((((((L 1)) + 4)) + ((L 5)))).toNatClampNeg))) σ) (fun r4 => x_without k 8 L r4.2)) else none))
  | k + 1, 8, L, σ => x_without k 7 (upd L 5 (((L 5)) + 1)) σ
  | k + 1, 9, L, σ => if ¬ (((L 1)) < 0 ∨ 1740000 ≤ ((L 1)).toNatClampNeg) then (if ((σ.2.2 28 ((L 1)).toNatClampNeg)) = 6 then (ob (x_setOf k 0 (upd (fun _ => 0) 1 ((L 4))) σ) (fun r3 => x_without k 11 (upd L 100 r3.1) r3.2)) else (x_without k 10 L σ)) else none
  | k + 1, 10, L, σ => ob (x_tupleOf k 0 (upd (fun _ => 0) 1 ((L 4))) σ) (fun r1 => x_without k 11 (upd L 100 r1.1) r1.2)
  | k + 1, 11, L, σ => some ((L 100), σ)
  | _ + 1, _ + 12, _, _ => none
def o_x_without : List Cond := [.fieldLink RX12 372 "SetHouseModel" "heap" "[I", .fieldLink RX12 756 "SetHouseModel" "bytes" "[I", .methodLink RX12 597 yX12_stringOf, .instanceMethod yX12_stringOf, .selects RX12 yX12_stringOf yX12_stringOf, .initialized RX12, .fieldLink RX12 385 "SetHouseModel" "top" "I", .methodLink RX12 594 yX12_push, .instanceMethod yX12_push, .selects RX12 yX12_push yX12_push, .methodLink RX12 678 yX12_setOf, .instanceMethod yX12_setOf, .selects RX12 yX12_setOf yX12_setOf, .methodLink RX12 675 yX12_tupleOf, .instanceMethod yX12_tupleOf, .selects RX12 yX12_tupleOf yX12_tupleOf]
theorem o_x_without_good : o_x_without.all goodWord = true := by decide +kernel
def p_x_without : List Cond := o_x_without ++ ((.code yX12_stringOf cX12_stringOf 6 (some .int) :: p_x_stringOf__51) ++ ((.code yX12_push cX12_push 2 none :: p_x_push) ++ ((.code yX12_setOf cX12_setOf 5 (some .int) :: p_x_setOf) ++ ((.code yX12_tupleOf cX12_tupleOf 5 (some .int) :: p_x_tupleOf) ++ []))))
theorem p_x_without_good : p_x_without.all goodWord = true := nb_all2 o_x_without_good (nb_all2 (nb_allc (by decide +kernel) p_x_stringOf__51_good) (nb_all2 (nb_allc (by decide +kernel) p_x_push_good) (nb_all2 (nb_allc (by decide +kernel) p_x_setOf_good) (nb_all2 (nb_allc (by decide +kernel) p_x_tupleOf_good) rfl))))
def w_x_without : List Cond := .code yX12_without cX12_without 6 (some .int) :: (p_x_without ++ fM)
theorem w_x_without_good : w_x_without.all goodWord = true := nb_allc (by decide +kernel) (nb_all2 p_x_without_good fM_good)
theorem in_x_without : ∀ w ∈ wsX120, w ∈ w_x_without := fun _ h => List.mem_cons_of_mem _ (List.mem_append_right _ h)
theorem hd_x_without : yX12_without.cls = RX12 ∧ yX12_without.cls ≠ "java/lang/invoke/MethodHandle" ∧ yX12_without.cls ≠ "java/lang/invoke/VarHandle" ∧ (parseMethodDescriptor yX12_without.desc).map (fun d => d.parameters.length) = some 2 := by decide +kernel
theorem gg_x_without_push : GoodIn w_x_without w_x_push := goodIn_sub (fun w h => (List.mem_cons.mp h).elim (fun e => (List.mem_cons_of_mem _ (List.mem_append_left _ (List.mem_append_right _ (List.mem_append_right _ (List.mem_append_left _ (List.mem_cons.mpr (Or.inl e)))))))) (fun h => (List.mem_append.mp h).elim (fun h => (List.mem_cons_of_mem _ (List.mem_append_left _ (List.mem_append_right _ (List.mem_append_right _ (List.mem_append_left _ (List.mem_cons_of_mem _ h))))))) (fun h => List.mem_cons_of_mem _ (List.mem_append_right _ h)))) w_x_push_good
theorem g_x_without_push_594 : GoodIn w_x_without (wsV RX12 594 RX12 yX12_push w_x_push) := goodIn_app (nb_g4 (List.mem_cons_of_mem _ (List.mem_append_left _ (List.mem_append_left _ (List.mem_of_getElem? (i := 7) rfl)))) (List.mem_cons_of_mem _ (List.mem_append_left _ (List.mem_append_left _ (List.mem_of_getElem? (i := 8) rfl)))) (List.mem_cons_of_mem _ (List.mem_append_left _ (List.mem_append_left _ (List.mem_of_getElem? (i := 9) rfl)))) (List.mem_cons_of_mem _ (List.mem_append_left _ (List.mem_append_left _ (List.mem_of_getElem? (i := 5) rfl)))) (by decide +kernel)) gg_x_without_push
theorem gg_x_without_setOf : GoodIn w_x_without w_x_setOf := goodIn_sub (fun w h => (List.mem_cons.mp h).elim (fun e => (List.mem_cons_of_mem _ (List.mem_append_left _ (List.mem_append_right _ (List.mem_append_right _ (List.mem_append_right _ (List.mem_append_left _ (List.mem_cons.mpr (Or.inl e))))))))) (fun h => (List.mem_append.mp h).elim (fun h => (List.mem_cons_of_mem _ (List.mem_append_left _ (List.mem_append_right _ (List.mem_append_right _ (List.mem_append_right _ (List.mem_append_left _ (List.mem_cons_of_mem _ h)))))))) (fun h => List.mem_cons_of_mem _ (List.mem_append_right _ h)))) w_x_setOf_good
theorem g_x_without_setOf_678 : GoodIn w_x_without (wsV RX12 678 RX12 yX12_setOf w_x_setOf) := goodIn_app (nb_g4 (List.mem_cons_of_mem _ (List.mem_append_left _ (List.mem_append_left _ (List.mem_of_getElem? (i := 10) rfl)))) (List.mem_cons_of_mem _ (List.mem_append_left _ (List.mem_append_left _ (List.mem_of_getElem? (i := 11) rfl)))) (List.mem_cons_of_mem _ (List.mem_append_left _ (List.mem_append_left _ (List.mem_of_getElem? (i := 12) rfl)))) (List.mem_cons_of_mem _ (List.mem_append_left _ (List.mem_append_left _ (List.mem_of_getElem? (i := 5) rfl)))) (by decide +kernel)) gg_x_without_setOf
theorem gg_x_without_stringOf__51 : GoodIn w_x_without w_x_stringOf__51 := goodIn_sub (fun w h => (List.mem_cons.mp h).elim (fun e => (List.mem_cons_of_mem _ (List.mem_append_left _ (List.mem_append_right _ (List.mem_append_left _ (List.mem_cons.mpr (Or.inl e))))))) (fun h => (List.mem_append.mp h).elim (fun h => (List.mem_cons_of_mem _ (List.mem_append_left _ (List.mem_append_right _ (List.mem_append_left _ (List.mem_cons_of_mem _ h)))))) (fun h => List.mem_cons_of_mem _ (List.mem_append_right _ h)))) w_x_stringOf__51_good
theorem g_x_without_stringOf__51_597 : GoodIn w_x_without (wsV RX12 597 RX12 yX12_stringOf w_x_stringOf__51) := goodIn_app (nb_g4 (List.mem_cons_of_mem _ (List.mem_append_left _ (List.mem_append_left _ (List.mem_of_getElem? (i := 2) rfl)))) (List.mem_cons_of_mem _ (List.mem_append_left _ (List.mem_append_left _ (List.mem_of_getElem? (i := 3) rfl)))) (List.mem_cons_of_mem _ (List.mem_append_left _ (List.mem_append_left _ (List.mem_of_getElem? (i := 4) rfl)))) (List.mem_cons_of_mem _ (List.mem_append_left _ (List.mem_append_left _ (List.mem_of_getElem? (i := 5) rfl)))) (by decide +kernel)) gg_x_without_stringOf__51
theorem gg_x_without_tupleOf : GoodIn w_x_without w_x_tupleOf := goodIn_sub (fun w h => (List.mem_cons.mp h).elim (fun e => (List.mem_cons_of_mem _ (List.mem_append_left _ (List.mem_append_right _ (List.mem_append_right _ (List.mem_append_right _ (List.mem_append_right _ (List.mem_append_left _ (List.mem_cons.mpr (Or.inl e)))))))))) (fun h => (List.mem_append.mp h).elim (fun h => (List.mem_cons_of_mem _ (List.mem_append_left _ (List.mem_append_right _ (List.mem_append_right _ (List.mem_append_right _ (List.mem_append_right _ (List.mem_append_left _ (List.mem_cons_of_mem _ h))))))))) (fun h => List.mem_cons_of_mem _ (List.mem_append_right _ h)))) w_x_tupleOf_good
theorem g_x_without_tupleOf_675 : GoodIn w_x_without (wsV RX12 675 RX12 yX12_tupleOf w_x_tupleOf) := goodIn_app (nb_g4 (List.mem_cons_of_mem _ (List.mem_append_left _ (List.mem_append_left _ (List.mem_of_getElem? (i := 13) rfl)))) (List.mem_cons_of_mem _ (List.mem_append_left _ (List.mem_append_left _ (List.mem_of_getElem? (i := 14) rfl)))) (List.mem_cons_of_mem _ (List.mem_append_left _ (List.mem_append_left _ (List.mem_of_getElem? (i := 15) rfl)))) (List.mem_cons_of_mem _ (List.mem_append_left _ (List.mem_append_left _ (List.mem_of_getElem? (i := 5) rfl)))) (by decide +kernel)) gg_x_without_tupleOf
set_option maxHeartbeats 40000000 in
set_option maxRecDepth 100000 in
theorem c_x_without (l : Launch) (dC : Nat → ClassId) (dI : Nat → Nat → Nat) (cy : Nat → ClassId) (a : Nat → Nat) (k0 : Nat) (L0 : Nat → Int32) (σ0 : MS) (r0 : Int32 × MS) (h0 : x_without k0 0 L0 σ0 = some r0) (sz : Nat) : Met l yX12_without w_x_without ({ frames := 46, cells := 0, slots := 0, locals := 1271 }) (va_Pc [.ref (a 0), .int (L0 1), .int (L0 2)] (nIn (dC, dI) cy sz (vM cy a σ0))) (va_Qi (fun (z : Int32) (_ : Unit) => z = r0.1) (fun _ t => nOut (dC, dI) cy (va_A (vM cy a σ0) sz) (vM cy a r0.2) t) (va_A (vM cy a σ0) sz)) 0 0 (va_A (vM cy a σ0) sz) := by
  refine Met.ofW (cc := cX12_without) (maxL := 6) (ret := (some .int)) (by decide) rfl ?_
  intro p e s m args below meth c s₁ B hml hv
  obtain ⟨rfl, hsz, hP, hK, hD0, hG⟩ := hv
  have hx := B.exec
  have hb := B.bytes
  have hr := B.returns
  have hts := atoms_spec (ws := w_x_without) B.pre
  have hown : s.vm.findClass RX12 = some m.cls := findClass_of_methodNamed B.named
  have hlocks := B.notSynchronized
  subst hsz
  have hD := hD0.self (sz := s.heap.size)
  generalize hAe : va_A (vM cy a σ0) s.heap.size = A at hD ⊢
  have hA : ∀ q : Nat, s.heap.size ≤ q → A q := fun q h => by rw [← hAe]; exact Or.inr h
  have hS : va_S A s.heap s.heap [] := va_S.rf
  have hl := lv_entry ([.ref (a 0), .int (L0 1), .int (L0 2)]) (n := 6) (Nat.le_of_ble_eq_true rfl)
  rw [lg_entry_eq]
  generalize (lg_sl ([.ref (a 0), .int (L0 1), .int (L0 2)]) ++ List.replicate (6 - (lg_sl ([.ref (a 0), .int (L0 1), .int (L0 2)])).length) Slot.unset).toArray = ls at hl ⊢
  have hl : lv_has ls 6 [(0, .ref (a 0)), (1, .int (L0 1)), (2, .int (L0 2))] := hl
  have blk : ∀ k : Nat, (bT p l e (headSpec w_x_without ({ frames := 46, cells := 0, slots := 0, locals := 1271 })).room s m #[.ref (a 0), .int (L0 1), .int (L0 2)] below meth c dC dI cy a A (qI dC dI cy a A below #[.ref (a 0), .int (L0 1), .int (L0 2)] s) 6 (x_without k 0) (fun L => [(0, .ref (a 0)), (1, .int (L 1)), (2, .int (L 2))]) 0 (fun L => [])) ∧ (bT p l e (headSpec w_x_without ({ frames := 46, cells := 0, slots := 0, locals := 1271 })).room s m #[.ref (a 0), .int (L0 1), .int (L0 2)] below meth c dC dI cy a A (qI dC dI cy a A below #[.ref (a 0), .int (L0 1), .int (L0 2)] s) 6 (x_without k 1) (fun L => [(0, .ref (a 0)), (1, .int (L 1)), (2, .int (L 2)), (3, .int (L 3)), (4, .int (L 4)), (5, .int (L 5))]) 25 (fun L => [])) ∧ (bT p l e (headSpec w_x_without ({ frames := 46, cells := 0, slots := 0, locals := 1271 })).room s m #[.ref (a 0), .int (L0 1), .int (L0 2)] below meth c dC dI cy a A (qI dC dI cy a A below #[.ref (a 0), .int (L0 1), .int (L0 2)] s) 6 (x_without k 2) (fun L => [(0, .ref (a 0)), (1, .int (L 1)), (2, .int (L 2)), (3, .int (L 3)), (4, .int (L 4)), (5, .int (L 5))]) 49 (fun L => [])) ∧ (bT p l e (headSpec w_x_without ({ frames := 46, cells := 0, slots := 0, locals := 1271 })).room s m #[.ref (a 0), .int (L0 1), .int (L0 2)] below meth c dC dI cy a A (qI dC dI cy a A below #[.ref (a 0), .int (L0 1), .int (L0 2)] s) 6 (x_without k 3) (fun L => [(0, .ref (a 0)), (1, .int (L 1)), (2, .int (L 2)), (3, .int (L 3)), (4, .int (L 4)), (5, .int (L 5))]) 61 (fun L => [.int (L 100)])) ∧ (bT p l e (headSpec w_x_without ({ frames := 46, cells := 0, slots := 0, locals := 1271 })).room s m #[.ref (a 0), .int (L0 1), .int (L0 2)] below meth c dC dI cy a A (qI dC dI cy a A below #[.ref (a 0), .int (L0 1), .int (L0 2)] s) 6 (x_without k 4) (fun L => [(0, .ref (a 0)), (1, .int (L 1)), (2, .int (L 2)), (3, .int (L 3)), (4, .int (L 4)), (5, .int (L 5))]) 62 (fun L => [.int (L 100), .int (L 101)])) ∧ (bT p l e (headSpec w_x_without ({ frames := 46, cells := 0, slots := 0, locals := 1271 })).room s m #[.ref (a 0), .int (L0 1), .int (L0 2)] below meth c dC dI cy a A (qI dC dI cy a A below #[.ref (a 0), .int (L0 1), .int (L0 2)] s) 6 (x_without k 5) (fun L => [(0, .ref (a 0)), (1, .int (L 1)), (2, .int (L 2)), (3, .int (L 3)), (4, .int (L 4)), (5, .int (L 5))]) 71 (fun L => [])) ∧ (bT p l e (headSpec w_x_without ({ frames := 46, cells := 0, slots := 0, locals := 1271 })).room s m #[.ref (a 0), .int (L0 1), .int (L0 2)] below meth c dC dI cy a A (qI dC dI cy a A below #[.ref (a 0), .int (L0 1), .int (L0 2)] s) 6 (x_without k 6) (fun L => [(0, .ref (a 0)), (1, .int (L 1)), (2, .int (L 2)), (3, .int (L 3))]) 84 (fun L => [])) ∧ (bT p l e (headSpec w_x_without ({ frames := 46, cells := 0, slots := 0, locals := 1271 })).room s m #[.ref (a 0), .int (L0 1), .int (L0 2)] below meth c dC dI cy a A (qI dC dI cy a A below #[.ref (a 0), .int (L0 1), .int (L0 2)] s) 6 (x_without k 7) (fun L => [(0, .ref (a 0)), (1, .int (L 1)), (2, .int (L 2)), (3, .int (L 3)), (4, .int (L 4)), (5, .int (L 5))]) 93 (fun L => [])) ∧ (bT p l e (headSpec w_x_without ({ frames := 46, cells := 0, slots := 0, locals := 1271 })).room s m #[.ref (a 0), .int (L0 1), .int (L0 2)] below meth c dC dI cy a A (qI dC dI cy a A below #[.ref (a 0), .int (L0 1), .int (L0 2)] s) 6 (x_without k 8) (fun L => [(0, .ref (a 0)), (1, .int (L 1)), (2, .int (L 2)), (3, .int (L 3)), (4, .int (L 4)), (5, .int (L 5))]) 120 (fun L => [])) ∧ (bT p l e (headSpec w_x_without ({ frames := 46, cells := 0, slots := 0, locals := 1271 })).room s m #[.ref (a 0), .int (L0 1), .int (L0 2)] below meth c dC dI cy a A (qI dC dI cy a A below #[.ref (a 0), .int (L0 1), .int (L0 2)] s) 6 (x_without k 9) (fun L => [(0, .ref (a 0)), (1, .int (L 1)), (2, .int (L 2)), (3, .int (L 3)), (4, .int (L 4)), (5, .int (L 5))]) 126 (fun L => [])) ∧ (bT p l e (headSpec w_x_without ({ frames := 46, cells := 0, slots := 0, locals := 1271 })).room s m #[.ref (a 0), .int (L0 1), .int (L0 2)] below meth c dC dI cy a A (qI dC dI cy a A below #[.ref (a 0), .int (L0 1), .int (L0 2)] s) 6 (x_without k 10) (fun L => [(0, .ref (a 0)), (1, .int (L 1)), (2, .int (L 2)), (3, .int (L 3)), (4, .int (L 4)), (5, .int (L 5))]) 146 (fun L => [])) ∧ (bT p l e (headSpec w_x_without ({ frames := 46, cells := 0, slots := 0, locals := 1271 })).room s m #[.ref (a 0), .int (L0 1), .int (L0 2)] below meth c dC dI cy a A (qI dC dI cy a A below #[.ref (a 0), .int (L0 1), .int (L0 2)] s) 6 (x_without k 11) (fun L => [(0, .ref (a 0)), (1, .int (L 1)), (2, .int (L 2)), (3, .int (L 3)), (4, .int (L 4)), (5, .int (L 5))]) 152 (fun L => [.int (L 100)])) := by
    intro k
    induction k with
    | zero => exact ⟨fun L σ r h => (by cases h), fun L σ r h => (by cases h), fun L σ r h => (by cases h), fun L σ r h => (by cases h), fun L σ r h => (by cases h), fun L σ r h => (by cases h), fun L σ r h => (by cases h), fun L σ r h => (by cases h), fun L σ r h => (by cases h), fun L σ r h => (by cases h), fun L σ r h => (by cases h), fun L σ r h => (by cases h)⟩
    | succ k ih =>
      refine ⟨?_, ?_, ?_, ?_, ?_, ?_, ?_, ?_, ?_, ?_, ?_, ?_⟩
      · intro L σ r h H locs ls hP hD hS hl
        rw [x_without] at h
        refine lv_aload_n hx hb dX12_without_0 rfl (lv_at hl 0 rfl) ?_
        refine ng_53 hx hb hts in_x_without hown hK hP (hts _ (List.mem_cons_of_mem _ (List.mem_append_left _ (List.mem_append_left _ (List.mem_of_getElem? (i := 0) rfl))))) dX12_without_1 ?_
        refine lv_iload_n hx hb dX12_without_4 rfl (lv_at hl 1 rfl) ?_
        refine lv_iconst (v := 1) hx hb dX12_without_5 (by decide) ?_
        refine lv_iadd hx hb dX12_without_6 ?_
        obtain ⟨q1, h⟩ := nb_ite1 h
        refine nl_28 hx hb hK hP q1 dX12_without_7 ?_
        refine lv_istore_n (lv' := [(3, .int (σ.2.2 28 ((((L 1)) + 1)).toNatClampNeg)), (0, .ref (a 0)), (1, .int (L 1)), (2, .int (L 2))]) hx hb dX12_without_8 rfl hl (by decide) rfl (fun ls hl => ?_)
        refine lv_aload_n hx hb dX12_without_9 rfl (lv_at hl 1 rfl) ?_
        refine ng_53 hx hb hts in_x_without hown hK hP (hts _ (List.mem_cons_of_mem _ (List.mem_append_left _ (List.mem_append_left _ (List.mem_of_getElem? (i := 0) rfl))))) dX12_without_10 ?_
        refine lv_iload_n hx hb dX12_without_13 rfl (lv_at hl 2 rfl) ?_
        obtain ⟨q2, h⟩ := nb_ite1 h
        refine nl_28 hx hb hK hP q2 dX12_without_14 ?_
        refine lv_iconst (v := 4) hx hb dX12_without_15 (by decide) ?_
        refine lv_icmp_ne (tgt := 84) hx hb dX12_without_16 (by decide) (fun c3 => ?_) (fun c3 => ?_)
        · rw [if_neg c3] at h
          exact ih.2.2.2.2.2.2.1 (upd L 3 ((σ.2.2 28 ((((L 1)) + 1)).toNatClampNeg))) σ r h H locs ls hP hD hS (lv_sub hl [1, 2, 3, 0] rfl)
        · rw [if_pos c3] at h
          refine lv_iconst (v := 0) hx hb dX12_without_19 (by decide) ?_
          refine lv_istore (lv' := [(4, .int 0), (3, .int (σ.2.2 28 ((((L 1)) + 1)).toNatClampNeg)), (0, .ref (a 0)), (1, .int (L 1)), (2, .int (L 2))]) hx hb dX12_without_20 hl (by decide) rfl (fun ls hl => ?_)
          refine lv_iconst (v := 0) hx hb dX12_without_22 (by decide) ?_
          refine lv_istore (lv' := [(5, .int 0), (4, .int 0), (3, .int (σ.2.2 28 ((((L 1)) + 1)).toNatClampNeg)), (0, .ref (a 0)), (1, .int (L 1)), (2, .int (L 2))]) hx hb dX12_without_23 hl (by decide) rfl (fun ls hl => ?_)
          exact ih.2.1 (upd (upd (upd L 3 ((σ.2.2 28 ((((L 1)) + 1)).toNatClampNeg))) 4 0) 5 0) σ r h H locs ls hP hD hS (lv_sub hl [3, 4, 5, 2, 1, 0] rfl)
      · intro L σ r h H locs ls hP hD hS hl
        rw [x_without] at h
        refine lv_iload hx hb dX12_without_25 (lv_at hl 5 rfl) ?_
        refine lv_iload_n hx hb dX12_without_27 rfl (lv_at hl 3 rfl) ?_
        refine lv_icmp_ge (tgt := 71) hx hb dX12_without_28 (by decide) (fun c1 => ?_) (fun c1 => ?_)
        · rw [if_pos c1] at h
          exact ih.2.2.2.2.2.1 L σ r h H locs ls hP hD hS (lv_sub hl [0, 1, 2, 3, 4, 5] rfl)
        · rw [if_neg c1] at h
          refine lv_aload_n hx hb dX12_without_31 rfl (lv_at hl 0 rfl) ?_
          refine ng_99 hx hb hts in_x_without hown hK hP (hts _ (List.mem_cons_of_mem _ (List.mem_append_left _ (List.mem_append_left _ (List.mem_of_getElem? (i := 1) rfl))))) dX12_without_32 ?_
          refine lv_iload hx hb dX12_without_35 (lv_at hl 4 rfl) ?_
          refine lv_aload_n hx hb dX12_without_37 rfl (lv_at hl 0 rfl) ?_
          refine ng_53 hx hb hts in_x_without hown hK hP (hts _ (List.mem_cons_of_mem _ (List.mem_append_left _ (List.mem_append_left _ (List.mem_of_getElem? (i := 0) rfl))))) dX12_without_38 ?_
          refine lv_iload_n hx hb dX12_without_41 rfl (lv_at hl 1 rfl) ?_
          refine lv_iconst (v := 4) hx hb dX12_without_42 (by decide) ?_
          refine lv_iadd hx hb dX12_without_43 ?_
          refine lv_iload hx hb dX12_without_44 (lv_at hl 5 rfl) ?_
          refine lv_iadd hx hb dX12_without_46 ?_
          obtain ⟨q2, h⟩ := nb_ite1 h
          refine nl_28 hx hb hK hP q2 dX12_without_47 ?_
          obtain ⟨q3, h⟩ := nb_ite1 h
          refine ns_51 hx hb hK hP hD hS q3 dX12_without_48 (fun H locs hP hD hS => ?_)
          exact ih.2.2.1 L (σ.1, σ.2.1, updG σ.2.2 51 (upd (σ.2.2 51) ((L 4)).toNatClampNeg ((σ.2.2 28 ((((((L 1)) + 4)) + ((L 5)))).toNatClampNeg)))) r h H locs ls hP hD hS (lv_sub hl [0, 1, 2, 3, 4, 5] rfl)
      · intro L σ r h H locs ls hP hD hS hl
        rw [x_without] at h
        refine lv_iload hx hb dX12_without_49 (lv_at hl 4 rfl) ?_
        refine lv_iload hx hb dX12_without_51 (lv_at hl 5 rfl) ?_
        refine lv_iload_n hx hb dX12_without_53 rfl (lv_at hl 2 rfl) ?_
        refine lv_icmp_ne (tgt := 61) hx hb dX12_without_54 (by decide) (fun c1 => ?_) (fun c1 => ?_)
        · rw [if_neg c1] at h
          exact ih.2.2.2.1 (upd L 100 ((L 4))) σ r h H locs ls hP hD hS (lv_sub hl [0, 1, 2, 3, 4, 5] rfl)
        · rw [if_pos c1] at h
          refine lv_iconst (v := 0) hx hb dX12_without_57 (by decide) ?_
          refine lv_goto (tgt := 62) hx hb dX12_without_58 (by decide) ?_
          exact ih.2.2.2.2.1 (upd (upd L 100 0) 101 ((L 4))) σ r h H locs ls hP hD hS (lv_sub hl [0, 1, 2, 3, 4, 5] rfl)
      · intro L σ r h H locs ls hP hD hS hl
        rw [x_without] at h
        refine lv_iconst (v := 1) hx hb dX12_without_61 (by decide) ?_
        exact ih.2.2.2.2.1 (upd (upd L 100 1) 101 ((L 100))) σ r h H locs ls hP hD hS (lv_sub hl [0, 1, 2, 3, 4, 5] rfl)
      · intro L σ r h H locs ls hP hD hS hl
        rw [x_without] at h
        refine lv_iadd hx hb dX12_without_62 ?_
        refine lv_istore (lv' := [(4, .int (((L 101)) + ((L 100)))), (0, .ref (a 0)), (1, .int (L 1)), (2, .int (L 2)), (3, .int (L 3)), (5, .int (L 5))]) hx hb dX12_without_63 hl (by decide) rfl (fun ls hl => ?_)
        refine lv_iinc (v := ((L 5)) + 1) (lv' := [(5, .int (((L 5)) + 1)), (4, .int (((L 101)) + ((L 100)))), (0, .ref (a 0)), (1, .int (L 1)), (2, .int (L 2)), (3, .int (L 3))]) hx hb dX12_without_65 hl (k := 5) rfl rfl (by decide) rfl (fun ls hl => ?_)
        refine lv_goto (tgt := 25) hx hb dX12_without_68 (by decide) ?_
        exact ih.2.1 (upd (upd L 4 ((((L 101)) + ((L 100))))) 5 (((L 5)) + 1)) σ r h H locs ls hP hD hS (lv_sub hl [2, 3, 4, 5, 1, 0] rfl)
      · intro L σ r h H locs ls hP hD hS hl
        rw [x_without] at h
        refine lv_aload_n hx hb dX12_without_71 rfl (lv_at hl 0 rfl) ?_
        refine lv_aload_n hx hb dX12_without_72 rfl (lv_at hl 0 rfl) ?_
        refine ng_99 hx hb hts in_x_without hown hK hP (hts _ (List.mem_cons_of_mem _ (List.mem_append_left _ (List.mem_append_left _ (List.mem_of_getElem? (i := 1) rfl))))) dX12_without_73 ?_
        refine lv_iconst (v := 0) hx hb dX12_without_76 (by decide) ?_
        refine lv_iload_n hx hb dX12_without_77 rfl (lv_at hl 3 rfl) ?_
        refine lv_iconst (v := 1) hx hb dX12_without_78 (by decide) ?_
        refine lv_isub hx hb dX12_without_79 ?_
        obtain ⟨r1, hc1, h⟩ := ob_ex h
        refine nc_Vi (As := [.ref (a 51), .int 0, .int (((L 3)) - 1)]) (rest := []) ⟨hx, hb, hml, hown, hts⟩ (c_x_stringOf__51 l dC dI cy a k (upd (upd (fun _ => 0) 2 0) 3 ((((L 3)) - 1))) σ r1 hc1 H.size) (cwV 3 hts g_x_without_stringOf__51_597 rfl rfl rfl hd_x_stringOf__51 ⟨Nat.le_of_ble_eq_true rfl, Nat.le_of_ble_eq_true rfl⟩) hK hG hA hP hD hS rfl hl.1 rfl (Nat.le_of_ble_eq_true rfl) dX12_without_80 ⟨Nat.le_refl _, Nat.le_refl _⟩ (fun H locs hP hD hS => ?_)
        cases h
        exact W.iret (v := r1.1) hx hb hr (fun t ht hW => ⟨⟨r1.1, (), rfl, rfl, by rw [ht]; exact hP, va_K.moved hW.alike hK, hD⟩, hS.F ht⟩) hS.2.2 dX12_without_83
      · intro L σ r h H locs ls hP hD hS hl
        rw [x_without] at h
        refine lv_aload_n hx hb dX12_without_84 rfl (lv_at hl 0 rfl) ?_
        refine ng_59 hx hb hts in_x_without hown hK hP (hts _ (List.mem_cons_of_mem _ (List.mem_append_left _ (List.mem_append_left _ (List.mem_of_getElem? (i := 6) rfl))))) dX12_without_85 ?_
        refine lv_istore (lv' := [(4, .int (σ.1 59)), (0, .ref (a 0)), (1, .int (L 1)), (2, .int (L 2)), (3, .int (L 3))]) hx hb dX12_without_88 hl (by decide) rfl (fun ls hl => ?_)
        refine lv_iconst (v := 0) hx hb dX12_without_90 (by decide) ?_
        refine lv_istore (lv' := [(5, .int 0), (4, .int (σ.1 59)), (0, .ref (a 0)), (1, .int (L 1)), (2, .int (L 2)), (3, .int (L 3))]) hx hb dX12_without_91 hl (by decide) rfl (fun ls hl => ?_)
        exact ih.2.2.2.2.2.2.2.1 (upd (upd L 4 ((σ.1 59))) 5 0) σ r h H locs ls hP hD hS (lv_sub hl [2, 3, 4, 5, 1, 0] rfl)
      · intro L σ r h H locs ls hP hD hS hl
        rw [x_without] at h
        refine lv_iload hx hb dX12_without_93 (lv_at hl 5 rfl) ?_
        refine lv_iload_n hx hb dX12_without_95 rfl (lv_at hl 3 rfl) ?_
        refine lv_icmp_ge (tgt := 126) hx hb dX12_without_96 (by decide) (fun c1 => ?_) (fun c1 => ?_)
        · rw [if_pos c1] at h
          exact ih.2.2.2.2.2.2.2.2.2.1 L σ r h H locs ls hP hD hS (lv_sub hl [0, 1, 2, 3, 4, 5] rfl)
        · rw [if_neg c1] at h
          refine lv_iload hx hb dX12_without_99 (lv_at hl 5 rfl) ?_
          refine lv_iload_n hx hb dX12_without_101 rfl (lv_at hl 2 rfl) ?_
          refine lv_icmp_eq (tgt := 120) hx hb dX12_without_102 (by decide) (fun c2 => ?_) (fun c2 => ?_)
          · rw [if_pos c2] at h
            exact ih.2.2.2.2.2.2.2.2.1 L σ r h H locs ls hP hD hS (lv_sub hl [0, 1, 2, 3, 4, 5] rfl)
          · rw [if_neg c2] at h
            refine lv_aload_n hx hb dX12_without_105 rfl (lv_at hl 0 rfl) ?_
            refine lv_aload_n hx hb dX12_without_106 rfl (lv_at hl 0 rfl) ?_
            refine ng_53 hx hb hts in_x_without hown hK hP (hts _ (List.mem_cons_of_mem _ (List.mem_append_left _ (List.mem_append_left _ (List.mem_of_getElem? (i := 0) rfl))))) dX12_without_107 ?_
            refine lv_iload_n hx hb dX12_without_110 rfl (lv_at hl 1 rfl) ?_
            refine lv_iconst (v := 4) hx hb dX12_without_111 (by decide) ?_
            refine lv_iadd hx hb dX12_without_112 ?_
            refine lv_iload hx hb dX12_without_113 (lv_at hl 5 rfl) ?_
            refine lv_iadd hx hb dX12_without_115 ?_
            obtain ⟨q3, h⟩ := nb_ite1 h
            refine nl_28 hx hb hK hP q3 dX12_without_116 ?_
            obtain ⟨r4, hc4, h⟩ := ob_ex h
            refine nc_Vv (As := [.int (σ.2.2 28 ((((((L 1)) + 4)) + ((L 5)))).toNatClampNeg)]) (rest := []) ⟨hx, hb, hml, hown, hts⟩ (c_x_push l dC dI cy a k (upd (fun _ => 0) 1 ((σ.2.2 28 ((((((L 1)) + 4)) + ((L 5)))).toNatClampNeg))) σ r4 hc4 H.size) (cwV 1 hts g_x_without_push_594 rfl rfl rfl hd_x_push ⟨Nat.le_of_ble_eq_true rfl, Nat.le_of_ble_eq_true rfl⟩) hK hG hA hP hD hS rfl hl.1 rfl (Nat.le_of_ble_eq_true rfl) dX12_without_117 ⟨Nat.le_refl _, Nat.le_refl _⟩ (fun H locs hP hD hS => ?_)
            exact ih.2.2.2.2.2.2.2.2.1 L r4.2 r h H locs ls hP hD hS (lv_sub hl [0, 1, 2, 3, 4, 5] rfl)
      · intro L σ r h H locs ls hP hD hS hl
        rw [x_without] at h
        refine lv_iinc (v := ((L 5)) + 1) (lv' := [(5, .int (((L 5)) + 1)), (0, .ref (a 0)), (1, .int (L 1)), (2, .int (L 2)), (3, .int (L 3)), (4, .int (L 4))]) hx hb dX12_without_120 hl (k := 5) rfl rfl (by decide) rfl (fun ls hl => ?_)
        refine lv_goto (tgt := 93) hx hb dX12_without_123 (by decide) ?_
        exact ih.2.2.2.2.2.2.2.1 (upd L 5 (((L 5)) + 1)) σ r h H locs ls hP hD hS (lv_sub hl [1, 2, 3, 4, 5, 0] rfl)
      · intro L σ r h H locs ls hP hD hS hl
        rw [x_without] at h
        refine lv_aload_n hx hb dX12_without_126 rfl (lv_at hl 0 rfl) ?_
        refine ng_53 hx hb hts in_x_without hown hK hP (hts _ (List.mem_cons_of_mem _ (List.mem_append_left _ (List.mem_append_left _ (List.mem_of_getElem? (i := 0) rfl))))) dX12_without_127 ?_
        refine lv_iload_n hx hb dX12_without_130 rfl (lv_at hl 1 rfl) ?_
        obtain ⟨q1, h⟩ := nb_ite1 h
        refine nl_28 hx hb hK hP q1 dX12_without_131 ?_
        refine lv_bipush (v := 6) hx hb dX12_without_132 (by decide) ?_
        refine lv_icmp_ne (tgt := 146) hx hb dX12_without_134 (by decide) (fun c2 => ?_) (fun c2 => ?_)
        · rw [if_neg c2] at h
          exact ih.2.2.2.2.2.2.2.2.2.2.1 L σ r h H locs ls hP hD hS (lv_sub hl [0, 1, 2, 3, 4, 5] rfl)
        · rw [if_pos c2] at h
          refine lv_aload_n hx hb dX12_without_137 rfl (lv_at hl 0 rfl) ?_
          refine lv_iload hx hb dX12_without_138 (lv_at hl 4 rfl) ?_
          obtain ⟨r3, hc3, h⟩ := ob_ex h
          refine nc_Vi (As := [.int (L 4)]) (rest := []) ⟨hx, hb, hml, hown, hts⟩ (c_x_setOf l dC dI cy a k (upd (fun _ => 0) 1 ((L 4))) σ r3 hc3 H.size) (cwV 1 hts g_x_without_setOf_678 rfl rfl rfl hd_x_setOf ⟨Nat.le_of_ble_eq_true rfl, Nat.le_of_ble_eq_true rfl⟩) hK hG hA hP hD hS rfl hl.1 rfl (Nat.le_of_ble_eq_true rfl) dX12_without_140 ⟨Nat.le_refl _, Nat.le_refl _⟩ (fun H locs hP hD hS => ?_)
          refine lv_goto (tgt := 152) hx hb dX12_without_143 (by decide) ?_
          exact ih.2.2.2.2.2.2.2.2.2.2.2 (upd L 100 r3.1) r3.2 r h H locs ls hP hD hS (lv_sub hl [0, 1, 2, 3, 4, 5] rfl)
      · intro L σ r h H locs ls hP hD hS hl
        rw [x_without] at h
        refine lv_aload_n hx hb dX12_without_146 rfl (lv_at hl 0 rfl) ?_
        refine lv_iload hx hb dX12_without_147 (lv_at hl 4 rfl) ?_
        obtain ⟨r1, hc1, h⟩ := ob_ex h
        refine nc_Vi (As := [.int (L 4)]) (rest := []) ⟨hx, hb, hml, hown, hts⟩ (c_x_tupleOf l dC dI cy a k (upd (fun _ => 0) 1 ((L 4))) σ r1 hc1 H.size) (cwV 1 hts g_x_without_tupleOf_675 rfl rfl rfl hd_x_tupleOf ⟨Nat.le_of_ble_eq_true rfl, Nat.le_of_ble_eq_true rfl⟩) hK hG hA hP hD hS rfl hl.1 rfl (Nat.le_of_ble_eq_true rfl) dX12_without_149 ⟨Nat.le_refl _, Nat.le_refl _⟩ (fun H locs hP hD hS => ?_)
        exact ih.2.2.2.2.2.2.2.2.2.2.2 (upd L 100 r1.1) r1.2 r h H locs ls hP hD hS (lv_sub hl [0, 1, 2, 3, 4, 5] rfl)
      · intro L σ r h H locs ls hP hD hS hl
        rw [x_without] at h
        cases h
        exact W.iret (v := (L 100)) hx hb hr (fun t ht hW => ⟨⟨(L 100), (), rfl, rfl, by rw [ht]; exact hP, va_K.moved hW.alike hK, hD⟩, hS.F ht⟩) hS.2.2 dX12_without_152
  exact (blk k0).1 L0 σ0 r0 h0 s.heap [] ls hP hD hS hl
/-! takeFrom -/
def x_takeFrom : Nat → Nat → (Nat → Int32) → MS → Option (Int32 × MS)
  | 0, _, _, _ => none
  | k + 1, 0, L, σ => if ¬ (((L 1)) < 0 ∨ 70000 ≤ ((L 1)).toNatClampNeg) then (if ¬ (((L 1)) < 0 ∨ 70000 ≤ ((L 1)).toNatClampNeg) then (ob (x_workParts k 0 (upd (fun _ => 0) 1 ((σ.2.2 5 ((L 1)).toNatClampNeg))) σ) (fun r3 => if ((r3.2.1 56)) = 0 then (ob (x_workParts k 0 (upd (fun _ => 0) 1 ((σ.2.2 6 ((L 1)).toNatClampNeg))) r3.2) (fun r5 => x_takeFrom k 1 (upd (upd (upd (upd L 2 ((σ.2.2 5 ((L 1)).toNatClampNeg))) 3 ((σ.2.2 6 ((L 1)).toNatClampNeg))) 4 ((σ.1 59))) 5 ((r3.2.1 59))) r5.2)) else (x_takeFrom k 1 (upd (upd (upd (upd L 2 ((σ.2.2 5 ((L 1)).toNatClampNeg))) 3 ((σ.2.2 6 ((L 1)).toNatClampNeg))) 4 ((σ.1 59))) 5 ((r3.2.1 59))) r3.2))) else none) else none
  | k + 1, 1, L, σ => if ((σ.1 56)) = 0 then (ob (x_readParts k 0 (upd (upd (upd (fun _ => 0) 1 ((L 3))) 2 ((L 5))) 3 1) σ) (fun r2 => x_takeFrom k 2 L r2.2)) else (x_takeFrom k 2 L σ)
  | k + 1, 2, L, σ => if ((σ.1 56)) ≤ 0 then (x_takeFrom k 3 L σ) else (some (0, σ))
  | k + 1, 3, L, σ => ob (x_sweep k 0 (upd (fun _ => 0) 1 780000) σ) (fun r1 => if ¬ (((((r1.2.1 59)) - 1)) < 0 ∨ 185000 ≤ ((((r1.2.1 59)) - 1)).toNatClampNeg) then (ob (x_kind k 0 (upd (fun _ => 0) 1 ((r1.2.2.2 29 ((((r1.2.1 59)) - 1)).toNatClampNeg))) r1.2) (fun r3 => if ¬ (((L 1)) < 0 ∨ 70000 ≤ ((L 1)).toNatClampNeg) then (if ((r3.2.2.2 7 ((L 1)).toNatClampNeg)) = 25 then (if r3.1 = 6 then (x_takeFrom k 6 (upd (upd L 6 ((r1.2.2.2 29 ((((r1.2.1 59)) - 1)).toNatClampNeg))) 7 r3.1) r3.2) else (x_takeFrom k 5 (upd (upd L 6 ((r1.2.2.2 29 ((((r1.2.1 59)) - 1)).toNatClampNeg))) 7 r3.1) r3.2)) else (x_takeFrom k 4 (upd (upd L 6 ((r1.2.2.2 29 ((((r1.2.1 59)) - 1)).toNatClampNeg))) 7 r3.1) r3.2)) else none)) else none)
  | k + 1, 4, L, σ => if ((L 7)) = 4 then (x_takeFrom k 6 L σ) else (if ((L 7)) = 5 then (x_takeFrom k 6 L σ) else (x_takeFrom k 5 L σ))
  | k + 1, 5, L, σ => ob (x_fail k 0 (upd (fun _ => 0) 1 1) σ) (fun r1 => some (0, r1.2))
  | k + 1, 6, L, σ => if ¬ (((((L 6)) + 1)) < 0 ∨ 1740000 ≤ ((((L 6)) + 1)).toNatClampNeg) then (ob (x_push k 0 (upd (fun _ => 0) 1 0) σ) (fun r2 => if ((σ.2.2 28 ((((L 6)) + 1)).toNatClampNeg)) ≤ 0 then (x_takeFrom k 10 (upd (upd L 8 ((σ.2.2 28 ((((L 6)) + 1)).toNatClampNeg))) 9 ((σ.1 59))) r2.2) else (if ¬ (((L 1)) < 0 ∨ 70000 ≤ ((L 1)).toNatClampNeg) then (if ((r2.2.2.2 7 ((L 1)).toNatClampNeg)) = 27 then (x_takeFrom k 8 (upd (upd (upd L 8 ((σ.2.2 28 ((((L 6)) + 1)).toNatClampNeg))) 9 ((σ.1 59))) 100 ((((σ.2.2 28 ((((L 6)) + 1)).toNatClampNeg)) - 1))) r2.2) else (x_takeFrom k 7 (upd (upd L 8 ((σ.2.2 28 ((((L 6)) + 1)).toNatClampNeg))) 9 ((σ.1 59))) r2.2)) else none))) else none
  | k + 1, 7, L, σ => x_takeFrom k 8 (upd L 100 0) σ
  | k + 1, 8, L, σ => ob (x_memberAt k 0 (upd (upd (fun _ => 0) 1 ((L 6))) 2 ((L 100))) σ) (fun r1 => if ¬ (((L 9)) < 0 ∨ 185000 ≤ ((L 9)).toNatClampNeg) then (x_takeFrom k 9 (upd L 10 ((L 100))) (r1.2.1, r1.2.2.1, updG r1.2.2.2 29 (upd (r1.2.2.2 29) ((L 9)).toNatClampNeg r1.1))) else none)
  | k + 1, 9, L, σ => ob (x_without k 0 (upd (upd (fun _ => 0) 1 ((L 6))) 2 ((L 10))) σ) (fun r1 => ob (x_answer k 0 (upd (fun _ => 0) 1 r1.1) r1.2) (fun r2 => ob (x_push k 0 (upd (fun _ => 0) 1 r2.1) r2.2) (fun r3 => ob (x_write k 0 (upd (upd (upd (fun _ => 0) 1 ((L 3))) 2 ((L 5))) 3 ((((L 9)) + 1))) r3.2) (fun r4 => x_takeFrom k 10 L r4.2))))
  | k + 1, 10, L, σ => ob (x_write k 0 (upd (upd (upd (fun _ => 0) 1 ((L 2))) 2 ((L 4))) 3 ((L 9))) σ) (fun r1 => ob (x_pass k 0 (upd (fun _ => 0) 1 ((L 1))) r1.2) (fun r2 => some (0, r2.2)))
  | _ + 1, _ + 11, _, _ => none
def o_x_takeFrom : List Cond := [.fieldLink RX12 86 "SetHouseModel" "x1" "[I", .fieldLink RX12 89 "SetHouseModel" "x2" "[I", .fieldLink RX12 385 "SetHouseModel" "top" "I", .methodLink RX12 901 yX12_workParts, .instanceMethod yX12_workParts, .selects RX12 yX12_workParts yX12_workParts, .initialized RX12, .fieldLink RX12 362 "SetHouseModel" "err" "I", .methodLink RX12 824 yX12_readParts, .instanceMethod yX12_readParts, .selects RX12 yX12_readParts yX12_readParts, .constant RX12 584 (780000), .methodLink RX12 585 yX12_sweep, .instanceMethod yX12_sweep, .selects RX12 yX12_sweep yX12_sweep, .fieldLink RX12 382 "SetHouseModel" "pile" "[I", .methodLink RX12 545 yX12_kind, .instanceMethod yX12_kind, .selects RX12 yX12_kind yX12_kind, .fieldLink RX12 92 "SetHouseModel" "x3" "[I", .methodLink RX12 369 yX12_fail, .instanceMethod yX12_fail, .selects RX12 yX12_fail yX12_fail, .fieldLink RX12 372 "SetHouseModel" "heap" "[I", .methodLink RX12 594 yX12_push, .instanceMethod yX12_push, .selects RX12 yX12_push yX12_push, .methodLink RX12 703 yX12_memberAt, .instanceMethod yX12_memberAt, .selects RX12 yX12_memberAt yX12_memberAt, .methodLink RX12 965 yX12_without, .instanceMethod yX12_without, .selects RX12 yX12_without yX12_without, .methodLink RX12 591 yX12_answer, .instanceMethod yX12_answer, .selects RX12 yX12_answer yX12_answer, .methodLink RX12 904 yX12_write, .instanceMethod yX12_write, .selects RX12 yX12_write yX12_write, .methodLink RX12 926 yX12_pass, .instanceMethod yX12_pass, .selects RX12 yX12_pass yX12_pass]
theorem o_x_takeFrom_good : o_x_takeFrom.all goodWord = true := by decide +kernel
def p_x_takeFrom : List Cond := o_x_takeFrom ++ ((.code yX12_workParts cX12_workParts 3 none :: p_x_workParts) ++ ((.code yX12_readParts cX12_readParts 7 none :: p_x_readParts) ++ ((.code yX12_sweep cX12_sweep 5 none :: p_x_sweep) ++ ((.code yX12_kind cX12_kind 2 (some .int) :: p_x_kind) ++ ((.code yX12_fail cX12_fail 2 none :: p_x_fail) ++ ((.code yX12_push cX12_push 2 none :: p_x_push) ++ ((.code yX12_memberAt cX12_memberAt 3 (some .int) :: p_x_memberAt) ++ ((.code yX12_without cX12_without 6 (some .int) :: p_x_without) ++ ((.code yX12_answer cX12_answer 2 (some .int) :: p_x_answer) ++ ((.code yX12_write cX12_write 10 none :: p_x_write) ++ ((.code yX12_pass cX12_pass 2 none :: p_x_pass) ++ [])))))))))))
theorem p_x_takeFrom_good : p_x_takeFrom.all goodWord = true := nb_all2 o_x_takeFrom_good (nb_all2 (nb_allc (by decide +kernel) p_x_workParts_good) (nb_all2 (nb_allc (by decide +kernel) p_x_readParts_good) (nb_all2 (nb_allc (by decide +kernel) p_x_sweep_good) (nb_all2 (nb_allc (by decide +kernel) p_x_kind_good) (nb_all2 (nb_allc (by decide +kernel) p_x_fail_good) (nb_all2 (nb_allc (by decide +kernel) p_x_push_good) (nb_all2 (nb_allc (by decide +kernel) p_x_memberAt_good) (nb_all2 (nb_allc (by decide +kernel) p_x_without_good) (nb_all2 (nb_allc (by decide +kernel) p_x_answer_good) (nb_all2 (nb_allc (by decide +kernel) p_x_write_good) (nb_all2 (nb_allc (by decide +kernel) p_x_pass_good) rfl)))))))))))
def w_x_takeFrom : List Cond := .code yX12_takeFrom cX12_takeFrom 11 none :: (p_x_takeFrom ++ fM)
theorem w_x_takeFrom_good : w_x_takeFrom.all goodWord = true := nb_allc (by decide +kernel) (nb_all2 p_x_takeFrom_good fM_good)
theorem in_x_takeFrom : ∀ w ∈ wsX120, w ∈ w_x_takeFrom := fun _ h => List.mem_cons_of_mem _ (List.mem_append_right _ h)
theorem hd_x_takeFrom : yX12_takeFrom.cls = RX12 ∧ yX12_takeFrom.cls ≠ "java/lang/invoke/MethodHandle" ∧ yX12_takeFrom.cls ≠ "java/lang/invoke/VarHandle" ∧ (parseMethodDescriptor yX12_takeFrom.desc).map (fun d => d.parameters.length) = some 1 := by decide +kernel
theorem gg_x_takeFrom_answer : GoodIn w_x_takeFrom w_x_answer := goodIn_sub (fun w h => (List.mem_cons.mp h).elim (fun e => (List.mem_cons_of_mem _ (List.mem_append_left _ (List.mem_append_right _ (List.mem_append_right _ (List.mem_append_right _ (List.mem_append_right _ (List.mem_append_right _ (List.mem_append_right _ (List.mem_append_right _ (List.mem_append_right _ (List.mem_append_right _ (List.mem_append_left _ (List.mem_cons.mpr (Or.inl e))))))))))))))) (fun h => (List.mem_append.mp h).elim (fun h => (List.mem_cons_of_mem _ (List.mem_append_left _ (List.mem_append_right _ (List.mem_append_right _ (List.mem_append_right _ (List.mem_append_right _ (List.mem_append_right _ (List.mem_append_right _ (List.mem_append_right _ (List.mem_append_right _ (List.mem_append_right _ (List.mem_append_left _ (List.mem_cons_of_mem _ h)))))))))))))) (fun h => List.mem_cons_of_mem _ (List.mem_append_right _ h)))) w_x_answer_good
theorem g_x_takeFrom_answer_591 : GoodIn w_x_takeFrom (wsV RX12 591 RX12 yX12_answer w_x_answer) := goodIn_app (nb_g4 (List.mem_cons_of_mem _ (List.mem_append_left _ (List.mem_append_left _ (List.mem_of_getElem? (i := 33) rfl)))) (List.mem_cons_of_mem _ (List.mem_append_left _ (List.mem_append_left _ (List.mem_of_getElem? (i := 34) rfl)))) (List.mem_cons_of_mem _ (List.mem_append_left _ (List.mem_append_left _ (List.mem_of_getElem? (i := 35) rfl)))) (List.mem_cons_of_mem _ (List.mem_append_left _ (List.mem_append_left _ (List.mem_of_getElem? (i := 6) rfl)))) (by decide +kernel)) gg_x_takeFrom_answer
theorem gg_x_takeFrom_fail : GoodIn w_x_takeFrom w_x_fail := goodIn_sub (fun w h => (List.mem_cons.mp h).elim (fun e => (List.mem_cons_of_mem _ (List.mem_append_left _ (List.mem_append_right _ (List.mem_append_right _ (List.mem_append_right _ (List.mem_append_right _ (List.mem_append_right _ (List.mem_append_left _ (List.mem_cons.mpr (Or.inl e))))))))))) (fun h => (List.mem_append.mp h).elim (fun h => (List.mem_cons_of_mem _ (List.mem_append_left _ (List.mem_append_right _ (List.mem_append_right _ (List.mem_append_right _ (List.mem_append_right _ (List.mem_append_right _ (List.mem_append_left _ (List.mem_cons_of_mem _ h)))))))))) (fun h => List.mem_cons_of_mem _ (List.mem_append_right _ h)))) w_x_fail_good
theorem g_x_takeFrom_fail_369 : GoodIn w_x_takeFrom (wsV RX12 369 RX12 yX12_fail w_x_fail) := goodIn_app (nb_g4 (List.mem_cons_of_mem _ (List.mem_append_left _ (List.mem_append_left _ (List.mem_of_getElem? (i := 20) rfl)))) (List.mem_cons_of_mem _ (List.mem_append_left _ (List.mem_append_left _ (List.mem_of_getElem? (i := 21) rfl)))) (List.mem_cons_of_mem _ (List.mem_append_left _ (List.mem_append_left _ (List.mem_of_getElem? (i := 22) rfl)))) (List.mem_cons_of_mem _ (List.mem_append_left _ (List.mem_append_left _ (List.mem_of_getElem? (i := 6) rfl)))) (by decide +kernel)) gg_x_takeFrom_fail
theorem gg_x_takeFrom_kind : GoodIn w_x_takeFrom w_x_kind := goodIn_sub (fun w h => (List.mem_cons.mp h).elim (fun e => (List.mem_cons_of_mem _ (List.mem_append_left _ (List.mem_append_right _ (List.mem_append_right _ (List.mem_append_right _ (List.mem_append_right _ (List.mem_append_left _ (List.mem_cons.mpr (Or.inl e)))))))))) (fun h => (List.mem_append.mp h).elim (fun h => (List.mem_cons_of_mem _ (List.mem_append_left _ (List.mem_append_right _ (List.mem_append_right _ (List.mem_append_right _ (List.mem_append_right _ (List.mem_append_left _ (List.mem_cons_of_mem _ h))))))))) (fun h => List.mem_cons_of_mem _ (List.mem_append_right _ h)))) w_x_kind_good
theorem g_x_takeFrom_kind_545 : GoodIn w_x_takeFrom (wsV RX12 545 RX12 yX12_kind w_x_kind) := goodIn_app (nb_g4 (List.mem_cons_of_mem _ (List.mem_append_left _ (List.mem_append_left _ (List.mem_of_getElem? (i := 16) rfl)))) (List.mem_cons_of_mem _ (List.mem_append_left _ (List.mem_append_left _ (List.mem_of_getElem? (i := 17) rfl)))) (List.mem_cons_of_mem _ (List.mem_append_left _ (List.mem_append_left _ (List.mem_of_getElem? (i := 18) rfl)))) (List.mem_cons_of_mem _ (List.mem_append_left _ (List.mem_append_left _ (List.mem_of_getElem? (i := 6) rfl)))) (by decide +kernel)) gg_x_takeFrom_kind
theorem gg_x_takeFrom_memberAt : GoodIn w_x_takeFrom w_x_memberAt := goodIn_sub (fun w h => (List.mem_cons.mp h).elim (fun e => (List.mem_cons_of_mem _ (List.mem_append_left _ (List.mem_append_right _ (List.mem_append_right _ (List.mem_append_right _ (List.mem_append_right _ (List.mem_append_right _ (List.mem_append_right _ (List.mem_append_right _ (List.mem_append_left _ (List.mem_cons.mpr (Or.inl e))))))))))))) (fun h => (List.mem_append.mp h).elim (fun h => (List.mem_cons_of_mem _ (List.mem_append_left _ (List.mem_append_right _ (List.mem_append_right _ (List.mem_append_right _ (List.mem_append_right _ (List.mem_append_right _ (List.mem_append_right _ (List.mem_append_right _ (List.mem_append_left _ (List.mem_cons_of_mem _ h)))))))))))) (fun h => List.mem_cons_of_mem _ (List.mem_append_right _ h)))) w_x_memberAt_good
theorem g_x_takeFrom_memberAt_703 : GoodIn w_x_takeFrom (wsV RX12 703 RX12 yX12_memberAt w_x_memberAt) := goodIn_app (nb_g4 (List.mem_cons_of_mem _ (List.mem_append_left _ (List.mem_append_left _ (List.mem_of_getElem? (i := 27) rfl)))) (List.mem_cons_of_mem _ (List.mem_append_left _ (List.mem_append_left _ (List.mem_of_getElem? (i := 28) rfl)))) (List.mem_cons_of_mem _ (List.mem_append_left _ (List.mem_append_left _ (List.mem_of_getElem? (i := 29) rfl)))) (List.mem_cons_of_mem _ (List.mem_append_left _ (List.mem_append_left _ (List.mem_of_getElem? (i := 6) rfl)))) (by decide +kernel)) gg_x_takeFrom_memberAt
theorem gg_x_takeFrom_pass : GoodIn w_x_takeFrom w_x_pass := goodIn_sub (fun w h => (List.mem_cons.mp h).elim (fun e => (List.mem_cons_of_mem _ (List.mem_append_left _ (List.mem_append_right _ (List.mem_append_right _ (List.mem_append_right _ (List.mem_append_right _ (List.mem_append_right _ (List.mem_append_right _ (List.mem_append_right _ (List.mem_append_right _ (List.mem_append_right _ (List.mem_append_right _ (List.mem_append_right _ (List.mem_append_left _ (List.mem_cons.mpr (Or.inl e))))))))))))))))) (fun h => (List.mem_append.mp h).elim (fun h => (List.mem_cons_of_mem _ (List.mem_append_left _ (List.mem_append_right _ (List.mem_append_right _ (List.mem_append_right _ (List.mem_append_right _ (List.mem_append_right _ (List.mem_append_right _ (List.mem_append_right _ (List.mem_append_right _ (List.mem_append_right _ (List.mem_append_right _ (List.mem_append_right _ (List.mem_append_left _ (List.mem_cons_of_mem _ h)))))))))))))))) (fun h => List.mem_cons_of_mem _ (List.mem_append_right _ h)))) w_x_pass_good
theorem g_x_takeFrom_pass_926 : GoodIn w_x_takeFrom (wsV RX12 926 RX12 yX12_pass w_x_pass) := goodIn_app (nb_g4 (List.mem_cons_of_mem _ (List.mem_append_left _ (List.mem_append_left _ (List.mem_of_getElem? (i := 39) rfl)))) (List.mem_cons_of_mem _ (List.mem_append_left _ (List.mem_append_left _ (List.mem_of_getElem? (i := 40) rfl)))) (List.mem_cons_of_mem _ (List.mem_append_left _ (List.mem_append_left _ (List.mem_of_getElem? (i := 41) rfl)))) (List.mem_cons_of_mem _ (List.mem_append_left _ (List.mem_append_left _ (List.mem_of_getElem? (i := 6) rfl)))) (by decide +kernel)) gg_x_takeFrom_pass
theorem gg_x_takeFrom_push : GoodIn w_x_takeFrom w_x_push := goodIn_sub (fun w h => (List.mem_cons.mp h).elim (fun e => (List.mem_cons_of_mem _ (List.mem_append_left _ (List.mem_append_right _ (List.mem_append_right _ (List.mem_append_right _ (List.mem_append_right _ (List.mem_append_right _ (List.mem_append_right _ (List.mem_append_left _ (List.mem_cons.mpr (Or.inl e)))))))))))) (fun h => (List.mem_append.mp h).elim (fun h => (List.mem_cons_of_mem _ (List.mem_append_left _ (List.mem_append_right _ (List.mem_append_right _ (List.mem_append_right _ (List.mem_append_right _ (List.mem_append_right _ (List.mem_append_right _ (List.mem_append_left _ (List.mem_cons_of_mem _ h))))))))))) (fun h => List.mem_cons_of_mem _ (List.mem_append_right _ h)))) w_x_push_good
theorem g_x_takeFrom_push_594 : GoodIn w_x_takeFrom (wsV RX12 594 RX12 yX12_push w_x_push) := goodIn_app (nb_g4 (List.mem_cons_of_mem _ (List.mem_append_left _ (List.mem_append_left _ (List.mem_of_getElem? (i := 24) rfl)))) (List.mem_cons_of_mem _ (List.mem_append_left _ (List.mem_append_left _ (List.mem_of_getElem? (i := 25) rfl)))) (List.mem_cons_of_mem _ (List.mem_append_left _ (List.mem_append_left _ (List.mem_of_getElem? (i := 26) rfl)))) (List.mem_cons_of_mem _ (List.mem_append_left _ (List.mem_append_left _ (List.mem_of_getElem? (i := 6) rfl)))) (by decide +kernel)) gg_x_takeFrom_push
theorem gg_x_takeFrom_readParts : GoodIn w_x_takeFrom w_x_readParts := goodIn_sub (fun w h => (List.mem_cons.mp h).elim (fun e => (List.mem_cons_of_mem _ (List.mem_append_left _ (List.mem_append_right _ (List.mem_append_right _ (List.mem_append_left _ (List.mem_cons.mpr (Or.inl e)))))))) (fun h => (List.mem_append.mp h).elim (fun h => (List.mem_cons_of_mem _ (List.mem_append_left _ (List.mem_append_right _ (List.mem_append_right _ (List.mem_append_left _ (List.mem_cons_of_mem _ h))))))) (fun h => List.mem_cons_of_mem _ (List.mem_append_right _ h)))) w_x_readParts_good
theorem g_x_takeFrom_readParts_824 : GoodIn w_x_takeFrom (wsV RX12 824 RX12 yX12_readParts w_x_readParts) := goodIn_app (nb_g4 (List.mem_cons_of_mem _ (List.mem_append_left _ (List.mem_append_left _ (List.mem_of_getElem? (i := 8) rfl)))) (List.mem_cons_of_mem _ (List.mem_append_left _ (List.mem_append_left _ (List.mem_of_getElem? (i := 9) rfl)))) (List.mem_cons_of_mem _ (List.mem_append_left _ (List.mem_append_left _ (List.mem_of_getElem? (i := 10) rfl)))) (List.mem_cons_of_mem _ (List.mem_append_left _ (List.mem_append_left _ (List.mem_of_getElem? (i := 6) rfl)))) (by decide +kernel)) gg_x_takeFrom_readParts
theorem gg_x_takeFrom_sweep : GoodIn w_x_takeFrom w_x_sweep := goodIn_sub (fun w h => (List.mem_cons.mp h).elim (fun e => (List.mem_cons_of_mem _ (List.mem_append_left _ (List.mem_append_right _ (List.mem_append_right _ (List.mem_append_right _ (List.mem_append_left _ (List.mem_cons.mpr (Or.inl e))))))))) (fun h => (List.mem_append.mp h).elim (fun h => (List.mem_cons_of_mem _ (List.mem_append_left _ (List.mem_append_right _ (List.mem_append_right _ (List.mem_append_right _ (List.mem_append_left _ (List.mem_cons_of_mem _ h)))))))) (fun h => List.mem_cons_of_mem _ (List.mem_append_right _ h)))) w_x_sweep_good
theorem g_x_takeFrom_sweep_585 : GoodIn w_x_takeFrom (wsV RX12 585 RX12 yX12_sweep w_x_sweep) := goodIn_app (nb_g4 (List.mem_cons_of_mem _ (List.mem_append_left _ (List.mem_append_left _ (List.mem_of_getElem? (i := 12) rfl)))) (List.mem_cons_of_mem _ (List.mem_append_left _ (List.mem_append_left _ (List.mem_of_getElem? (i := 13) rfl)))) (List.mem_cons_of_mem _ (List.mem_append_left _ (List.mem_append_left _ (List.mem_of_getElem? (i := 14) rfl)))) (List.mem_cons_of_mem _ (List.mem_append_left _ (List.mem_append_left _ (List.mem_of_getElem? (i := 6) rfl)))) (by decide +kernel)) gg_x_takeFrom_sweep
theorem gg_x_takeFrom_without : GoodIn w_x_takeFrom w_x_without := goodIn_sub (fun w h => (List.mem_cons.mp h).elim (fun e => (List.mem_cons_of_mem _ (List.mem_append_left _ (List.mem_append_right _ (List.mem_append_right _ (List.mem_append_right _ (List.mem_append_right _ (List.mem_append_right _ (List.mem_append_right _ (List.mem_append_right _ (List.mem_append_right _ (List.mem_append_left _ (List.mem_cons.mpr (Or.inl e)))))))))))))) (fun h => (List.mem_append.mp h).elim (fun h => (List.mem_cons_of_mem _ (List.mem_append_left _ (List.mem_append_right _ (List.mem_append_right _ (List.mem_append_right _ (List.mem_append_right _ (List.mem_append_right _ (List.mem_append_right _ (List.mem_append_right _ (List.mem_append_right _ (List.mem_append_left _ (List.mem_cons_of_mem _ h))))))))))))) (fun h => List.mem_cons_of_mem _ (List.mem_append_right _ h)))) w_x_without_good
theorem g_x_takeFrom_without_965 : GoodIn w_x_takeFrom (wsV RX12 965 RX12 yX12_without w_x_without) := goodIn_app (nb_g4 (List.mem_cons_of_mem _ (List.mem_append_left _ (List.mem_append_left _ (List.mem_of_getElem? (i := 30) rfl)))) (List.mem_cons_of_mem _ (List.mem_append_left _ (List.mem_append_left _ (List.mem_of_getElem? (i := 31) rfl)))) (List.mem_cons_of_mem _ (List.mem_append_left _ (List.mem_append_left _ (List.mem_of_getElem? (i := 32) rfl)))) (List.mem_cons_of_mem _ (List.mem_append_left _ (List.mem_append_left _ (List.mem_of_getElem? (i := 6) rfl)))) (by decide +kernel)) gg_x_takeFrom_without
theorem gg_x_takeFrom_workParts : GoodIn w_x_takeFrom w_x_workParts := goodIn_sub (fun w h => (List.mem_cons.mp h).elim (fun e => (List.mem_cons_of_mem _ (List.mem_append_left _ (List.mem_append_right _ (List.mem_append_left _ (List.mem_cons.mpr (Or.inl e))))))) (fun h => (List.mem_append.mp h).elim (fun h => (List.mem_cons_of_mem _ (List.mem_append_left _ (List.mem_append_right _ (List.mem_append_left _ (List.mem_cons_of_mem _ h)))))) (fun h => List.mem_cons_of_mem _ (List.mem_append_right _ h)))) w_x_workParts_good
theorem g_x_takeFrom_workParts_901 : GoodIn w_x_takeFrom (wsV RX12 901 RX12 yX12_workParts w_x_workParts) := goodIn_app (nb_g4 (List.mem_cons_of_mem _ (List.mem_append_left _ (List.mem_append_left _ (List.mem_of_getElem? (i := 3) rfl)))) (List.mem_cons_of_mem _ (List.mem_append_left _ (List.mem_append_left _ (List.mem_of_getElem? (i := 4) rfl)))) (List.mem_cons_of_mem _ (List.mem_append_left _ (List.mem_append_left _ (List.mem_of_getElem? (i := 5) rfl)))) (List.mem_cons_of_mem _ (List.mem_append_left _ (List.mem_append_left _ (List.mem_of_getElem? (i := 6) rfl)))) (by decide +kernel)) gg_x_takeFrom_workParts
theorem gg_x_takeFrom_write : GoodIn w_x_takeFrom w_x_write := goodIn_sub (fun w h => (List.mem_cons.mp h).elim (fun e => (List.mem_cons_of_mem _ (List.mem_append_left _ (List.mem_append_right _ (List.mem_append_right _ (List.mem_append_right _ (List.mem_append_right _ (List.mem_append_right _ (List.mem_append_right _ (List.mem_append_right _ (List.mem_append_right _ (List.mem_append_right _ (List.mem_append_right _ (List.mem_append_left _ (List.mem_cons.mpr (Or.inl e)))))))))))))))) (fun h => (List.mem_append.mp h).elim (fun h => (List.mem_cons_of_mem _ (List.mem_append_left _ (List.mem_append_right _ (List.mem_append_right _ (List.mem_append_right _ (List.mem_append_right _ (List.mem_append_right _ (List.mem_append_right _ (List.mem_append_right _ (List.mem_append_right _ (List.mem_append_right _ (List.mem_append_right _ (List.mem_append_left _ (List.mem_cons_of_mem _ h))))))))))))))) (fun h => List.mem_cons_of_mem _ (List.mem_append_right _ h)))) w_x_write_good
theorem g_x_takeFrom_write_904 : GoodIn w_x_takeFrom (wsV RX12 904 RX12 yX12_write w_x_write) := goodIn_app (nb_g4 (List.mem_cons_of_mem _ (List.mem_append_left _ (List.mem_append_left _ (List.mem_of_getElem? (i := 36) rfl)))) (List.mem_cons_of_mem _ (List.mem_append_left _ (List.mem_append_left _ (List.mem_of_getElem? (i := 37) rfl)))) (List.mem_cons_of_mem _ (List.mem_append_left _ (List.mem_append_left _ (List.mem_of_getElem? (i := 38) rfl)))) (List.mem_cons_of_mem _ (List.mem_append_left _ (List.mem_append_left _ (List.mem_of_getElem? (i := 6) rfl)))) (by decide +kernel)) gg_x_takeFrom_write
set_option maxHeartbeats 40000000 in
set_option maxRecDepth 100000 in
theorem c_x_takeFrom (l : Launch) (dC : Nat → ClassId) (dI : Nat → Nat → Nat) (cy : Nat → ClassId) (a : Nat → Nat) (k0 : Nat) (L0 : Nat → Int32) (σ0 : MS) (r0 : Int32 × MS) (h0 : x_takeFrom k0 0 L0 σ0 = some r0) (sz : Nat) : Met l yX12_takeFrom w_x_takeFrom ({ frames := 1365, cells := 0, slots := 0, locals := 36657 }) (va_Pc [.ref (a 0), .int (L0 1)] (nIn (dC, dI) cy sz (vM cy a σ0))) (va_Qv (fun _ : Unit => True) (fun _ t => nOut (dC, dI) cy (va_A (vM cy a σ0) sz) (vM cy a r0.2) t) (va_A (vM cy a σ0) sz)) 0 0 (va_A (vM cy a σ0) sz) := by
  refine Met.ofW (cc := cX12_takeFrom) (maxL := 11) (ret := none) (by decide) rfl ?_
  intro p e s m args below meth c s₁ B hml hv
  obtain ⟨rfl, hsz, hP, hK, hD0, hG⟩ := hv
  have hx := B.exec
  have hb := B.bytes
  have hr := B.returns
  have hts := atoms_spec (ws := w_x_takeFrom) B.pre
  have hown : s.vm.findClass RX12 = some m.cls := findClass_of_methodNamed B.named
  have hlocks := B.notSynchronized
  subst hsz
  have hD := hD0.self (sz := s.heap.size)
  generalize hAe : va_A (vM cy a σ0) s.heap.size = A at hD ⊢
  have hA : ∀ q : Nat, s.heap.size ≤ q → A q := fun q h => by rw [← hAe]; exact Or.inr h
  have hS : va_S A s.heap s.heap [] := va_S.rf
  have hl := lv_entry ([.ref (a 0), .int (L0 1)]) (n := 11) (Nat.le_of_ble_eq_true rfl)
  rw [lg_entry_eq]
  generalize (lg_sl ([.ref (a 0), .int (L0 1)]) ++ List.replicate (11 - (lg_sl ([.ref (a 0), .int (L0 1)])).length) Slot.unset).toArray = ls at hl ⊢
  have hl : lv_has ls 11 [(0, .ref (a 0)), (1, .int (L0 1))] := hl
  have blk : ∀ k : Nat, (bT p l e (headSpec w_x_takeFrom ({ frames := 1365, cells := 0, slots := 0, locals := 36657 })).room s m #[.ref (a 0), .int (L0 1)] below meth c dC dI cy a A (qV dC dI cy a A below #[.ref (a 0), .int (L0 1)] s) 11 (x_takeFrom k 0) (fun L => [(0, .ref (a 0)), (1, .int (L 1))]) 0 (fun L => [])) ∧ (bT p l e (headSpec w_x_takeFrom ({ frames := 1365, cells := 0, slots := 0, locals := 36657 })).room s m #[.ref (a 0), .int (L0 1)] below meth c dC dI cy a A (qV dC dI cy a A below #[.ref (a 0), .int (L0 1)] s) 11 (x_takeFrom k 1) (fun L => [(0, .ref (a 0)), (1, .int (L 1)), (2, .int (L 2)), (3, .int (L 3)), (4, .int (L 4)), (5, .int (L 5))]) 43 (fun L => [])) ∧ (bT p l e (headSpec w_x_takeFrom ({ frames := 1365, cells := 0, slots := 0, locals := 36657 })).room s m #[.ref (a 0), .int (L0 1)] below meth c dC dI cy a A (qV dC dI cy a A below #[.ref (a 0), .int (L0 1)] s) 11 (x_takeFrom k 2) (fun L => [(0, .ref (a 0)), (1, .int (L 1)), (2, .int (L 2)), (3, .int (L 3)), (4, .int (L 4)), (5, .int (L 5))]) 58 (fun L => [])) ∧ (bT p l e (headSpec w_x_takeFrom ({ frames := 1365, cells := 0, slots := 0, locals := 36657 })).room s m #[.ref (a 0), .int (L0 1)] below meth c dC dI cy a A (qV dC dI cy a A below #[.ref (a 0), .int (L0 1)] s) 11 (x_takeFrom k 3) (fun L => [(0, .ref (a 0)), (1, .int (L 1)), (2, .int (L 2)), (3, .int (L 3)), (4, .int (L 4)), (5, .int (L 5))]) 66 (fun L => [])) ∧ (bT p l e (headSpec w_x_takeFrom ({ frames := 1365, cells := 0, slots := 0, locals := 36657 })).room s m #[.ref (a 0), .int (L0 1)] below meth c dC dI cy a A (qV dC dI cy a A below #[.ref (a 0), .int (L0 1)] s) 11 (x_takeFrom k 4) (fun L => [(0, .ref (a 0)), (1, .int (L 1)), (2, .int (L 2)), (3, .int (L 3)), (4, .int (L 4)), (5, .int (L 5)), (6, .int (L 6)), (7, .int (L 7))]) 115 (fun L => [])) ∧ (bT p l e (headSpec w_x_takeFrom ({ frames := 1365, cells := 0, slots := 0, locals := 36657 })).room s m #[.ref (a 0), .int (L0 1)] below meth c dC dI cy a A (qV dC dI cy a A below #[.ref (a 0), .int (L0 1)] s) 11 (x_takeFrom k 5) (fun L => [(0, .ref (a 0)), (1, .int (L 1)), (2, .int (L 2)), (3, .int (L 3)), (4, .int (L 4)), (5, .int (L 5)), (6, .int (L 6)), (7, .int (L 7))]) 127 (fun L => [])) ∧ (bT p l e (headSpec w_x_takeFrom ({ frames := 1365, cells := 0, slots := 0, locals := 36657 })).room s m #[.ref (a 0), .int (L0 1)] below meth c dC dI cy a A (qV dC dI cy a A below #[.ref (a 0), .int (L0 1)] s) 11 (x_takeFrom k 6) (fun L => [(0, .ref (a 0)), (1, .int (L 1)), (2, .int (L 2)), (3, .int (L 3)), (4, .int (L 4)), (5, .int (L 5)), (6, .int (L 6)), (7, .int (L 7))]) 133 (fun L => [])) ∧ (bT p l e (headSpec w_x_takeFrom ({ frames := 1365, cells := 0, slots := 0, locals := 36657 })).room s m #[.ref (a 0), .int (L0 1)] below meth c dC dI cy a A (qV dC dI cy a A below #[.ref (a 0), .int (L0 1)] s) 11 (x_takeFrom k 7) (fun L => [(0, .ref (a 0)), (1, .int (L 1)), (2, .int (L 2)), (3, .int (L 3)), (4, .int (L 4)), (5, .int (L 5)), (6, .int (L 6)), (7, .int (L 7)), (8, .int (L 8)), (9, .int (L 9))]) 178 (fun L => [])) ∧ (bT p l e (headSpec w_x_takeFrom ({ frames := 1365, cells := 0, slots := 0, locals := 36657 })).room s m #[.ref (a 0), .int (L0 1)] below meth c dC dI cy a A (qV dC dI cy a A below #[.ref (a 0), .int (L0 1)] s) 11 (x_takeFrom k 8) (fun L => [(0, .ref (a 0)), (1, .int (L 1)), (2, .int (L 2)), (3, .int (L 3)), (4, .int (L 4)), (5, .int (L 5)), (6, .int (L 6)), (7, .int (L 7)), (8, .int (L 8)), (9, .int (L 9))]) 179 (fun L => [.int (L 100)])) ∧ (bT p l e (headSpec w_x_takeFrom ({ frames := 1365, cells := 0, slots := 0, locals := 36657 })).room s m #[.ref (a 0), .int (L0 1)] below meth c dC dI cy a A (qV dC dI cy a A below #[.ref (a 0), .int (L0 1)] s) 11 (x_takeFrom k 9) (fun L => [(0, .ref (a 0)), (1, .int (L 1)), (2, .int (L 2)), (3, .int (L 3)), (4, .int (L 4)), (5, .int (L 5)), (6, .int (L 6)), (7, .int (L 7)), (8, .int (L 8)), (9, .int (L 9)), (10, .int (L 10))]) 196 (fun L => [])) ∧ (bT p l e (headSpec w_x_takeFrom ({ frames := 1365, cells := 0, slots := 0, locals := 36657 })).room s m #[.ref (a 0), .int (L0 1)] below meth c dC dI cy a A (qV dC dI cy a A below #[.ref (a 0), .int (L0 1)] s) 11 (x_takeFrom k 10) (fun L => [(0, .ref (a 0)), (1, .int (L 1)), (2, .int (L 2)), (3, .int (L 3)), (4, .int (L 4)), (5, .int (L 5)), (6, .int (L 6)), (7, .int (L 7)), (8, .int (L 8)), (9, .int (L 9))]) 223 (fun L => [])) := by
    intro k
    induction k with
    | zero => exact ⟨fun L σ r h => (by cases h), fun L σ r h => (by cases h), fun L σ r h => (by cases h), fun L σ r h => (by cases h), fun L σ r h => (by cases h), fun L σ r h => (by cases h), fun L σ r h => (by cases h), fun L σ r h => (by cases h), fun L σ r h => (by cases h), fun L σ r h => (by cases h), fun L σ r h => (by cases h)⟩
    | succ k ih =>
      refine ⟨?_, ?_, ?_, ?_, ?_, ?_, ?_, ?_, ?_, ?_, ?_⟩
      · intro L σ r h H locs ls hP hD hS hl
        rw [x_takeFrom] at h
        refine lv_aload_n hx hb dX12_takeFrom_0 rfl (lv_at hl 0 rfl) ?_
        refine ng_15 hx hb hts in_x_takeFrom hown hK hP (hts _ (List.mem_cons_of_mem _ (List.mem_append_left _ (List.mem_append_left _ (List.mem_of_getElem? (i := 0) rfl))))) dX12_takeFrom_1 ?_
        refine lv_iload_n hx hb dX12_takeFrom_4 rfl (lv_at hl 1 rfl) ?_
        obtain ⟨q1, h⟩ := nb_ite1 h
        refine nl_5 hx hb hK hP q1 dX12_takeFrom_5 ?_
        refine lv_istore_n (lv' := [(2, .int (σ.2.2 5 ((L 1)).toNatClampNeg)), (0, .ref (a 0)), (1, .int (L 1))]) hx hb dX12_takeFrom_6 rfl hl (by decide) rfl (fun ls hl => ?_)
        refine lv_aload_n hx hb dX12_takeFrom_7 rfl (lv_at hl 1 rfl) ?_
        refine ng_16 hx hb hts in_x_takeFrom hown hK hP (hts _ (List.mem_cons_of_mem _ (List.mem_append_left _ (List.mem_append_left _ (List.mem_of_getElem? (i := 1) rfl))))) dX12_takeFrom_8 ?_
        refine lv_iload_n hx hb dX12_takeFrom_11 rfl (lv_at hl 2 rfl) ?_
        obtain ⟨q2, h⟩ := nb_ite1 h
        refine nl_6 hx hb hK hP q2 dX12_takeFrom_12 ?_
        refine lv_istore_n (lv' := [(3, .int (σ.2.2 6 ((L 1)).toNatClampNeg)), (2, .int (σ.2.2 5 ((L 1)).toNatClampNeg)), (0, .ref (a 0)), (1, .int (L 1))]) hx hb dX12_takeFrom_13 rfl hl (by decide) rfl (fun ls hl => ?_)
        refine lv_aload_n hx hb dX12_takeFrom_14 rfl (lv_at hl 2 rfl) ?_
        refine ng_59 hx hb hts in_x_takeFrom hown hK hP (hts _ (List.mem_cons_of_mem _ (List.mem_append_left _ (List.mem_append_left _ (List.mem_of_getElem? (i := 2) rfl))))) dX12_takeFrom_15 ?_
        refine lv_istore (lv' := [(4, .int (σ.1 59)), (3, .int (σ.2.2 6 ((L 1)).toNatClampNeg)), (2, .int (σ.2.2 5 ((L 1)).toNatClampNeg)), (0, .ref (a 0)), (1, .int (L 1))]) hx hb dX12_takeFrom_18 hl (by decide) rfl (fun ls hl => ?_)
        refine lv_aload_n hx hb dX12_takeFrom_20 rfl (lv_at hl 3 rfl) ?_
        refine lv_iload_n hx hb dX12_takeFrom_21 rfl (lv_at hl 2 rfl) ?_
        obtain ⟨r3, hc3, h⟩ := ob_ex h
        refine nc_Vv (As := [.int (σ.2.2 5 ((L 1)).toNatClampNeg)]) (rest := []) ⟨hx, hb, hml, hown, hts⟩ (c_x_workParts l dC dI cy a k (upd (fun _ => 0) 1 ((σ.2.2 5 ((L 1)).toNatClampNeg))) σ r3 hc3 H.size) (cwV 1 hts g_x_takeFrom_workParts_901 rfl rfl rfl hd_x_workParts ⟨Nat.le_of_ble_eq_true rfl, Nat.le_of_ble_eq_true rfl⟩) hK hG hA hP hD hS rfl hl.1 rfl (Nat.le_of_ble_eq_true rfl) dX12_takeFrom_22 ⟨Nat.le_refl _, Nat.le_refl _⟩ (fun H locs hP hD hS => ?_)
        refine lv_aload_n hx hb dX12_takeFrom_25 rfl (lv_at hl 3 rfl) ?_
        refine ng_59 hx hb hts in_x_takeFrom hown hK hP (hts _ (List.mem_cons_of_mem _ (List.mem_append_left _ (List.mem_append_left _ (List.mem_of_getElem? (i := 2) rfl))))) dX12_takeFrom_26 ?_
        refine lv_istore (lv' := [(5, .int (r3.2.1 59)), (4, .int (σ.1 59)), (3, .int (σ.2.2 6 ((L 1)).toNatClampNeg)), (2, .int (σ.2.2 5 ((L 1)).toNatClampNeg)), (0, .ref (a 0)), (1, .int (L 1))]) hx hb dX12_takeFrom_29 hl (by decide) rfl (fun ls hl => ?_)
        refine lv_aload_n hx hb dX12_takeFrom_31 rfl (lv_at hl 4 rfl) ?_
        refine ng_56 hx hb hts in_x_takeFrom hown hK hP (hts _ (List.mem_cons_of_mem _ (List.mem_append_left _ (List.mem_append_left _ (List.mem_of_getElem? (i := 7) rfl))))) dX12_takeFrom_32 ?_
        refine lv_if_ne (tgt := 43) hx hb dX12_takeFrom_35 (by decide) (fun c4 => ?_) (fun c4 => ?_)
        · rw [if_neg c4] at h
          exact ih.2.1 (upd (upd (upd (upd L 2 ((σ.2.2 5 ((L 1)).toNatClampNeg))) 3 ((σ.2.2 6 ((L 1)).toNatClampNeg))) 4 ((σ.1 59))) 5 ((r3.2.1 59))) r3.2 r h H locs ls hP hD hS (lv_sub hl [4, 5, 3, 2, 1, 0] rfl)
        · rw [if_pos c4] at h
          refine lv_aload_n hx hb dX12_takeFrom_38 rfl (lv_at hl 4 rfl) ?_
          refine lv_iload_n hx hb dX12_takeFrom_39 rfl (lv_at hl 2 rfl) ?_
          obtain ⟨r5, hc5, h⟩ := ob_ex h
          refine nc_Vv (As := [.int (σ.2.2 6 ((L 1)).toNatClampNeg)]) (rest := []) ⟨hx, hb, hml, hown, hts⟩ (c_x_workParts l dC dI cy a k (upd (fun _ => 0) 1 ((σ.2.2 6 ((L 1)).toNatClampNeg))) r3.2 r5 hc5 H.size) (cwV 1 hts g_x_takeFrom_workParts_901 rfl rfl rfl hd_x_workParts ⟨Nat.le_of_ble_eq_true rfl, Nat.le_of_ble_eq_true rfl⟩) hK hG hA hP hD hS rfl hl.1 rfl (Nat.le_of_ble_eq_true rfl) dX12_takeFrom_40 ⟨Nat.le_refl _, Nat.le_refl _⟩ (fun H locs hP hD hS => ?_)
          exact ih.2.1 (upd (upd (upd (upd L 2 ((σ.2.2 5 ((L 1)).toNatClampNeg))) 3 ((σ.2.2 6 ((L 1)).toNatClampNeg))) 4 ((σ.1 59))) 5 ((r3.2.1 59))) r5.2 r h H locs ls hP hD hS (lv_sub hl [4, 5, 3, 2, 1, 0] rfl)
      · intro L σ r h H locs ls hP hD hS hl
        rw [x_takeFrom] at h
        refine lv_aload_n hx hb dX12_takeFrom_43 rfl (lv_at hl 0 rfl) ?_
        refine ng_56 hx hb hts in_x_takeFrom hown hK hP (hts _ (List.mem_cons_of_mem _ (List.mem_append_left _ (List.mem_append_left _ (List.mem_of_getElem? (i := 7) rfl))))) dX12_takeFrom_44 ?_
        refine lv_if_ne (tgt := 58) hx hb dX12_takeFrom_47 (by decide) (fun c1 => ?_) (fun c1 => ?_)
        · rw [if_neg c1] at h
          exact ih.2.2.1 L σ r h H locs ls hP hD hS (lv_sub hl [0, 1, 2, 3, 4, 5] rfl)
        · rw [if_pos c1] at h
          refine lv_aload_n hx hb dX12_takeFrom_50 rfl (lv_at hl 0 rfl) ?_
          refine lv_iload_n hx hb dX12_takeFrom_51 rfl (lv_at hl 3 rfl) ?_
          refine lv_iload hx hb dX12_takeFrom_52 (lv_at hl 5 rfl) ?_
          refine lv_iconst (v := 1) hx hb dX12_takeFrom_54 (by decide) ?_
          obtain ⟨r2, hc2, h⟩ := ob_ex h
          refine nc_Vv (As := [.int (L 3), .int (L 5), .int 1]) (rest := []) ⟨hx, hb, hml, hown, hts⟩ (c_x_readParts l dC dI cy a k (upd (upd (upd (fun _ => 0) 1 ((L 3))) 2 ((L 5))) 3 1) σ r2 hc2 H.size) (cwV 3 hts g_x_takeFrom_readParts_824 rfl rfl rfl hd_x_readParts ⟨Nat.le_of_ble_eq_true rfl, Nat.le_of_ble_eq_true rfl⟩) hK hG hA hP hD hS rfl hl.1 rfl (Nat.le_of_ble_eq_true rfl) dX12_takeFrom_55 ⟨Nat.le_refl _, Nat.le_refl _⟩ (fun H locs hP hD hS => ?_)
          exact ih.2.2.1 L r2.2 r h H locs ls hP hD hS (lv_sub hl [0, 1, 2, 3, 4, 5] rfl)
      · intro L σ r h H locs ls hP hD hS hl
        rw [x_takeFrom] at h
        refine lv_aload_n hx hb dX12_takeFrom_58 rfl (lv_at hl 0 rfl) ?_
        refine ng_56 hx hb hts in_x_takeFrom hown hK hP (hts _ (List.mem_cons_of_mem _ (List.mem_append_left _ (List.mem_append_left _ (List.mem_of_getElem? (i := 7) rfl))))) dX12_takeFrom_59 ?_
        refine lv_if_le (tgt := 66) hx hb dX12_takeFrom_62 (by decide) (fun c1 => ?_) (fun c1 => ?_)
        · rw [if_pos c1] at h
          exact ih.2.2.2.1 L σ r h H locs ls hP hD hS (lv_sub hl [0, 1, 2, 3, 4, 5] rfl)
        · rw [if_neg c1] at h
          cases h
          exact W.vret hx hb hr (fun t ht hW => ⟨⟨(), rfl, trivial, by rw [ht]; exact hP, va_K.moved hW.alike hK, hD⟩, hS.F ht⟩) hS.2.2 dX12_takeFrom_65
      · intro L σ r h H locs ls hP hD hS hl
        rw [x_takeFrom] at h
        refine lv_aload_n hx hb dX12_takeFrom_66 rfl (lv_at hl 0 rfl) ?_
        refine lv_ldcw (v := 780000) hx hb hown (hts _ (List.mem_cons_of_mem _ (List.mem_append_left _ (List.mem_append_left _ (List.mem_of_getElem? (i := 11) rfl))))) dX12_takeFrom_67 ?_
        obtain ⟨r1, hc1, h⟩ := ob_ex h
        refine nc_Vv (As := [.int 780000]) (rest := []) ⟨hx, hb, hml, hown, hts⟩ (c_x_sweep l dC dI cy a k (upd (fun _ => 0) 1 780000) σ r1 hc1 H.size) (cwV 1 hts g_x_takeFrom_sweep_585 rfl rfl rfl hd_x_sweep ⟨Nat.le_of_ble_eq_true rfl, Nat.le_of_ble_eq_true rfl⟩) hK hG hA hP hD hS rfl hl.1 rfl (Nat.le_of_ble_eq_true rfl) dX12_takeFrom_70 ⟨Nat.le_refl _, Nat.le_refl _⟩ (fun H locs hP hD hS => ?_)
        refine lv_aload_n hx hb dX12_takeFrom_73 rfl (lv_at hl 0 rfl) ?_
        refine ng_58 hx hb hts in_x_takeFrom hown hK hP (hts _ (List.mem_cons_of_mem _ (List.mem_append_left _ (List.mem_append_left _ (List.mem_of_getElem? (i := 15) rfl))))) dX12_takeFrom_74 ?_
        refine lv_aload_n hx hb dX12_takeFrom_77 rfl (lv_at hl 0 rfl) ?_
        refine ng_59 hx hb hts in_x_takeFrom hown hK hP (hts _ (List.mem_cons_of_mem _ (List.mem_append_left _ (List.mem_append_left _ (List.mem_of_getElem? (i := 2) rfl))))) dX12_takeFrom_78 ?_
        refine lv_iconst (v := 1) hx hb dX12_takeFrom_81 (by decide) ?_
        refine lv_isub hx hb dX12_takeFrom_82 ?_
        obtain ⟨q2, h⟩ := nb_ite1 h
        refine nl_29 hx hb hK hP q2 dX12_takeFrom_83 ?_
        refine lv_istore (lv' := [(6, .int (r1.2.2.2 29 ((((r1.2.1 59)) - 1)).toNatClampNeg)), (0, .ref (a 0)), (1, .int (L 1)), (2, .int (L 2)), (3, .int (L 3)), (4, .int (L 4)), (5, .int (L 5))]) hx hb dX12_takeFrom_84 hl (by decide) rfl (fun ls hl => ?_)
        refine lv_aload_n hx hb dX12_takeFrom_86 rfl (lv_at hl 1 rfl) ?_
        refine lv_iload hx hb dX12_takeFrom_87 (lv_at hl 0 rfl) ?_
        obtain ⟨r3, hc3, h⟩ := ob_ex h
        refine nc_Vi (As := [.int (r1.2.2.2 29 ((((r1.2.1 59)) - 1)).toNatClampNeg)]) (rest := []) ⟨hx, hb, hml, hown, hts⟩ (c_x_kind l dC dI cy a k (upd (fun _ => 0) 1 ((r1.2.2.2 29 ((((r1.2.1 59)) - 1)).toNatClampNeg))) r1.2 r3 hc3 H.size) (cwV 1 hts g_x_takeFrom_kind_545 rfl rfl rfl hd_x_kind ⟨Nat.le_of_ble_eq_true rfl, Nat.le_of_ble_eq_true rfl⟩) hK hG hA hP hD hS rfl hl.1 rfl (Nat.le_of_ble_eq_true rfl) dX12_takeFrom_89 ⟨Nat.le_refl _, Nat.le_refl _⟩ (fun H locs hP hD hS => ?_)
        refine lv_istore (lv' := [(7, .int r3.1), (6, .int (r1.2.2.2 29 ((((r1.2.1 59)) - 1)).toNatClampNeg)), (0, .ref (a 0)), (1, .int (L 1)), (2, .int (L 2)), (3, .int (L 3)), (4, .int (L 4)), (5, .int (L 5))]) hx hb dX12_takeFrom_92 hl (by decide) rfl (fun ls hl => ?_)
        refine lv_aload_n hx hb dX12_takeFrom_94 rfl (lv_at hl 2 rfl) ?_
        refine ng_17 hx hb hts in_x_takeFrom hown hK hP (hts _ (List.mem_cons_of_mem _ (List.mem_append_left _ (List.mem_append_left _ (List.mem_of_getElem? (i := 19) rfl))))) dX12_takeFrom_95 ?_
        refine lv_iload_n hx hb dX12_takeFrom_98 rfl (lv_at hl 3 rfl) ?_
        obtain ⟨q4, h⟩ := nb_ite1 h
        refine nl_7 hx hb hK hP q4 dX12_takeFrom_99 ?_
        refine lv_bipush (v := 25) hx hb dX12_takeFrom_100 (by decide) ?_
        refine lv_icmp_ne (tgt := 115) hx hb dX12_takeFrom_102 (by decide) (fun c5 => ?_) (fun c5 => ?_)
        · rw [if_neg c5] at h
          exact ih.2.2.2.2.1 (upd (upd L 6 ((r1.2.2.2 29 ((((r1.2.1 59)) - 1)).toNatClampNeg))) 7 r3.1) r3.2 r h H locs ls hP hD hS (lv_sub hl [2, 3, 4, 5, 6, 7, 1, 0] rfl)
        · rw [if_pos c5] at h
          refine lv_iload hx hb dX12_takeFrom_105 (lv_at hl 0 rfl) ?_
          refine lv_bipush (v := 6) hx hb dX12_takeFrom_107 (by decide) ?_
          refine lv_icmp_eq (tgt := 133) hx hb dX12_takeFrom_109 (by decide) (fun c6 => ?_) (fun c6 => ?_)
          · rw [if_pos c6] at h
            exact ih.2.2.2.2.2.2.1 (upd (upd L 6 ((r1.2.2.2 29 ((((r1.2.1 59)) - 1)).toNatClampNeg))) 7 r3.1) r3.2 r h H locs ls hP hD hS (lv_sub hl [2, 3, 4, 5, 6, 7, 1, 0] rfl)
          · rw [if_neg c6] at h
            refine lv_goto (tgt := 127) hx hb dX12_takeFrom_112 (by decide) ?_
            exact ih.2.2.2.2.2.1 (upd (upd L 6 ((r1.2.2.2 29 ((((r1.2.1 59)) - 1)).toNatClampNeg))) 7 r3.1) r3.2 r h H locs ls hP hD hS (lv_sub hl [2, 3, 4, 5, 6, 7, 1, 0] rfl)
      · intro L σ r h H locs ls hP hD hS hl
        rw [x_takeFrom] at h
        refine lv_iload hx hb dX12_takeFrom_115 (lv_at hl 7 rfl) ?_
        refine lv_iconst (v := 4) hx hb dX12_takeFrom_117 (by decide) ?_
        refine lv_icmp_eq (tgt := 133) hx hb dX12_takeFrom_118 (by decide) (fun c1 => ?_) (fun c1 => ?_)
        · rw [if_pos c1] at h
          exact ih.2.2.2.2.2.2.1 L σ r h H locs ls hP hD hS (lv_sub hl [0, 1, 2, 3, 4, 5, 6, 7] rfl)
        · rw [if_neg c1] at h
          refine lv_iload hx hb dX12_takeFrom_121 (lv_at hl 7 rfl) ?_
          refine lv_iconst (v := 5) hx hb dX12_takeFrom_123 (by decide) ?_
          refine lv_icmp_eq (tgt := 133) hx hb dX12_takeFrom_124 (by decide) (fun c2 => ?_) (fun c2 => ?_)
          · rw [if_pos c2] at h
            exact ih.2.2.2.2.2.2.1 L σ r h H locs ls hP hD hS (lv_sub hl [0, 1, 2, 3, 4, 5, 6, 7] rfl)
          · rw [if_neg c2] at h
            exact ih.2.2.2.2.2.1 L σ r h H locs ls hP hD hS (lv_sub hl [0, 1, 2, 3, 4, 5, 6, 7] rfl)
      · intro L σ r h H locs ls hP hD hS hl
        rw [x_takeFrom] at h
        refine lv_aload_n hx hb dX12_takeFrom_127 rfl (lv_at hl 0 rfl) ?_
        refine lv_iconst (v := 1) hx hb dX12_takeFrom_128 (by decide) ?_
        obtain ⟨r1, hc1, h⟩ := ob_ex h
        refine nc_Vv (As := [.int 1]) (rest := []) ⟨hx, hb, hml, hown, hts⟩ (c_x_fail l dC dI cy a k (upd (fun _ => 0) 1 1) σ r1 hc1 H.size) (cwV 1 hts g_x_takeFrom_fail_369 rfl rfl rfl hd_x_fail ⟨Nat.le_of_ble_eq_true rfl, Nat.le_of_ble_eq_true rfl⟩) hK hG hA hP hD hS rfl hl.1 rfl (Nat.le_of_ble_eq_true rfl) dX12_takeFrom_129 ⟨Nat.le_refl _, Nat.le_refl _⟩ (fun H locs hP hD hS => ?_)
        cases h
        exact W.vret hx hb hr (fun t ht hW => ⟨⟨(), rfl, trivial, by rw [ht]; exact hP, va_K.moved hW.alike hK, hD⟩, hS.F ht⟩) hS.2.2 dX12_takeFrom_132
      · intro L σ r h H locs ls hP hD hS hl
        rw [x_takeFrom] at h
        refine lv_aload_n hx hb dX12_takeFrom_133 rfl (lv_at hl 0 rfl) ?_
        refine ng_53 hx hb hts in_x_takeFrom hown hK hP (hts _ (List.mem_cons_of_mem _ (List.mem_append_left _ (List.mem_append_left _ (List.mem_of_getElem? (i := 23) rfl))))) dX12_takeFrom_134 ?_
        refine lv_iload hx hb dX12_takeFrom_137 (lv_at hl 6 rfl) ?_
        refine lv_iconst (v := 1) hx hb dX12_takeFrom_139 (by decide) ?_
        refine lv_iadd hx hb dX12_takeFrom_140 ?_
        obtain ⟨q1, h⟩ := nb_ite1 h
        refine nl_28 hx hb hK hP q1 dX12_takeFrom_141 ?_
        refine lv_istore (lv' := [(8, .int (σ.2.2 28 ((((L 6)) + 1)).toNatClampNeg)), (0, .ref (a 0)), (1, .int (L 1)), (2, .int (L 2)), (3, .int (L 3)), (4, .int (L 4)), (5, .int (L 5)), (6, .int (L 6)), (7, .int (L 7))]) hx hb dX12_takeFrom_142 hl (by decide) rfl (fun ls hl => ?_)
        refine lv_aload_n hx hb dX12_takeFrom_144 rfl (lv_at hl 1 rfl) ?_
        refine ng_59 hx hb hts in_x_takeFrom hown hK hP (hts _ (List.mem_cons_of_mem _ (List.mem_append_left _ (List.mem_append_left _ (List.mem_of_getElem? (i := 2) rfl))))) dX12_takeFrom_145 ?_
        refine lv_istore (lv' := [(9, .int (σ.1 59)), (8, .int (σ.2.2 28 ((((L 6)) + 1)).toNatClampNeg)), (0, .ref (a 0)), (1, .int (L 1)), (2, .int (L 2)), (3, .int (L 3)), (4, .int (L 4)), (5, .int (L 5)), (6, .int (L 6)), (7, .int (L 7))]) hx hb dX12_takeFrom_148 hl (by decide) rfl (fun ls hl => ?_)
        refine lv_aload_n hx hb dX12_takeFrom_150 rfl (lv_at hl 2 rfl) ?_
        refine lv_iconst (v := 0) hx hb dX12_takeFrom_151 (by decide) ?_
        obtain ⟨r2, hc2, h⟩ := ob_ex h
        refine nc_Vv (As := [.int 0]) (rest := []) ⟨hx, hb, hml, hown, hts⟩ (c_x_push l dC dI cy a k (upd (fun _ => 0) 1 0) σ r2 hc2 H.size) (cwV 1 hts g_x_takeFrom_push_594 rfl rfl rfl hd_x_push ⟨Nat.le_of_ble_eq_true rfl, Nat.le_of_ble_eq_true rfl⟩) hK hG hA hP hD hS rfl hl.1 rfl (Nat.le_of_ble_eq_true rfl) dX12_takeFrom_152 ⟨Nat.le_refl _, Nat.le_refl _⟩ (fun H locs hP hD hS => ?_)
        refine lv_iload hx hb dX12_takeFrom_155 (lv_at hl 1 rfl) ?_
        refine lv_if_le (tgt := 223) hx hb dX12_takeFrom_157 (by decide) (fun c3 => ?_) (fun c3 => ?_)
        · rw [if_pos c3] at h
          exact ih.2.2.2.2.2.2.2.2.2.2 (upd (upd L 8 ((σ.2.2 28 ((((L 6)) + 1)).toNatClampNeg))) 9 ((σ.1 59))) r2.2 r h H locs ls hP hD hS (lv_sub hl [2, 3, 4, 5, 6, 7, 8, 9, 1, 0] rfl)
        · rw [if_neg c3] at h
          refine lv_aload_n hx hb dX12_takeFrom_160 rfl (lv_at hl 2 rfl) ?_
          refine ng_17 hx hb hts in_x_takeFrom hown hK hP (hts _ (List.mem_cons_of_mem _ (List.mem_append_left _ (List.mem_append_left _ (List.mem_of_getElem? (i := 19) rfl))))) dX12_takeFrom_161 ?_
          refine lv_iload_n hx hb dX12_takeFrom_164 rfl (lv_at hl 3 rfl) ?_
          obtain ⟨q4, h⟩ := nb_ite1 h
          refine nl_7 hx hb hK hP q4 dX12_takeFrom_165 ?_
          refine lv_bipush (v := 27) hx hb dX12_takeFrom_166 (by decide) ?_
          refine lv_icmp_ne (tgt := 178) hx hb dX12_takeFrom_168 (by decide) (fun c5 => ?_) (fun c5 => ?_)
          · rw [if_neg c5] at h
            exact ih.2.2.2.2.2.2.2.1 (upd (upd L 8 ((σ.2.2 28 ((((L 6)) + 1)).toNatClampNeg))) 9 ((σ.1 59))) r2.2 r h H locs ls hP hD hS (lv_sub hl [2, 3, 4, 5, 6, 7, 8, 9, 1, 0] rfl)
          · rw [if_pos c5] at h
            refine lv_iload hx hb dX12_takeFrom_171 (lv_at hl 1 rfl) ?_
            refine lv_iconst (v := 1) hx hb dX12_takeFrom_173 (by decide) ?_
            refine lv_isub hx hb dX12_takeFrom_174 ?_
            refine lv_goto (tgt := 179) hx hb dX12_takeFrom_175 (by decide) ?_
            exact ih.2.2.2.2.2.2.2.2.1 (upd (upd (upd L 8 ((σ.2.2 28 ((((L 6)) + 1)).toNatClampNeg))) 9 ((σ.1 59))) 100 ((((σ.2.2 28 ((((L 6)) + 1)).toNatClampNeg)) - 1))) r2.2 r h H locs ls hP hD hS (lv_sub hl [2, 3, 4, 5, 6, 7, 8, 9, 1, 0] rfl)
      · intro L σ r h H locs ls hP hD hS hl
        rw [x_takeFrom] at h
        refine lv_iconst (v := 0) hx hb dX12_takeFrom_178 (by decide) ?_
        exact ih.2.2.2.2.2.2.2.2.1 (upd L 100 0) σ r h H locs ls hP hD hS (lv_sub hl [0, 1, 2, 3, 4, 5, 6, 7, 8, 9] rfl)
      · intro L σ r h H locs ls hP hD hS hl
        rw [x_takeFrom] at h
        refine lv_istore (lv' := [(10, .int (L 100)), (0, .ref (a 0)), (1, .int (L 1)), (2, .int (L 2)), (3, .int (L 3)), (4, .int (L 4)), (5, .int (L 5)), (6, .int (L 6)), (7, .int (L 7)), (8, .int (L 8)), (9, .int (L 9))]) hx hb dX12_takeFrom_179 hl (by decide) rfl (fun ls hl => ?_)
        refine lv_aload_n hx hb dX12_takeFrom_181 rfl (lv_at hl 1 rfl) ?_
        refine ng_58 hx hb hts in_x_takeFrom hown hK hP (hts _ (List.mem_cons_of_mem _ (List.mem_append_left _ (List.mem_append_left _ (List.mem_of_getElem? (i := 15) rfl))))) dX12_takeFrom_182 ?_
        refine lv_iload hx hb dX12_takeFrom_185 (lv_at hl 10 rfl) ?_
        refine lv_aload_n hx hb dX12_takeFrom_187 rfl (lv_at hl 1 rfl) ?_
        refine lv_iload hx hb dX12_takeFrom_188 (lv_at hl 7 rfl) ?_
        refine lv_iload hx hb dX12_takeFrom_190 (lv_at hl 0 rfl) ?_
        obtain ⟨r1, hc1, h⟩ := ob_ex h
        refine nc_Vi (As := [.int (L 6), .int (L 100)]) (rest := [.int (L 9), .ref (a 29)]) ⟨hx, hb, hml, hown, hts⟩ (c_x_memberAt l dC dI cy a k (upd (upd (fun _ => 0) 1 ((L 6))) 2 ((L 100))) σ r1 hc1 H.size) (cwV 2 hts g_x_takeFrom_memberAt_703 rfl rfl rfl hd_x_memberAt ⟨Nat.le_of_ble_eq_true rfl, Nat.le_of_ble_eq_true rfl⟩) hK hG hA hP hD hS rfl hl.1 rfl (Nat.le_of_ble_eq_true rfl) dX12_takeFrom_192 ⟨Nat.le_refl _, Nat.le_refl _⟩ (fun H locs hP hD hS => ?_)
        obtain ⟨q2, h⟩ := nb_ite1 h
        refine ns_29 hx hb hK hP hD hS q2 dX12_takeFrom_195 (fun H locs hP hD hS => ?_)
        exact ih.2.2.2.2.2.2.2.2.2.1 (upd L 10 ((L 100))) (r1.2.1, r1.2.2.1, updG r1.2.2.2 29 (upd (r1.2.2.2 29) ((L 9)).toNatClampNeg r1.1)) r h H locs ls hP hD hS (lv_sub hl [1, 2, 3, 4, 5, 6, 7, 8, 9, 10, 0] rfl)
      · intro L σ r h H locs ls hP hD hS hl
        rw [x_takeFrom] at h
        refine lv_aload_n hx hb dX12_takeFrom_196 rfl (lv_at hl 0 rfl) ?_
        refine lv_aload_n hx hb dX12_takeFrom_197 rfl (lv_at hl 0 rfl) ?_
        refine lv_aload_n hx hb dX12_takeFrom_198 rfl (lv_at hl 0 rfl) ?_
        refine lv_iload hx hb dX12_takeFrom_199 (lv_at hl 6 rfl) ?_
        refine lv_iload hx hb dX12_takeFrom_201 (lv_at hl 10 rfl) ?_
        obtain ⟨r1, hc1, h⟩ := ob_ex h
        refine nc_Vi (As := [.int (L 6), .int (L 10)]) (rest := [.ref (a 0), .ref (a 0)]) ⟨hx, hb, hml, hown, hts⟩ (c_x_without l dC dI cy a k (upd (upd (fun _ => 0) 1 ((L 6))) 2 ((L 10))) σ r1 hc1 H.size) (cwV 2 hts g_x_takeFrom_without_965 rfl rfl rfl hd_x_without ⟨Nat.le_of_ble_eq_true rfl, Nat.le_of_ble_eq_true rfl⟩) hK hG hA hP hD hS rfl hl.1 rfl (Nat.le_of_ble_eq_true rfl) dX12_takeFrom_203 ⟨Nat.le_refl _, Nat.le_refl _⟩ (fun H locs hP hD hS => ?_)
        obtain ⟨r2, hc2, h⟩ := ob_ex h
        refine nc_Vi (As := [.int r1.1]) (rest := [.ref (a 0)]) ⟨hx, hb, hml, hown, hts⟩ (c_x_answer l dC dI cy a k (upd (fun _ => 0) 1 r1.1) r1.2 r2 hc2 H.size) (cwV 1 hts g_x_takeFrom_answer_591 rfl rfl rfl hd_x_answer ⟨Nat.le_of_ble_eq_true rfl, Nat.le_of_ble_eq_true rfl⟩) hK hG hA hP hD hS rfl hl.1 rfl (Nat.le_of_ble_eq_true rfl) dX12_takeFrom_206 ⟨Nat.le_refl _, Nat.le_refl _⟩ (fun H locs hP hD hS => ?_)
        obtain ⟨r3, hc3, h⟩ := ob_ex h
        refine nc_Vv (As := [.int r2.1]) (rest := []) ⟨hx, hb, hml, hown, hts⟩ (c_x_push l dC dI cy a k (upd (fun _ => 0) 1 r2.1) r2.2 r3 hc3 H.size) (cwV 1 hts g_x_takeFrom_push_594 rfl rfl rfl hd_x_push ⟨Nat.le_of_ble_eq_true rfl, Nat.le_of_ble_eq_true rfl⟩) hK hG hA hP hD hS rfl hl.1 rfl (Nat.le_of_ble_eq_true rfl) dX12_takeFrom_209 ⟨Nat.le_refl _, Nat.le_refl _⟩ (fun H locs hP hD hS => ?_)
        refine lv_aload_n hx hb dX12_takeFrom_212 rfl (lv_at hl 0 rfl) ?_
        refine lv_iload_n hx hb dX12_takeFrom_213 rfl (lv_at hl 3 rfl) ?_
        refine lv_iload hx hb dX12_takeFrom_214 (lv_at hl 5 rfl) ?_
        refine lv_iload hx hb dX12_takeFrom_216 (lv_at hl 9 rfl) ?_
        refine lv_iconst (v := 1) hx hb dX12_takeFrom_218 (by decide) ?_
        refine lv_iadd hx hb dX12_takeFrom_219 ?_
        obtain ⟨r4, hc4, h⟩ := ob_ex h
        refine nc_Vv (As := [.int (L 3), .int (L 5), .int (((L 9)) + 1)]) (rest := []) ⟨hx, hb, hml, hown, hts⟩ (c_x_write l dC dI cy a k (upd (upd (upd (fun _ => 0) 1 ((L 3))) 2 ((L 5))) 3 ((((L 9)) + 1))) r3.2 r4 hc4 H.size) (cwV 3 hts g_x_takeFrom_write_904 rfl rfl rfl hd_x_write ⟨Nat.le_of_ble_eq_true rfl, Nat.le_of_ble_eq_true rfl⟩) hK hG hA hP hD hS rfl hl.1 rfl (Nat.le_of_ble_eq_true rfl) dX12_takeFrom_220 ⟨Nat.le_refl _, Nat.le_refl _⟩ (fun H locs hP hD hS => ?_)
        exact ih.2.2.2.2.2.2.2.2.2.2 L r4.2 r h H locs ls hP hD hS (lv_sub hl [0, 1, 2, 3, 4, 5, 6, 7, 8, 9] rfl)
      · intro L σ r h H locs ls hP hD hS hl
        rw [x_takeFrom] at h
        refine lv_aload_n hx hb dX12_takeFrom_223 rfl (lv_at hl 0 rfl) ?_
        refine lv_iload_n hx hb dX12_takeFrom_224 rfl (lv_at hl 2 rfl) ?_
        refine lv_iload hx hb dX12_takeFrom_225 (lv_at hl 4 rfl) ?_
        refine lv_iload hx hb dX12_takeFrom_227 (lv_at hl 9 rfl) ?_
        obtain ⟨r1, hc1, h⟩ := ob_ex h
        refine nc_Vv (As := [.int (L 2), .int (L 4), .int (L 9)]) (rest := []) ⟨hx, hb, hml, hown, hts⟩ (c_x_write l dC dI cy a k (upd (upd (upd (fun _ => 0) 1 ((L 2))) 2 ((L 4))) 3 ((L 9))) σ r1 hc1 H.size) (cwV 3 hts g_x_takeFrom_write_904 rfl rfl rfl hd_x_write ⟨Nat.le_of_ble_eq_true rfl, Nat.le_of_ble_eq_true rfl⟩) hK hG hA hP hD hS rfl hl.1 rfl (Nat.le_of_ble_eq_true rfl) dX12_takeFrom_229 ⟨Nat.le_refl _, Nat.le_refl _⟩ (fun H locs hP hD hS => ?_)
        refine lv_aload_n hx hb dX12_takeFrom_232 rfl (lv_at hl 0 rfl) ?_
        refine lv_iload_n hx hb dX12_takeFrom_233 rfl (lv_at hl 1 rfl) ?_
        obtain ⟨r2, hc2, h⟩ := ob_ex h
        refine nc_Vv (As := [.int (L 1)]) (rest := []) ⟨hx, hb, hml, hown, hts⟩ (c_x_pass l dC dI cy a k (upd (fun _ => 0) 1 ((L 1))) r1.2 r2 hc2 H.size) (cwV 1 hts g_x_takeFrom_pass_926 rfl rfl rfl hd_x_pass ⟨Nat.le_of_ble_eq_true rfl, Nat.le_of_ble_eq_true rfl⟩) hK hG hA hP hD hS rfl hl.1 rfl (Nat.le_of_ble_eq_true rfl) dX12_takeFrom_234 ⟨Nat.le_refl _, Nat.le_refl _⟩ (fun H locs hP hD hS => ?_)
        cases h
        exact W.vret hx hb hr (fun t ht hW => ⟨⟨(), rfl, trivial, by rw [ht]; exact hP, va_K.moved hW.alike hK, hD⟩, hS.F ht⟩) hS.2.2 dX12_takeFrom_237
  exact (blk k0).1 L0 σ0 r0 h0 s.heap [] ls hP hD hS hl
/-! testAgain -/
def x_testAgain : Nat → Nat → (Nat → Int32) → MS → Option (Int32 × MS)
  | 0, _, _, _ => none
  | k + 1, 0, L, σ => if ¬ (((L 1)) < 0 ∨ 70000 ≤ ((L 1)).toNatClampNeg) then (ob (x_holds k 0 (upd (fun _ => 0) 1 ((σ.2.2 5 ((L 1)).toNatClampNeg))) σ) (fun r2 => if ((r2.2.1 56)) ≤ 0 then (x_testAgain k 1 (upd L 2 r2.1) r2.2) else (some (0, r2.2)))) else none
  | k + 1, 1, L, σ => if ((L 2)) = 0 then (x_testAgain k 2 L σ) else (if ¬ (((L 1)) < 0 ∨ 70000 ≤ ((L 1)).toNatClampNeg) then (ob (x_enter k 0 (upd (upd (fun _ => 0) 1 ((σ.2.2 6 ((L 1)).toNatClampNeg))) 2 ((L 1))) σ) (fun r3 => x_testAgain k 3 L r3.2)) else none)
  | k + 1, 2, L, σ => ob (x_goOnBehind k 0 (upd (fun _ => 0) 1 ((L 1))) σ) (fun r1 => x_testAgain k 3 L r1.2)
  | k + 1, 3, L, σ => some (0, σ)
  | _ + 1, _ + 4, _, _ => none
def o_x_testAgain : List Cond := [.fieldLink RX12 86 "SetHouseModel" "x1" "[I", .methodLink RX12 672 yX12_holds, .instanceMethod yX12_holds, .selects RX12 yX12_holds yX12_holds, .initialized RX12, .fieldLink RX12 362 "SetHouseModel" "err" "I", .fieldLink RX12 89 "SetHouseModel" "x2" "[I", .methodLink RX12 895 yX12_enter, .instanceMethod yX12_enter, .selects RX12 yX12_enter yX12_enter, .methodLink RX12 874 yX12_goOnBehind, .instanceMethod yX12_goOnBehind, .selects RX12 yX12_goOnBehind yX12_goOnBehind]
theorem o_x_testAgain_good : o_x_testAgain.all goodWord = true := by decide +kernel
def p_x_testAgain : List Cond := o_x_testAgain ++ ((.code yX12_holds cX12_holds 2 (some .boolean) :: p_x_GV) ++ ((.code yX12_enter cX12_enter 3 none :: p_x_enter) ++ ((.code yX12_goOnBehind cX12_goOnBehind 2 none :: p_x_goOnBehind) ++ [])))
theorem p_x_testAgain_good : p_x_testAgain.all goodWord = true := nb_all2 o_x_testAgain_good (nb_all2 (nb_allc (by decide +kernel) p_x_GV_good) (nb_all2 (nb_allc (by decide +kernel) p_x_enter_good) (nb_all2 (nb_allc (by decide +kernel) p_x_goOnBehind_good) rfl)))
def w_x_testAgain : List Cond := .code yX12_testAgain cX12_testAgain 3 none :: (p_x_testAgain ++ fM)
theorem w_x_testAgain_good : w_x_testAgain.all goodWord = true := nb_allc (by decide +kernel) (nb_all2 p_x_testAgain_good fM_good)
theorem in_x_testAgain : ∀ w ∈ wsX120, w ∈ w_x_testAgain := fun _ h => List.mem_cons_of_mem _ (List.mem_append_right _ h)
theorem hd_x_testAgain : yX12_testAgain.cls = RX12 ∧ yX12_testAgain.cls ≠ "java/lang/invoke/MethodHandle" ∧ yX12_testAgain.cls ≠ "java/lang/invoke/VarHandle" ∧ (parseMethodDescriptor yX12_testAgain.desc).map (fun d => d.parameters.length) = some 1 := by decide +kernel
theorem gg_x_testAgain_enter : GoodIn w_x_testAgain w_x_enter := goodIn_sub (fun w h => (List.mem_cons.mp h).elim (fun e => (List.mem_cons_of_mem _ (List.mem_append_left _ (List.mem_append_right _ (List.mem_append_right _ (List.mem_append_left _ (List.mem_cons.mpr (Or.inl e)))))))) (fun h => (List.mem_append.mp h).elim (fun h => (List.mem_cons_of_mem _ (List.mem_append_left _ (List.mem_append_right _ (List.mem_append_right _ (List.mem_append_left _ (List.mem_cons_of_mem _ h))))))) (fun h => List.mem_cons_of_mem _ (List.mem_append_right _ h)))) w_x_enter_good
theorem g_x_testAgain_enter_895 : GoodIn w_x_testAgain (wsV RX12 895 RX12 yX12_enter w_x_enter) := goodIn_app (nb_g4 (List.mem_cons_of_mem _ (List.mem_append_left _ (List.mem_append_left _ (List.mem_of_getElem? (i := 7) rfl)))) (List.mem_cons_of_mem _ (List.mem_append_left _ (List.mem_append_left _ (List.mem_of_getElem? (i := 8) rfl)))) (List.mem_cons_of_mem _ (List.mem_append_left _ (List.mem_append_left _ (List.mem_of_getElem? (i := 9) rfl)))) (List.mem_cons_of_mem _ (List.mem_append_left _ (List.mem_append_left _ (List.mem_of_getElem? (i := 4) rfl)))) (by decide +kernel)) gg_x_testAgain_enter
theorem gg_x_testAgain_goOnBehind : GoodIn w_x_testAgain w_x_goOnBehind := goodIn_sub (fun w h => (List.mem_cons.mp h).elim (fun e => (List.mem_cons_of_mem _ (List.mem_append_left _ (List.mem_append_right _ (List.mem_append_right _ (List.mem_append_right _ (List.mem_append_left _ (List.mem_cons.mpr (Or.inl e))))))))) (fun h => (List.mem_append.mp h).elim (fun h => (List.mem_cons_of_mem _ (List.mem_append_left _ (List.mem_append_right _ (List.mem_append_right _ (List.mem_append_right _ (List.mem_append_left _ (List.mem_cons_of_mem _ h)))))))) (fun h => List.mem_cons_of_mem _ (List.mem_append_right _ h)))) w_x_goOnBehind_good
theorem g_x_testAgain_goOnBehind_874 : GoodIn w_x_testAgain (wsV RX12 874 RX12 yX12_goOnBehind w_x_goOnBehind) := goodIn_app (nb_g4 (List.mem_cons_of_mem _ (List.mem_append_left _ (List.mem_append_left _ (List.mem_of_getElem? (i := 10) rfl)))) (List.mem_cons_of_mem _ (List.mem_append_left _ (List.mem_append_left _ (List.mem_of_getElem? (i := 11) rfl)))) (List.mem_cons_of_mem _ (List.mem_append_left _ (List.mem_append_left _ (List.mem_of_getElem? (i := 12) rfl)))) (List.mem_cons_of_mem _ (List.mem_append_left _ (List.mem_append_left _ (List.mem_of_getElem? (i := 4) rfl)))) (by decide +kernel)) gg_x_testAgain_goOnBehind
theorem gg_x_testAgain_holds : GoodIn w_x_testAgain w_x_holds := goodIn_sub (fun w h => (List.mem_cons.mp h).elim (fun e => (List.mem_cons_of_mem _ (List.mem_append_left _ (List.mem_append_right _ (List.mem_append_left _ (List.mem_cons.mpr (Or.inl e))))))) (fun h => (List.mem_append.mp h).elim (fun h => (List.mem_cons_of_mem _ (List.mem_append_left _ (List.mem_append_right _ (List.mem_append_left _ (List.mem_cons_of_mem _ h)))))) (fun h => List.mem_cons_of_mem _ (List.mem_append_right _ h)))) w_x_holds_good
theorem g_x_testAgain_holds_672 : GoodIn w_x_testAgain (wsV RX12 672 RX12 yX12_holds w_x_holds) := goodIn_app (nb_g4 (List.mem_cons_of_mem _ (List.mem_append_left _ (List.mem_append_left _ (List.mem_of_getElem? (i := 1) rfl)))) (List.mem_cons_of_mem _ (List.mem_append_left _ (List.mem_append_left _ (List.mem_of_getElem? (i := 2) rfl)))) (List.mem_cons_of_mem _ (List.mem_append_left _ (List.mem_append_left _ (List.mem_of_getElem? (i := 3) rfl)))) (List.mem_cons_of_mem _ (List.mem_append_left _ (List.mem_append_left _ (List.mem_of_getElem? (i := 4) rfl)))) (by decide +kernel)) gg_x_testAgain_holds
set_option maxHeartbeats 40000000 in
set_option maxRecDepth 100000 in
theorem c_x_testAgain (l : Launch) (dC : Nat → ClassId) (dI : Nat → Nat → Nat) (cy : Nat → ClassId) (a : Nat → Nat) (k0 : Nat) (L0 : Nat → Int32) (σ0 : MS) (r0 : Int32 × MS) (h0 : x_testAgain k0 0 L0 σ0 = some r0) (sz : Nat) : Met l yX12_testAgain w_x_testAgain ({ frames := 1364, cells := 0, slots := 0, locals := 36637 }) (va_Pc [.ref (a 0), .int (L0 1)] (nIn (dC, dI) cy sz (vM cy a σ0))) (va_Qv (fun _ : Unit => True) (fun _ t => nOut (dC, dI) cy (va_A (vM cy a σ0) sz) (vM cy a r0.2) t) (va_A (vM cy a σ0) sz)) 0 0 (va_A (vM cy a σ0) sz) := by
  refine Met.ofW (cc := cX12_testAgain) (maxL := 3) (ret := none) (by decide) rfl ?_
  intro p e s m args below meth c s₁ B hml hv
  obtain ⟨rfl, hsz, hP, hK, hD0, hG⟩ := hv
  have hx := B.exec
  have hb := B.bytes
  have hr := B.returns
  have hts := atoms_spec (ws := w_x_testAgain) B.pre
  have hown : s.vm.findClass RX12 = some m.cls := findClass_of_methodNamed B.named
  have hlocks := B.notSynchronized
  subst hsz
  have hD := hD0.self (sz := s.heap.size)
  generalize hAe : va_A (vM cy a σ0) s.heap.size = A at hD ⊢
  have hA : ∀ q : Nat, s.heap.size ≤ q → A q := fun q h => by rw [← hAe]; exact Or.inr h
  have hS : va_S A s.heap s.heap [] := va_S.rf
  have hl := lv_entry ([.ref (a 0), .int (L0 1)]) (n := 3) (Nat.le_of_ble_eq_true rfl)
  rw [lg_entry_eq]
  generalize (lg_sl ([.ref (a 0), .int (L0 1)]) ++ List.replicate (3 - (lg_sl ([.ref (a 0), .int (L0 1)])).length) Slot.unset).toArray = ls at hl ⊢
  have hl : lv_has ls 3 [(0, .ref (a 0)), (1, .int (L0 1))] := hl
  have blk : ∀ k : Nat, (bT p l e (headSpec w_x_testAgain ({ frames := 1364, cells := 0, slots := 0, locals := 36637 })).room s m #[.ref (a 0), .int (L0 1)] below meth c dC dI cy a A (qV dC dI cy a A below #[.ref (a 0), .int (L0 1)] s) 3 (x_testAgain k 0) (fun L => [(0, .ref (a 0)), (1, .int (L 1))]) 0 (fun L => [])) ∧ (bT p l e (headSpec w_x_testAgain ({ frames := 1364, cells := 0, slots := 0, locals := 36637 })).room s m #[.ref (a 0), .int (L0 1)] below meth c dC dI cy a A (qV dC dI cy a A below #[.ref (a 0), .int (L0 1)] s) 3 (x_testAgain k 1) (fun L => [(0, .ref (a 0)), (1, .int (L 1)), (2, .int (L 2))]) 19 (fun L => [])) ∧ (bT p l e (headSpec w_x_testAgain ({ frames := 1364, cells := 0, slots := 0, locals := 36637 })).room s m #[.ref (a 0), .int (L0 1)] below meth c dC dI cy a A (qV dC dI cy a A below #[.ref (a 0), .int (L0 1)] s) 3 (x_testAgain k 2) (fun L => [(0, .ref (a 0)), (1, .int (L 1)), (2, .int (L 2))]) 37 (fun L => [])) ∧ (bT p l e (headSpec w_x_testAgain ({ frames := 1364, cells := 0, slots := 0, locals := 36637 })).room s m #[.ref (a 0), .int (L0 1)] below meth c dC dI cy a A (qV dC dI cy a A below #[.ref (a 0), .int (L0 1)] s) 3 (x_testAgain k 3) (fun L => [(0, .ref (a 0)), (1, .int (L 1)), (2, .int (L 2))]) 42 (fun L => [])) := by
    intro k
    induction k with
    | zero => exact ⟨fun L σ r h => (by cases h), fun L σ r h => (by cases h), fun L σ r h => (by cases h), fun L σ r h => (by cases h)⟩
    | succ k ih =>
      refine ⟨?_, ?_, ?_, ?_⟩
      · intro L σ r h H locs ls hP hD hS hl
        rw [x_testAgain] at h
        refine lv_aload_n hx hb dX12_testAgain_0 rfl (lv_at hl 0 rfl) ?_
        refine lv_aload_n hx hb dX12_testAgain_1 rfl (lv_at hl 0 rfl) ?_
        refine ng_15 hx hb hts in_x_testAgain hown hK hP (hts _ (List.mem_cons_of_mem _ (List.mem_append_left _ (List.mem_append_left _ (List.mem_of_getElem? (i := 0) rfl))))) dX12_testAgain_2 ?_
        refine lv_iload_n hx hb dX12_testAgain_5 rfl (lv_at hl 1 rfl) ?_
        obtain ⟨q1, h⟩ := nb_ite1 h
        refine nl_5 hx hb hK hP q1 dX12_testAgain_6 ?_
        obtain ⟨r2, hc2, h⟩ := ob_ex h
        refine nc_Vi (As := [.int (σ.2.2 5 ((L 1)).toNatClampNeg)]) (rest := []) ⟨hx, hb, hml, hown, hts⟩ (c_x_holds l dC dI cy a k (upd (fun _ => 0) 1 ((σ.2.2 5 ((L 1)).toNatClampNeg))) σ r2 hc2 H.size) (cwV 1 hts g_x_testAgain_holds_672 rfl rfl rfl hd_x_holds ⟨Nat.le_of_ble_eq_true rfl, Nat.le_of_ble_eq_true rfl⟩) hK hG hA hP hD hS rfl hl.1 rfl (Nat.le_of_ble_eq_true rfl) dX12_testAgain_7 ⟨Nat.le_refl _, Nat.le_refl _⟩ (fun H locs hP hD hS => ?_)
        refine lv_istore_n (lv' := [(2, .int r2.1), (0, .ref (a 0)), (1, .int (L 1))]) hx hb dX12_testAgain_10 rfl hl (by decide) rfl (fun ls hl => ?_)
        refine lv_aload_n hx hb dX12_testAgain_11 rfl (lv_at hl 1 rfl) ?_
        refine ng_56 hx hb hts in_x_testAgain hown hK hP (hts _ (List.mem_cons_of_mem _ (List.mem_append_left _ (List.mem_append_left _ (List.mem_of_getElem? (i := 5) rfl))))) dX12_testAgain_12 ?_
        refine lv_if_le (tgt := 19) hx hb dX12_testAgain_15 (by decide) (fun c3 => ?_) (fun c3 => ?_)
        · rw [if_pos c3] at h
          exact ih.2.1 (upd L 2 r2.1) r2.2 r h H locs ls hP hD hS (lv_sub hl [1, 2, 0] rfl)
        · rw [if_neg c3] at h
          cases h
          exact W.vret hx hb hr (fun t ht hW => ⟨⟨(), rfl, trivial, by rw [ht]; exact hP, va_K.moved hW.alike hK, hD⟩, hS.F ht⟩) hS.2.2 dX12_testAgain_18
      · intro L σ r h H locs ls hP hD hS hl
        rw [x_testAgain] at h
        refine lv_iload_n hx hb dX12_testAgain_19 rfl (lv_at hl 2 rfl) ?_
        refine lv_if_eq (tgt := 37) hx hb dX12_testAgain_20 (by decide) (fun c1 => ?_) (fun c1 => ?_)
        · rw [if_pos c1] at h
          exact ih.2.2.1 L σ r h H locs ls hP hD hS (lv_sub hl [0, 1, 2] rfl)
        · rw [if_neg c1] at h
          refine lv_aload_n hx hb dX12_testAgain_23 rfl (lv_at hl 0 rfl) ?_
          refine lv_aload_n hx hb dX12_testAgain_24 rfl (lv_at hl 0 rfl) ?_
          refine ng_16 hx hb hts in_x_testAgain hown hK hP (hts _ (List.mem_cons_of_mem _ (List.mem_append_left _ (List.mem_append_left _ (List.mem_of_getElem? (i := 6) rfl))))) dX12_testAgain_25 ?_
          refine lv_iload_n hx hb dX12_testAgain_28 rfl (lv_at hl 1 rfl) ?_
          obtain ⟨q2, h⟩ := nb_ite1 h
          refine nl_6 hx hb hK hP q2 dX12_testAgain_29 ?_
          refine lv_iload_n hx hb dX12_testAgain_30 rfl (lv_at hl 1 rfl) ?_
          obtain ⟨r3, hc3, h⟩ := ob_ex h
          refine nc_Vv (As := [.int (σ.2.2 6 ((L 1)).toNatClampNeg), .int (L 1)]) (rest := []) ⟨hx, hb, hml, hown, hts⟩ (c_x_enter l dC dI cy a k (upd (upd (fun _ => 0) 1 ((σ.2.2 6 ((L 1)).toNatClampNeg))) 2 ((L 1))) σ r3 hc3 H.size) (cwV 2 hts g_x_testAgain_enter_895 rfl rfl rfl hd_x_enter ⟨Nat.le_of_ble_eq_true rfl, Nat.le_of_ble_eq_true rfl⟩) hK hG hA hP hD hS rfl hl.1 rfl (Nat.le_of_ble_eq_true rfl) dX12_testAgain_31 ⟨Nat.le_refl _, Nat.le_refl _⟩ (fun H locs hP hD hS => ?_)
          refine lv_goto (tgt := 42) hx hb dX12_testAgain_34 (by decide) ?_
          exact ih.2.2.2 L r3.2 r h H locs ls hP hD hS (lv_sub hl [0, 1, 2] rfl)
      · intro L σ r h H locs ls hP hD hS hl
        rw [x_testAgain] at h
        refine lv_aload_n hx hb dX12_testAgain_37 rfl (lv_at hl 0 rfl) ?_
        refine lv_iload_n hx hb dX12_testAgain_38 rfl (lv_at hl 1 rfl) ?_
        obtain ⟨r1, hc1, h⟩ := ob_ex h
        refine nc_Vv (As := [.int (L 1)]) (rest := []) ⟨hx, hb, hml, hown, hts⟩ (c_x_goOnBehind l dC dI cy a k (upd (fun _ => 0) 1 ((L 1))) σ r1 hc1 H.size) (cwV 1 hts g_x_testAgain_goOnBehind_874 rfl rfl rfl hd_x_goOnBehind ⟨Nat.le_of_ble_eq_true rfl, Nat.le_of_ble_eq_true rfl⟩) hK hG hA hP hD hS rfl hl.1 rfl (Nat.le_of_ble_eq_true rfl) dX12_testAgain_39 ⟨Nat.le_refl _, Nat.le_refl _⟩ (fun H locs hP hD hS => ?_)
        exact ih.2.2.2 L r1.2 r h H locs ls hP hD hS (lv_sub hl [0, 1, 2] rfl)
      · intro L σ r h H locs ls hP hD hS hl
        rw [x_testAgain] at h
        cases h
        exact W.vret hx hb hr (fun t ht hW => ⟨⟨(), rfl, trivial, by rw [ht]; exact hP, va_K.moved hW.alike hK, hD⟩, hS.F ht⟩) hS.2.2 dX12_testAgain_42
  exact (blk k0).1 L0 σ0 r0 h0 s.heap [] ls hP hD hS hl
/-! begin -/
def x_begin : Nat → Nat → (Nat → Int32) → MS → Option (Int32 × MS)
  | 0, _, _, _ => none
  | k + 1, 0, L, σ => x_begin k 1 L (upd σ.1 103 ((((σ.1 103)) + 1)), σ.2.1, σ.2.2)
  | k + 1, 1, L, σ => if ¬ (((L 1)) < 0 ∨ 70000 ≤ ((L 1)).toNatClampNeg) then (if ¬ (((σ.2.2 8 ((L 1)).toNatClampNeg)) < 0 ∨ 401 ≤ ((σ.2.2 8 ((L 1)).toNatClampNeg)).toNatClampNeg) then (x_begin k 2 L (upd σ.1 104 ((σ.2.2 11 ((σ.2.2 8 ((L 1)).toNatClampNeg)).toNatClampNeg)), σ.2.1, σ.2.2)) else none) else none
  | k + 1, 2, L, σ => x_begin k 3 L (upd σ.1 57 0, σ.2.1, σ.2.2)
  | k + 1, 3, L, σ => x_begin k 4 L (upd σ.1 59 0, σ.2.1, σ.2.2)
  | k + 1, 4, L, σ => x_begin k 5 L (upd σ.1 72 0, σ.2.1, σ.2.2)
  | k + 1, 5, L, σ => x_begin k 6 L (upd σ.1 56 0, σ.2.1, σ.2.2)
  | k + 1, 6, L, σ => x_begin k 7 L (upd σ.1 67 0, σ.2.1, σ.2.2)
  | k + 1, 7, L, σ => x_begin k 8 L (upd σ.1 97 0, σ.2.1, σ.2.2)
  | k + 1, 8, L, σ => x_begin k 9 L (upd σ.1 69 0, σ.2.1, σ.2.2)
  | k + 1, 9, L, σ => ob (x_sweep k 0 (upd (fun _ => 0) 1 400000) σ) (fun r1 => if ¬ (((L 1)) < 0 ∨ 70000 ≤ ((L 1)).toNatClampNeg) then (if ((r1.2.2.2 4 ((L 1)).toNatClampNeg)) = (40 : Int32) then (x_begin k 10 L r1.2) else (if ((r1.2.2.2 4 ((L 1)).toNatClampNeg)) = (41 : Int32) then (x_begin k 10 L r1.2) else (if ((r1.2.2.2 4 ((L 1)).toNatClampNeg)) = (42 : Int32) then (x_begin k 11 L r1.2) else (if ((r1.2.2.2 4 ((L 1)).toNatClampNeg)) = (43 : Int32) then (x_begin k 12 L r1.2) else (if ((r1.2.2.2 4 ((L 1)).toNatClampNeg)) = (44 : Int32) then (x_begin k 13 L r1.2) else (if ((r1.2.2.2 4 ((L 1)).toNatClampNeg)) = (45 : Int32) then (x_begin k 14 L r1.2) else (if ((r1.2.2.2 4 ((L 1)).toNatClampNeg)) = (46 : Int32) then (x_begin k 15 L r1.2) else (if ((r1.2.2.2 4 ((L 1)).toNatClampNeg)) = (47 : Int32) then (x_begin k 16 L r1.2) else (if ((r1.2.2.2 4 ((L 1)).toNatClampNeg)) = (48 : Int32) then (x_begin k 17 L r1.2) else (if ((r1.2.2.2 4 ((L 1)).toNatClampNeg)) = (49 : Int32) then (x_begin k 18 L r1.2) else (if ((r1.2.2.2 4 ((L 1)).toNatClampNeg)) = (50 : Int32) then (x_begin k 18 L r1.2) else (if ((r1.2.2.2 4 ((L 1)).toNatClampNeg)) = (51 : Int32) then (x_begin k 19 L r1.2) else (if ((r1.2.2.2 4 ((L 1)).toNatClampNeg)) = (52 : Int32) then (x_begin k 20 L r1.2) else (if ((r1.2.2.2 4 ((L 1)).toNatClampNeg)) = (53 : Int32) then (x_begin k 21 L r1.2) else (if ((r1.2.2.2 4 ((L 1)).toNatClampNeg)) = (54 : Int32) then (x_begin k 23 L r1.2) else (if ((r1.2.2.2 4 ((L 1)).toNatClampNeg)) = (55 : Int32) then (x_begin k 24 L r1.2) else (x_begin k 25 L r1.2))))))))))))))))) else none)
  | k + 1, 10, L, σ => ob (x_assignTo k 0 (upd (fun _ => 0) 1 ((L 1))) σ) (fun r1 => x_begin k 26 L r1.2)
  | k + 1, 11, L, σ => ob (x_partsTo k 0 (upd (fun _ => 0) 1 ((L 1))) σ) (fun r1 => x_begin k 26 L r1.2)
  | k + 1, 12, L, σ => ob (x_takeFrom k 0 (upd (fun _ => 0) 1 ((L 1))) σ) (fun r1 => x_begin k 26 L r1.2)
  | k + 1, 13, L, σ => ob (x_makePoint k 0 (upd (fun _ => 0) 1 ((L 1))) σ) (fun r1 => if ¬ (((L 1)) < 0 ∨ 70000 ≤ ((L 1)).toNatClampNeg) then (ob (x_assign k 0 (upd (upd (fun _ => 0) 1 ((r1.2.2.2 5 ((L 1)).toNatClampNeg))) 2 2) r1.2) (fun r3 => ob (x_pass k 0 (upd (fun _ => 0) 1 ((L 1))) r3.2) (fun r4 => x_begin k 26 L r4.2))) else none)
  | k + 1, 14, L, σ => ob (x_beginCall k 0 (upd (fun _ => 0) 1 ((L 1))) σ) (fun r1 => x_begin k 26 L r1.2)
  | k + 1, 15, L, σ => if ¬ (((L 1)) < 0 ∨ 70000 ≤ ((L 1)).toNatClampNeg) then (ob (x_decide k 0 (upd (upd (fun _ => 0) 1 ((L 1))) 2 ((σ.2.2 5 ((L 1)).toNatClampNeg))) σ) (fun r2 => x_begin k 26 L r2.2)) else none
  | k + 1, 16, L, σ => ob (x_testAgain k 0 (upd (fun _ => 0) 1 ((L 1))) σ) (fun r1 => x_begin k 26 L r1.2)
  | k + 1, 17, L, σ => ob (x_beginFor k 0 (upd (fun _ => 0) 1 ((L 1))) σ) (fun r1 => x_begin k 26 L r1.2)
  | k + 1, 18, L, σ => ob (x_leave k 0 (upd (fun _ => 0) 1 ((L 1))) σ) (fun r1 => x_begin k 26 L r1.2)
  | k + 1, 19, L, σ => ob (x_returns k 0 (upd (fun _ => 0) 1 ((L 1))) σ) (fun r1 => x_begin k 26 L r1.2)
  | k + 1, 20, L, σ => ob (x_prints k 0 (upd (fun _ => 0) 1 ((L 1))) σ) (fun r1 => x_begin k 26 L r1.2)
  | k + 1, 21, L, σ => if ¬ (((L 1)) < 0 ∨ 70000 ≤ ((L 1)).toNatClampNeg) then (ob (x_holds k 0 (upd (fun _ => 0) 1 ((σ.2.2 5 ((L 1)).toNatClampNeg))) σ) (fun r2 => if r2.1 = 0 then (ob (x_fail k 0 (upd (fun _ => 0) 1 8) r2.2) (fun r4 => x_begin k 22 L r4.2)) else (x_begin k 22 L r2.2))) else none
  | k + 1, 22, L, σ => ob (x_pass k 0 (upd (fun _ => 0) 1 ((L 1))) σ) (fun r1 => x_begin k 26 L r1.2)
  | k + 1, 23, L, σ => x_begin k 26 L (upd σ.1 102 1, σ.2.1, σ.2.2)
  | k + 1, 24, L, σ => ob (x_succeed k 0 (upd (fun _ => 0) 1 ((L 1))) σ) (fun r1 => x_begin k 26 L r1.2)
  | k + 1, 25, L, σ => ob (x_backTrack k 0 (fun _ => 0) σ) (fun r1 => x_begin k 26 L r1.2)
  | k + 1, 26, L, σ => x_begin k 27 L (upd σ.1 108 ((σ.1 57)), σ.2.1, σ.2.2)
  | k + 1, 27, L, σ => if ((σ.1 56)) ≤ 0 then (x_begin k 30 L σ) else (x_begin k 28 L (upd σ.1 105 ((σ.1 56)), σ.2.1, σ.2.2))
  | k + 1, 28, L, σ => x_begin k 29 L (upd σ.1 102 1, σ.2.1, σ.2.2)
  | k + 1, 29, L, σ => ob (x_forget k 0 (fun _ => 0) σ) (fun r1 => x_begin k 30 L r1.2)
  | k + 1, 30, L, σ => some (0, σ)
  | _ + 1, _ + 31, _, _ => none
def o_x_begin : List Cond := [.fieldLink RX12 907 "SetHouseModel" "begunCount" "I", .fieldLink RX12 318 "SetHouseModel" "place" "[I", .fieldLink RX12 95 "SetHouseModel" "x4" "[I", .fieldLink RX12 910 "SetHouseModel" "lastPlace" "I", .fieldLink RX12 365 "SetHouseModel" "work" "I", .fieldLink RX12 385 "SetHouseModel" "top" "I", .fieldLink RX12 414 "SetHouseModel" "evTop" "I", .fieldLink RX12 362 "SetHouseModel" "err" "I", .fieldLink RX12 685 "SetHouseModel" "funcs" "I", .fieldLink RX12 688 "SetHouseModel" "deep" "I", .fieldLink RX12 557 "SetHouseModel" "inFrames" "Z", .constant RX12 913 (400000), .methodLink RX12 585 yX12_sweep, .instanceMethod yX12_sweep, .selects RX12 yX12_sweep yX12_sweep, .initialized RX12, .fieldLink RX12 83 "SetHouseModel" "op" "[I", .methodLink RX12 914 yX12_assignTo, .instanceMethod yX12_assignTo, .selects RX12 yX12_assignTo yX12_assignTo, .methodLink RX12 917 yX12_partsTo, .instanceMethod yX12_partsTo, .selects RX12 yX12_partsTo yX12_partsTo, .methodLink RX12 920 yX12_takeFrom, .instanceMethod yX12_takeFrom, .selects RX12 yX12_takeFrom yX12_takeFrom, .methodLink RX12 923 yX12_makePoint, .instanceMethod yX12_makePoint, .selects RX12 yX12_makePoint yX12_makePoint, .fieldLink RX12 86 "SetHouseModel" "x1" "[I", .methodLink RX12 840 yX12_assign, .instanceMethod yX12_assign, .selects RX12 yX12_assign yX12_assign, .methodLink RX12 926 yX12_pass, .instanceMethod yX12_pass, .selects RX12 yX12_pass yX12_pass, .methodLink RX12 929 yX12_beginCall, .instanceMethod yX12_beginCall, .selects RX12 yX12_beginCall yX12_beginCall, .methodLink RX12 932 yX12_decide, .instanceMethod yX12_decide, .selects RX12 yX12_decide yX12_decide, .methodLink RX12 935 yX12_testAgain, .instanceMethod yX12_testAgain, .selects RX12 yX12_testAgain yX12_testAgain, .methodLink RX12 938 yX12_beginFor, .instanceMethod yX12_beginFor, .selects RX12 yX12_beginFor yX12_beginFor, .methodLink RX12 941 yX12_leave, .instanceMethod yX12_leave, .selects RX12 yX12_leave yX12_leave, .methodLink RX12 944 yX12_returns, .instanceMethod yX12_returns, .selects RX12 yX12_returns yX12_returns, .methodLink RX12 947 yX12_prints, .instanceMethod yX12_prints, .selects RX12 yX12_prints yX12_prints, .methodLink RX12 672 yX12_holds, .instanceMethod yX12_holds, .selects RX12 yX12_holds yX12_holds, .methodLink RX12 369 yX12_fail, .instanceMethod yX12_fail, .selects RX12 yX12_fail yX12_fail, .fieldLink RX12 868 "SetHouseModel" "ended" "Z", .methodLink RX12 950 yX12_succeed, .instanceMethod yX12_succeed, .selects RX12 yX12_succeed yX12_succeed, .methodLink RX12 953 yX12_backTrack, .instanceMethod yX12_backTrack, .selects RX12 yX12_backTrack yX12_backTrack, .fieldLink RX12 956 "SetHouseModel" "workOfStatement" "I", .fieldLink RX12 959 "SetHouseModel" "error" "I", .methodLink RX12 962 yX12_forget, .instanceMethod yX12_forget, .selects RX12 yX12_forget yX12_forget]
theorem o_x_begin_good : o_x_begin.all goodWord = true := by decide +kernel
def p_x_begin : List Cond := o_x_begin ++ ((.code yX12_sweep cX12_sweep 5 none :: p_x_sweep) ++ ((.code yX12_assignTo cX12_assignTo 5 none :: p_x_assignTo) ++ ((.code yX12_partsTo cX12_partsTo 7 none :: p_x_partsTo) ++ ((.code yX12_takeFrom cX12_takeFrom 11 none :: p_x_takeFrom) ++ ((.code yX12_makePoint cX12_makePoint 3 none :: p_x_makePoint) ++ ((.code yX12_assign cX12_assign 4 none :: p_x_assign) ++ ((.code yX12_pass cX12_pass 2 none :: p_x_pass) ++ ((.code yX12_beginCall cX12_beginCall 8 none :: p_x_beginCall) ++ ((.code yX12_decide cX12_decide 5 none :: p_x_decide) ++ ((.code yX12_testAgain cX12_testAgain 3 none :: p_x_testAgain) ++ ((.code yX12_beginFor cX12_beginFor 3 none :: p_x_beginFor) ++ ((.code yX12_leave cX12_leave 4 none :: p_x_leave) ++ ((.code yX12_returns cX12_returns 3 none :: p_x_returns) ++ ((.code yX12_prints cX12_prints 5 none :: p_x_prints) ++ ((.code yX12_holds cX12_holds 2 (some .boolean) :: p_x_GV) ++ ((.code yX12_fail cX12_fail 2 none :: p_x_fail) ++ ((.code yX12_succeed cX12_succeed 2 none :: p_x_succeed) ++ ((.code yX12_backTrack cX12_backTrack 2 none :: p_x_backTrack) ++ ((.code yX12_forget cX12_forget 4 none :: p_x_forget) ++ [])))))))))))))))))))
theorem p_x_begin_good : p_x_begin.all goodWord = true := nb_all2 o_x_begin_good (nb_all2 (nb_allc (by decide +kernel) p_x_sweep_good) (nb_all2 (nb_allc (by decide +kernel) p_x_assignTo_good) (nb_all2 (nb_allc (by decide +kernel) p_x_partsTo_good) (nb_all2 (nb_allc (by decide +kernel) p_x_takeFrom_good) (nb_all2 (nb_allc (by decide +kernel) p_x_makePoint_good) (nb_all2 (nb_allc (by decide +kernel) p_x_assign_good) (nb_all2 (nb_allc (by decide +kernel) p_x_pass_good) (nb_all2 (nb_allc (by decide +kernel) p_x_beginCall_good) (nb_all2 (nb_allc (by decide +kernel) p_x_decide_good) (nb_all2 (nb_allc (by decide +kernel) p_x_testAgain_good) (nb_all2 (nb_allc (by decide +kernel) p_x_beginFor_good) (nb_all2 (nb_allc (by decide +kernel) p_x_leave_good) (nb_all2 (nb_allc (by decide +kernel) p_x_returns_good) (nb_all2 (nb_allc (by decide +kernel) p_x_prints_good) (nb_all2 (nb_allc (by decide +kernel) p_x_GV_good) (nb_all2 (nb_allc (by decide +kernel) p_x_fail_good) (nb_all2 (nb_allc (by decide +kernel) p_x_succeed_good) (nb_all2 (nb_allc (by decide +kernel) p_x_backTrack_good) (nb_all2 (nb_allc (by decide +kernel) p_x_forget_good) rfl)))))))))))))))))))
def w_x_begin : List Cond := .code yX12_begin cX12_begin 2 none :: (p_x_begin ++ fM)
theorem w_x_begin_good : w_x_begin.all goodWord = true := nb_allc (by decide +kernel) (nb_all2 p_x_begin_good fM_good)
theorem in_x_begin : ∀ w ∈ wsX120, w ∈ w_x_begin := fun _ h => List.mem_cons_of_mem _ (List.mem_append_right _ h)
theorem hd_x_begin : yX12_begin.cls = RX12 ∧ yX12_begin.cls ≠ "java/lang/invoke/MethodHandle" ∧ yX12_begin.cls ≠ "java/lang/invoke/VarHandle" ∧ (parseMethodDescriptor yX12_begin.desc).map (fun d => d.parameters.length) = some 1 := by decide +kernel
theorem gg_x_begin_assignTo : GoodIn w_x_begin w_x_assignTo := goodIn_sub (fun w h => (List.mem_cons.mp h).elim (fun e => (List.mem_cons_of_mem _ (List.mem_append_left _ (List.mem_append_right _ (List.mem_append_right _ (List.mem_append_left _ (List.mem_cons.mpr (Or.inl e)))))))) (fun h => (List.mem_append.mp h).elim (fun h => (List.mem_cons_of_mem _ (List.mem_append_left _ (List.mem_append_right _ (List.mem_append_right _ (List.mem_append_left _ (List.mem_cons_of_mem _ h))))))) (fun h => List.mem_cons_of_mem _ (List.mem_append_right _ h)))) w_x_assignTo_good
theorem g_x_begin_assignTo_914 : GoodIn w_x_begin (wsV RX12 914 RX12 yX12_assignTo w_x_assignTo) := goodIn_app (nb_g4 (List.mem_cons_of_mem _ (List.mem_append_left _ (List.mem_append_left _ (List.mem_of_getElem? (i := 17) rfl)))) (List.mem_cons_of_mem _ (List.mem_append_left _ (List.mem_append_left _ (List.mem_of_getElem? (i := 18) rfl)))) (List.mem_cons_of_mem _ (List.mem_append_left _ (List.mem_append_left _ (List.mem_of_getElem? (i := 19) rfl)))) (List.mem_cons_of_mem _ (List.mem_append_left _ (List.mem_append_left _ (List.mem_of_getElem? (i := 15) rfl)))) (by decide +kernel)) gg_x_begin_assignTo
theorem gg_x_begin_assign : GoodIn w_x_begin w_x_assign := goodIn_sub (fun w h => (List.mem_cons.mp h).elim (fun e => (List.mem_cons_of_mem _ (List.mem_append_left _ (List.mem_append_right _ (List.mem_append_right _ (List.mem_append_right _ (List.mem_append_right _ (List.mem_append_right _ (List.mem_append_right _ (List.mem_append_left _ (List.mem_cons.mpr (Or.inl e)))))))))))) (fun h => (List.mem_append.mp h).elim (fun h => (List.mem_cons_of_mem _ (List.mem_append_left _ (List.mem_append_right _ (List.mem_append_right _ (List.mem_append_right _ (List.mem_append_right _ (List.mem_append_right _ (List.mem_append_right _ (List.mem_append_left _ (List.mem_cons_of_mem _ h))))))))))) (fun h => List.mem_cons_of_mem _ (List.mem_append_right _ h)))) w_x_assign_good
theorem g_x_begin_assign_840 : GoodIn w_x_begin (wsV RX12 840 RX12 yX12_assign w_x_assign) := goodIn_app (nb_g4 (List.mem_cons_of_mem _ (List.mem_append_left _ (List.mem_append_left _ (List.mem_of_getElem? (i := 30) rfl)))) (List.mem_cons_of_mem _ (List.mem_append_left _ (List.mem_append_left _ (List.mem_of_getElem? (i := 31) rfl)))) (List.mem_cons_of_mem _ (List.mem_append_left _ (List.mem_append_left _ (List.mem_of_getElem? (i := 32) rfl)))) (List.mem_cons_of_mem _ (List.mem_append_left _ (List.mem_append_left _ (List.mem_of_getElem? (i := 15) rfl)))) (by decide +kernel)) gg_x_begin_assign
theorem gg_x_begin_backTrack : GoodIn w_x_begin w_x_backTrack := goodIn_sub (fun w h => (List.mem_cons.mp h).elim (fun e => (List.mem_cons_of_mem _ (List.mem_append_left _ (List.mem_append_right _ (List.mem_append_right _ (List.mem_append_right _ (List.mem_append_right _ (List.mem_append_right _ (List.mem_append_right _ (List.mem_append_right _ (List.mem_append_right _ (List.mem_append_right _ (List.mem_append_right _ (List.mem_append_right _ (List.mem_append_right _ (List.mem_append_right _ (List.mem_append_right _ (List.mem_append_right _ (List.mem_append_right _ (List.mem_append_right _ (List.mem_append_right _ (List.mem_append_left _ (List.mem_cons.mpr (Or.inl e)))))))))))))))))))))))) (fun h => (List.mem_append.mp h).elim (fun h => (List.mem_cons_of_mem _ (List.mem_append_left _ (List.mem_append_right _ (List.mem_append_right _ (List.mem_append_right _ (List.mem_append_right _ (List.mem_append_right _ (List.mem_append_right _ (List.mem_append_right _ (List.mem_append_right _ (List.mem_append_right _ (List.mem_append_right _ (List.mem_append_right _ (List.mem_append_right _ (List.mem_append_right _ (List.mem_append_right _ (List.mem_append_right _ (List.mem_append_right _ (List.mem_append_right _ (List.mem_append_right _ (List.mem_append_left _ (List.mem_cons_of_mem _ h))))))))))))))))))))))) (fun h => List.mem_cons_of_mem _ (List.mem_append_right _ h)))) w_x_backTrack_good
theorem g_x_begin_backTrack_953 : GoodIn w_x_begin (wsV RX12 953 RX12 yX12_backTrack w_x_backTrack) := goodIn_app (nb_g4 (List.mem_cons_of_mem _ (List.mem_append_left _ (List.mem_append_left _ (List.mem_of_getElem? (i := 67) rfl)))) (List.mem_cons_of_mem _ (List.mem_append_left _ (List.mem_append_left _ (List.mem_of_getElem? (i := 68) rfl)))) (List.mem_cons_of_mem _ (List.mem_append_left _ (List.mem_append_left _ (List.mem_of_getElem? (i := 69) rfl)))) (List.mem_cons_of_mem _ (List.mem_append_left _ (List.mem_append_left _ (List.mem_of_getElem? (i := 15) rfl)))) (by decide +kernel)) gg_x_begin_backTrack
theorem gg_x_begin_beginCall : GoodIn w_x_begin w_x_beginCall := goodIn_sub (fun w h => (List.mem_cons.mp h).elim (fun e => (List.mem_cons_of_mem _ (List.mem_append_left _ (List.mem_append_right _ (List.mem_append_right _ (List.mem_append_right _ (List.mem_append_right _ (List.mem_append_right _ (List.mem_append_right _ (List.mem_append_right _ (List.mem_append_right _ (List.mem_append_left _ (List.mem_cons.mpr (Or.inl e)))))))))))))) (fun h => (List.mem_append.mp h).elim (fun h => (List.mem_cons_of_mem _ (List.mem_append_left _ (List.mem_append_right _ (List.mem_append_right _ (List.mem_append_right _ (List.mem_append_right _ (List.mem_append_right _ (List.mem_append_right _ (List.mem_append_right _ (List.mem_append_right _ (List.mem_append_left _ (List.mem_cons_of_mem _ h))))))))))))) (fun h => List.mem_cons_of_mem _ (List.mem_append_right _ h)))) w_x_beginCall_good
theorem g_x_begin_beginCall_929 : GoodIn w_x_begin (wsV RX12 929 RX12 yX12_beginCall w_x_beginCall) := goodIn_app (nb_g4 (List.mem_cons_of_mem _ (List.mem_append_left _ (List.mem_append_left _ (List.mem_of_getElem? (i := 36) rfl)))) (List.mem_cons_of_mem _ (List.mem_append_left _ (List.mem_append_left _ (List.mem_of_getElem? (i := 37) rfl)))) (List.mem_cons_of_mem _ (List.mem_append_left _ (List.mem_append_left _ (List.mem_of_getElem? (i := 38) rfl)))) (List.mem_cons_of_mem _ (List.mem_append_left _ (List.mem_append_left _ (List.mem_of_getElem? (i := 15) rfl)))) (by decide +kernel)) gg_x_begin_beginCall
theorem gg_x_begin_beginFor : GoodIn w_x_begin w_x_beginFor := goodIn_sub (fun w h => (List.mem_cons.mp h).elim (fun e => (List.mem_cons_of_mem _ (List.mem_append_left _ (List.mem_append_right _ (List.mem_append_right _ (List.mem_append_right _ (List.mem_append_right _ (List.mem_append_right _ (List.mem_append_right _ (List.mem_append_right _ (List.mem_append_right _ (List.mem_append_right _ (List.mem_append_right _ (List.mem_append_right _ (List.mem_append_left _ (List.mem_cons.mpr (Or.inl e))))))))))))))))) (fun h => (List.mem_append.mp h).elim (fun h => (List.mem_cons_of_mem _ (List.mem_append_left _ (List.mem_append_right _ (List.mem_append_right _ (List.mem_append_right _ (List.mem_append_right _ (List.mem_append_right _ (List.mem_append_right _ (List.mem_append_right _ (List.mem_append_right _ (List.mem_append_right _ (List.mem_append_right _ (List.mem_append_right _ (List.mem_append_left _ (List.mem_cons_of_mem _ h)))))))))))))))) (fun h => List.mem_cons_of_mem _ (List.mem_append_right _ h)))) w_x_beginFor_good
theorem g_x_begin_beginFor_938 : GoodIn w_x_begin (wsV RX12 938 RX12 yX12_beginFor w_x_beginFor) := goodIn_app (nb_g4 (List.mem_cons_of_mem _ (List.mem_append_left _ (List.mem_append_left _ (List.mem_of_getElem? (i := 45) rfl)))) (List.mem_cons_of_mem _ (List.mem_append_left _ (List.mem_append_left _ (List.mem_of_getElem? (i := 46) rfl)))) (List.mem_cons_of_mem _ (List.mem_append_left _ (List.mem_append_left _ (List.mem_of_getElem? (i := 47) rfl)))) (List.mem_cons_of_mem _ (List.mem_append_left _ (List.mem_append_left _ (List.mem_of_getElem? (i := 15) rfl)))) (by decide +kernel)) gg_x_begin_beginFor
theorem gg_x_begin_decide : GoodIn w_x_begin w_x_decide := goodIn_sub (fun w h => (List.mem_cons.mp h).elim (fun e => (List.mem_cons_of_mem _ (List.mem_append_left _ (List.mem_append_right _ (List.mem_append_right _ (List.mem_append_right _ (List.mem_append_right _ (List.mem_append_right _ (List.mem_append_right _ (List.mem_append_right _ (List.mem_append_right _ (List.mem_append_right _ (List.mem_append_left _ (List.mem_cons.mpr (Or.inl e))))))))))))))) (fun h => (List.mem_append.mp h).elim (fun h => (List.mem_cons_of_mem _ (List.mem_append_left _ (List.mem_append_right _ (List.mem_append_right _ (List.mem_append_right _ (List.mem_append_right _ (List.mem_append_right _ (List.mem_append_right _ (List.mem_append_right _ (List.mem_append_right _ (List.mem_append_right _ (List.mem_append_left _ (List.mem_cons_of_mem _ h)))))))))))))) (fun h => List.mem_cons_of_mem _ (List.mem_append_right _ h)))) w_x_decide_good
theorem g_x_begin_decide_932 : GoodIn w_x_begin (wsV RX12 932 RX12 yX12_decide w_x_decide) := goodIn_app (nb_g4 (List.mem_cons_of_mem _ (List.mem_append_left _ (List.mem_append_left _ (List.mem_of_getElem? (i := 39) rfl)))) (List.mem_cons_of_mem _ (List.mem_append_left _ (List.mem_append_left _ (List.mem_of_getElem? (i := 40) rfl)))) (List.mem_cons_of_mem _ (List.mem_append_left _ (List.mem_append_left _ (List.mem_of_getElem? (i := 41) rfl)))) (List.mem_cons_of_mem _ (List.mem_append_left _ (List.mem_append_left _ (List.mem_of_getElem? (i := 15) rfl)))) (by decide +kernel)) gg_x_begin_decide
theorem gg_x_begin_fail : GoodIn w_x_begin w_x_fail := goodIn_sub (fun w h => (List.mem_cons.mp h).elim (fun e => (List.mem_cons_of_mem _ (List.mem_append_left _ (List.mem_append_right _ (List.mem_append_right _ (List.mem_append_right _ (List.mem_append_right _ (List.mem_append_right _ (List.mem_append_right _ (List.mem_append_right _ (List.mem_append_right _ (List.mem_append_right _ (List.mem_append_right _ (List.mem_append_right _ (List.mem_append_right _ (List.mem_append_right _ (List.mem_append_right _ (List.mem_append_right _ (List.mem_append_right _ (List.mem_append_left _ (List.mem_cons.mpr (Or.inl e)))))))))))))))))))))) (fun h => (List.mem_append.mp h).elim (fun h => (List.mem_cons_of_mem _ (List.mem_append_left _ (List.mem_append_right _ (List.mem_append_right _ (List.mem_append_right _ (List.mem_append_right _ (List.mem_append_right _ (List.mem_append_right _ (List.mem_append_right _ (List.mem_append_right _ (List.mem_append_right _ (List.mem_append_right _ (List.mem_append_right _ (List.mem_append_right _ (List.mem_append_right _ (List.mem_append_right _ (List.mem_append_right _ (List.mem_append_right _ (List.mem_append_left _ (List.mem_cons_of_mem _ h))))))))))))))))))))) (fun h => List.mem_cons_of_mem _ (List.mem_append_right _ h)))) w_x_fail_good
theorem g_x_begin_fail_369 : GoodIn w_x_begin (wsV RX12 369 RX12 yX12_fail w_x_fail) := goodIn_app (nb_g4 (List.mem_cons_of_mem _ (List.mem_append_left _ (List.mem_append_left _ (List.mem_of_getElem? (i := 60) rfl)))) (List.mem_cons_of_mem _ (List.mem_append_left _ (List.mem_append_left _ (List.mem_of_getElem? (i := 61) rfl)))) (List.mem_cons_of_mem _ (List.mem_append_left _ (List.mem_append_left _ (List.mem_of_getElem? (i := 62) rfl)))) (List.mem_cons_of_mem _ (List.mem_append_left _ (List.mem_append_left _ (List.mem_of_getElem? (i := 15) rfl)))) (by decide +kernel)) gg_x_begin_fail
theorem gg_x_begin_forget : GoodIn w_x_begin w_x_forget := goodIn_sub (fun w h => (List.mem_cons.mp h).elim (fun e => (List.mem_cons_of_mem _ (List.mem_append_left _ (List.mem_append_right _ (List.mem_append_right _ (List.mem_append_right _ (List.mem_append_right _ (List.mem_append_right _ (List.mem_append_right _ (List.mem_append_right _ (List.mem_append_right _ (List.mem_append_right _ (List.mem_append_right _ (List.mem_append_right _ (List.mem_append_right _ (List.mem_append_right _ (List.mem_append_right _ (List.mem_append_right _ (List.mem_append_right _ (List.mem_append_right _ (List.mem_append_right _ (List.mem_append_right _ (List.mem_append_left _ (List.mem_cons.mpr (Or.inl e))))))))))))))))))))))))) (fun h => (List.mem_append.mp h).elim (fun h => (List.mem_cons_of_mem _ (List.mem_append_left _ (List.mem_append_right _ (List.mem_append_right _ (List.mem_append_right _ (List.mem_append_right _ (List.mem_append_right _ (List.mem_append_right _ (List.mem_append_right _ (List.mem_append_right _ (List.mem_append_right _ (List.mem_append_right _ (List.mem_append_right _ (List.mem_append_right _ (List.mem_append_right _ (List.mem_append_right _ (List.mem_append_right _ (List.mem_append_right _ (List.mem_append_right _ (List.mem_append_right _ (List.mem_append_right _ (List.mem_append_left _ (List.mem_cons_of_mem _ h)))))))))))))))))))))))) (fun h => List.mem_cons_of_mem _ (List.mem_append_right _ h)))) w_x_forget_good
theorem g_x_begin_forget_962 : GoodIn w_x_begin (wsV RX12 962 RX12 yX12_forget w_x_forget) := goodIn_app (nb_g4 (List.mem_cons_of_mem _ (List.mem_append_left _ (List.mem_append_left _ (List.mem_of_getElem? (i := 72) rfl)))) (List.mem_cons_of_mem _ (List.mem_append_left _ (List.mem_append_left _ (List.mem_of_getElem? (i := 73) rfl)))) (List.mem_cons_of_mem _ (List.mem_append_left _ (List.mem_append_left _ (List.mem_of_getElem? (i := 74) rfl)))) (List.mem_cons_of_mem _ (List.mem_append_left _ (List.mem_append_left _ (List.mem_of_getElem? (i := 15) rfl)))) (by decide +kernel)) gg_x_begin_forget
theorem gg_x_begin_holds : GoodIn w_x_begin w_x_holds := goodIn_sub (fun w h => (List.mem_cons.mp h).elim (fun e => (List.mem_cons_of_mem _ (List.mem_append_left _ (List.mem_append_right _ (List.mem_append_right _ (List.mem_append_right _ (List.mem_append_right _ (List.mem_append_right _ (List.mem_append_right _ (List.mem_append_right _ (List.mem_append_right _ (List.mem_append_right _ (List.mem_append_right _ (List.mem_append_right _ (List.mem_append_right _ (List.mem_append_right _ (List.mem_append_right _ (List.mem_append_right _ (List.mem_append_left _ (List.mem_cons.mpr (Or.inl e))))))))))))))))))))) (fun h => (List.mem_append.mp h).elim (fun h => (List.mem_cons_of_mem _ (List.mem_append_left _ (List.mem_append_right _ (List.mem_append_right _ (List.mem_append_right _ (List.mem_append_right _ (List.mem_append_right _ (List.mem_append_right _ (List.mem_append_right _ (List.mem_append_right _ (List.mem_append_right _ (List.mem_append_right _ (List.mem_append_right _ (List.mem_append_right _ (List.mem_append_right _ (List.mem_append_right _ (List.mem_append_right _ (List.mem_append_left _ (List.mem_cons_of_mem _ h)))))))))))))))))))) (fun h => List.mem_cons_of_mem _ (List.mem_append_right _ h)))) w_x_holds_good
theorem g_x_begin_holds_672 : GoodIn w_x_begin (wsV RX12 672 RX12 yX12_holds w_x_holds) := goodIn_app (nb_g4 (List.mem_cons_of_mem _ (List.mem_append_left _ (List.mem_append_left _ (List.mem_of_getElem? (i := 57) rfl)))) (List.mem_cons_of_mem _ (List.mem_append_left _ (List.mem_append_left _ (List.mem_of_getElem? (i := 58) rfl)))) (List.mem_cons_of_mem _ (List.mem_append_left _ (List.mem_append_left _ (List.mem_of_getElem? (i := 59) rfl)))) (List.mem_cons_of_mem _ (List.mem_append_left _ (List.mem_append_left _ (List.mem_of_getElem? (i := 15) rfl)))) (by decide +kernel)) gg_x_begin_holds
theorem gg_x_begin_leave : GoodIn w_x_begin w_x_leave := goodIn_sub (fun w h => (List.mem_cons.mp h).elim (fun e => (List.mem_cons_of_mem _ (List.mem_append_left _ (List.mem_append_right _ (List.mem_append_right _ (List.mem_append_right _ (List.mem_append_right _ (List.mem_append_right _ (List.mem_append_right _ (List.mem_append_right _ (List.mem_append_right _ (List.mem_append_right _ (List.mem_append_right _ (List.mem_append_right _ (List.mem_append_right _ (List.mem_append_left _ (List.mem_cons.mpr (Or.inl e)))))))))))))))))) (fun h => (List.mem_append.mp h).elim (fun h => (List.mem_cons_of_mem _ (List.mem_append_left _ (List.mem_append_right _ (List.mem_append_right _ (List.mem_append_right _ (List.mem_append_right _ (List.mem_append_right _ (List.mem_append_right _ (List.mem_append_right _ (List.mem_append_right _ (List.mem_append_right _ (List.mem_append_right _ (List.mem_append_right _ (List.mem_append_right _ (List.mem_append_left _ (List.mem_cons_of_mem _ h))))))))))))))))) (fun h => List.mem_cons_of_mem _ (List.mem_append_right _ h)))) w_x_leave_good
theorem g_x_begin_leave_941 : GoodIn w_x_begin (wsV RX12 941 RX12 yX12_leave w_x_leave) := goodIn_app (nb_g4 (List.mem_cons_of_mem _ (List.mem_append_left _ (List.mem_append_left _ (List.mem_of_getElem? (i := 48) rfl)))) (List.mem_cons_of_mem _ (List.mem_append_left _ (List.mem_append_left _ (List.mem_of_getElem? (i := 49) rfl)))) (List.mem_cons_of_mem _ (List.mem_append_left _ (List.mem_append_left _ (List.mem_of_getElem? (i := 50) rfl)))) (List.mem_cons_of_mem _ (List.mem_append_left _ (List.mem_append_left _ (List.mem_of_getElem? (i := 15) rfl)))) (by decide +kernel)) gg_x_begin_leave
theorem gg_x_begin_makePoint : GoodIn w_x_begin w_x_makePoint := goodIn_sub (fun w h => (List.mem_cons.mp h).elim (fun e => (List.mem_cons_of_mem _ (List.mem_append_left _ (List.mem_append_right _ (List.mem_append_right _ (List.mem_append_right _ (List.mem_append_right _ (List.mem_append_right _ (List.mem_append_left _ (List.mem_cons.mpr (Or.inl e))))))))))) (fun h => (List.mem_append.mp h).elim (fun h => (List.mem_cons_of_mem _ (List.mem_append_left _ (List.mem_append_right _ (List.mem_append_right _ (List.mem_append_right _ (List.mem_append_right _ (List.mem_append_right _ (List.mem_append_left _ (List.mem_cons_of_mem _ h)))))))))) (fun h => List.mem_cons_of_mem _ (List.mem_append_right _ h)))) w_x_makePoint_good
theorem g_x_begin_makePoint_923 : GoodIn w_x_begin (wsV RX12 923 RX12 yX12_makePoint w_x_makePoint) := goodIn_app (nb_g4 (List.mem_cons_of_mem _ (List.mem_append_left _ (List.mem_append_left _ (List.mem_of_getElem? (i := 26) rfl)))) (List.mem_cons_of_mem _ (List.mem_append_left _ (List.mem_append_left _ (List.mem_of_getElem? (i := 27) rfl)))) (List.mem_cons_of_mem _ (List.mem_append_left _ (List.mem_append_left _ (List.mem_of_getElem? (i := 28) rfl)))) (List.mem_cons_of_mem _ (List.mem_append_left _ (List.mem_append_left _ (List.mem_of_getElem? (i := 15) rfl)))) (by decide +kernel)) gg_x_begin_makePoint
theorem gg_x_begin_partsTo : GoodIn w_x_begin w_x_partsTo := goodIn_sub (fun w h => (List.mem_cons.mp h).elim (fun e => (List.mem_cons_of_mem _ (List.mem_append_left _ (List.mem_append_right _ (List.mem_append_right _ (List.mem_append_right _ (List.mem_append_left _ (List.mem_cons.mpr (Or.inl e))))))))) (fun h => (List.mem_append.mp h).elim (fun h => (List.mem_cons_of_mem _ (List.mem_append_left _ (List.mem_append_right _ (List.mem_append_right _ (List.mem_append_right _ (List.mem_append_left _ (List.mem_cons_of_mem _ h)))))))) (fun h => List.mem_cons_of_mem _ (List.mem_append_right _ h)))) w_x_partsTo_good
theorem g_x_begin_partsTo_917 : GoodIn w_x_begin (wsV RX12 917 RX12 yX12_partsTo w_x_partsTo) := goodIn_app (nb_g4 (List.mem_cons_of_mem _ (List.mem_append_left _ (List.mem_append_left _ (List.mem_of_getElem? (i := 20) rfl)))) (List.mem_cons_of_mem _ (List.mem_append_left _ (List.mem_append_left _ (List.mem_of_getElem? (i := 21) rfl)))) (List.mem_cons_of_mem _ (List.mem_append_left _ (List.mem_append_left _ (List.mem_of_getElem? (i := 22) rfl)))) (List.mem_cons_of_mem _ (List.mem_append_left _ (List.mem_append_left _ (List.mem_of_getElem? (i := 15) rfl)))) (by decide +kernel)) gg_x_begin_partsTo
theorem gg_x_begin_pass : GoodIn w_x_begin w_x_pass := goodIn_sub (fun w h => (List.mem_cons.mp h).elim (fun e => (List.mem_cons_of_mem _ (List.mem_append_left _ (List.mem_append_right _ (List.mem_append_right _ (List.mem_append_right _ (List.mem_append_right _ (List.mem_append_right _ (List.mem_append_right _ (List.mem_append_right _ (List.mem_append_left _ (List.mem_cons.mpr (Or.inl e))))))))))))) (fun h => (List.mem_append.mp h).elim (fun h => (List.mem_cons_of_mem _ (List.mem_append_left _ (List.mem_append_right _ (List.mem_append_right _ (List.mem_append_right _ (List.mem_append_right _ (List.mem_append_right _ (List.mem_append_right _ (List.mem_append_right _ (List.mem_append_left _ (List.mem_cons_of_mem _ h)))))))))))) (fun h => List.mem_cons_of_mem _ (List.mem_append_right _ h)))) w_x_pass_good
theorem g_x_begin_pass_926 : GoodIn w_x_begin (wsV RX12 926 RX12 yX12_pass w_x_pass) := goodIn_app (nb_g4 (List.mem_cons_of_mem _ (List.mem_append_left _ (List.mem_append_left _ (List.mem_of_getElem? (i := 33) rfl)))) (List.mem_cons_of_mem _ (List.mem_append_left _ (List.mem_append_left _ (List.mem_of_getElem? (i := 34) rfl)))) (List.mem_cons_of_mem _ (List.mem_append_left _ (List.mem_append_left _ (List.mem_of_getElem? (i := 35) rfl)))) (List.mem_cons_of_mem _ (List.mem_append_left _ (List.mem_append_left _ (List.mem_of_getElem? (i := 15) rfl)))) (by decide +kernel)) gg_x_begin_pass
theorem gg_x_begin_prints : GoodIn w_x_begin w_x_prints := goodIn_sub (fun w h => (List.mem_cons.mp h).elim (fun e => (List.mem_cons_of_mem _ (List.mem_append_left _ (List.mem_append_right _ (List.mem_append_right _ (List.mem_append_right _ (List.mem_append_right _ (List.mem_append_right _ (List.mem_append_right _ (List.mem_append_right _ (List.mem_append_right _ (List.mem_append_right _ (List.mem_append_right _ (List.mem_append_right _ (List.mem_append_right _ (List.mem_append_right _ (List.mem_append_right _ (List.mem_append_left _ (List.mem_cons.mpr (Or.inl e)))))))))))))))))))) (fun h => (List.mem_append.mp h).elim (fun h => (List.mem_cons_of_mem _ (List.mem_append_left _ (List.mem_append_right _ (List.mem_append_right _ (List.mem_append_right _ (List.mem_append_right _ (List.mem_append_right _ (List.mem_append_right _ (List.mem_append_right _ (List.mem_append_right _ (List.mem_append_right _ (List.mem_append_right _ (List.mem_append_right _ (List.mem_append_right _ (List.mem_append_right _ (List.mem_append_right _ (List.mem_append_left _ (List.mem_cons_of_mem _ h))))))))))))))))))) (fun h => List.mem_cons_of_mem _ (List.mem_append_right _ h)))) w_x_prints_good
theorem g_x_begin_prints_947 : GoodIn w_x_begin (wsV RX12 947 RX12 yX12_prints w_x_prints) := goodIn_app (nb_g4 (List.mem_cons_of_mem _ (List.mem_append_left _ (List.mem_append_left _ (List.mem_of_getElem? (i := 54) rfl)))) (List.mem_cons_of_mem _ (List.mem_append_left _ (List.mem_append_left _ (List.mem_of_getElem? (i := 55) rfl)))) (List.mem_cons_of_mem _ (List.mem_append_left _ (List.mem_append_left _ (List.mem_of_getElem? (i := 56) rfl)))) (List.mem_cons_of_mem _ (List.mem_append_left _ (List.mem_append_left _ (List.mem_of_getElem? (i := 15) rfl)))) (by decide +kernel)) gg_x_begin_prints
theorem gg_x_begin_returns : GoodIn w_x_begin w_x_returns := goodIn_sub (fun w h => (List.mem_cons.mp h).elim (fun e => (List.mem_cons_of_mem _ (List.mem_append_left _ (List.mem_append_right _ (List.mem_append_right _ (List.mem_append_right _ (List.mem_append_right _ (List.mem_append_right _ (List.mem_append_right _ (List.mem_append_right _ (List.mem_append_right _ (List.mem_append_right _ (List.mem_append_right _ (List.mem_append_right _ (List.mem_append_right _ (List.mem_append_right _ (List.mem_append_left _ (List.mem_cons.mpr (Or.inl e))))))))))))))))))) (fun h => (List.mem_append.mp h).elim (fun h => (List.mem_cons_of_mem _ (List.mem_append_left _ (List.mem_append_right _ (List.mem_append_right _ (List.mem_append_right _ (List.mem_append_right _ (List.mem_append_right _ (List.mem_append_right _ (List.mem_append_right _ (List.mem_append_right _ (List.mem_append_right _ (List.mem_append_right _ (List.mem_append_right _ (List.mem_append_right _ (List.mem_append_right _ (List.mem_append_left _ (List.mem_cons_of_mem _ h)))))))))))))))))) (fun h => List.mem_cons_of_mem _ (List.mem_append_right _ h)))) w_x_returns_good
theorem g_x_begin_returns_944 : GoodIn w_x_begin (wsV RX12 944 RX12 yX12_returns w_x_returns) := goodIn_app (nb_g4 (List.mem_cons_of_mem _ (List.mem_append_left _ (List.mem_append_left _ (List.mem_of_getElem? (i := 51) rfl)))) (List.mem_cons_of_mem _ (List.mem_append_left _ (List.mem_append_left _ (List.mem_of_getElem? (i := 52) rfl)))) (List.mem_cons_of_mem _ (List.mem_append_left _ (List.mem_append_left _ (List.mem_of_getElem? (i := 53) rfl)))) (List.mem_cons_of_mem _ (List.mem_append_left _ (List.mem_append_left _ (List.mem_of_getElem? (i := 15) rfl)))) (by decide +kernel)) gg_x_begin_returns
theorem gg_x_begin_succeed : GoodIn w_x_begin w_x_succeed := goodIn_sub (fun w h => (List.mem_cons.mp h).elim (fun e => (List.mem_cons_of_mem _ (List.mem_append_left _ (List.mem_append_right _ (List.mem_append_right _ (List.mem_append_right _ (List.mem_append_right _ (List.mem_append_right _ (List.mem_append_right _ (List.mem_append_right _ (List.mem_append_right _ (List.mem_append_right _ (List.mem_append_right _ (List.mem_append_right _ (List.mem_append_right _ (List.mem_append_right _ (List.mem_append_right _ (List.mem_append_right _ (List.mem_append_right _ (List.mem_append_right _ (List.mem_append_left _ (List.mem_cons.mpr (Or.inl e))))))))))))))))))))))) (fun h => (List.mem_append.mp h).elim (fun h => (List.mem_cons_of_mem _ (List.mem_append_left _ (List.mem_append_right _ (List.mem_append_right _ (List.mem_append_right _ (List.mem_append_right _ (List.mem_append_right _ (List.mem_append_right _ (List.mem_append_right _ (List.mem_append_right _ (List.mem_append_right _ (List.mem_append_right _ (List.mem_append_right _ (List.mem_append_right _ (List.mem_append_right _ (List.mem_append_right _ (List.mem_append_right _ (List.mem_append_right _ (List.mem_append_right _ (List.mem_append_left _ (List.mem_cons_of_mem _ h)))))))))))))))))))))) (fun h => List.mem_cons_of_mem _ (List.mem_append_right _ h)))) w_x_succeed_good
theorem g_x_begin_succeed_950 : GoodIn w_x_begin (wsV RX12 950 RX12 yX12_succeed w_x_succeed) := goodIn_app (nb_g4 (List.mem_cons_of_mem _ (List.mem_append_left _ (List.mem_append_left _ (List.mem_of_getElem? (i := 64) rfl)))) (List.mem_cons_of_mem _ (List.mem_append_left _ (List.mem_append_left _ (List.mem_of_getElem? (i := 65) rfl)))) (List.mem_cons_of_mem _ (List.mem_append_left _ (List.mem_append_left _ (List.mem_of_getElem? (i := 66) rfl)))) (List.mem_cons_of_mem _ (List.mem_append_left _ (List.mem_append_left _ (List.mem_of_getElem? (i := 15) rfl)))) (by decide +kernel)) gg_x_begin_succeed
theorem gg_x_begin_sweep : GoodIn w_x_begin w_x_sweep := goodIn_sub (fun w h => (List.mem_cons.mp h).elim (fun e => (List.mem_cons_of_mem _ (List.mem_append_left _ (List.mem_append_right _ (List.mem_append_left _ (List.mem_cons.mpr (Or.inl e))))))) (fun h => (List.mem_append.mp h).elim (fun h => (List.mem_cons_of_mem _ (List.mem_append_left _ (List.mem_append_right _ (List.mem_append_left _ (List.mem_cons_of_mem _ h)))))) (fun h => List.mem_cons_of_mem _ (List.mem_append_right _ h)))) w_x_sweep_good
theorem g_x_begin_sweep_585 : GoodIn w_x_begin (wsV RX12 585 RX12 yX12_sweep w_x_sweep) := goodIn_app (nb_g4 (List.mem_cons_of_mem _ (List.mem_append_left _ (List.mem_append_left _ (List.mem_of_getElem? (i := 12) rfl)))) (List.mem_cons_of_mem _ (List.mem_append_left _ (List.mem_append_left _ (List.mem_of_getElem? (i := 13) rfl)))) (List.mem_cons_of_mem _ (List.mem_append_left _ (List.mem_append_left _ (List.mem_of_getElem? (i := 14) rfl)))) (List.mem_cons_of_mem _ (List.mem_append_left _ (List.mem_append_left _ (List.mem_of_getElem? (i := 15) rfl)))) (by decide +kernel)) gg_x_begin_sweep
theorem gg_x_begin_takeFrom : GoodIn w_x_begin w_x_takeFrom := goodIn_sub (fun w h => (List.mem_cons.mp h).elim (fun e => (List.mem_cons_of_mem _ (List.mem_append_left _ (List.mem_append_right _ (List.mem_append_right _ (List.mem_append_right _ (List.mem_append_right _ (List.mem_append_left _ (List.mem_cons.mpr (Or.inl e)))))))))) (fun h => (List.mem_append.mp h).elim (fun h => (List.mem_cons_of_mem _ (List.mem_append_left _ (List.mem_append_right _ (List.mem_append_right _ (List.mem_append_right _ (List.mem_append_right _ (List.mem_append_left _ (List.mem_cons_of_mem _ h))))))))) (fun h => List.mem_cons_of_mem _ (List.mem_append_right _ h)))) w_x_takeFrom_good
theorem g_x_begin_takeFrom_920 : GoodIn w_x_begin (wsV RX12 920 RX12 yX12_takeFrom w_x_takeFrom) := goodIn_app (nb_g4 (List.mem_cons_of_mem _ (List.mem_append_left _ (List.mem_append_left _ (List.mem_of_getElem? (i := 23) rfl)))) (List.mem_cons_of_mem _ (List.mem_append_left _ (List.mem_append_left _ (List.mem_of_getElem? (i := 24) rfl)))) (List.mem_cons_of_mem _ (List.mem_append_left _ (List.mem_append_left _ (List.mem_of_getElem? (i := 25) rfl)))) (List.mem_cons_of_mem _ (List.mem_append_left _ (List.mem_append_left _ (List.mem_of_getElem? (i := 15) rfl)))) (by decide +kernel)) gg_x_begin_takeFrom
theorem gg_x_begin_testAgain : GoodIn w_x_begin w_x_testAgain := goodIn_sub (fun w h => (List.mem_cons.mp h).elim (fun e => (List.mem_cons_of_mem _ (List.mem_append_left _ (List.mem_append_right _ (List.mem_append_right _ (List.mem_append_right _ (List.mem_append_right _ (List.mem_append_right _ (List.mem_append_right _ (List.mem_append_right _ (List.mem_append_right _ (List.mem_append_right _ (List.mem_append_right _ (List.mem_append_left _ (List.mem_cons.mpr (Or.inl e)))))))))))))))) (fun h => (List.mem_append.mp h).elim (fun h => (List.mem_cons_of_mem _ (List.mem_append_left _ (List.mem_append_right _ (List.mem_append_right _ (List.mem_append_right _ (List.mem_append_right _ (List.mem_append_right _ (List.mem_append_right _ (List.mem_append_right _ (List.mem_append_right _ (List.mem_append_right _ (List.mem_append_right _ (List.mem_append_left _ (List.mem_cons_of_mem _ h))))))))))))))) (fun h => List.mem_cons_of_mem _ (List.mem_append_right _ h)))) w_x_testAgain_good
theorem g_x_begin_testAgain_935 : GoodIn w_x_begin (wsV RX12 935 RX12 yX12_testAgain w_x_testAgain) := goodIn_app (nb_g4 (List.mem_cons_of_mem _ (List.mem_append_left _ (List.mem_append_left _ (List.mem_of_getElem? (i := 42) rfl)))) (List.mem_cons_of_mem _ (List.mem_append_left _ (List.mem_append_left _ (List.mem_of_getElem? (i := 43) rfl)))) (List.mem_cons_of_mem _ (List.mem_append_left _ (List.mem_append_left _ (List.mem_of_getElem? (i := 44) rfl)))) (List.mem_cons_of_mem _ (List.mem_append_left _ (List.mem_append_left _ (List.mem_of_getElem? (i := 15) rfl)))) (by decide +kernel)) gg_x_begin_testAgain
set_option maxHeartbeats 40000000 in
set_option maxRecDepth 100000 in
theorem c_x_begin (l : Launch) (dC : Nat → ClassId) (dI : Nat → Nat → Nat) (cy : Nat → ClassId) (a : Nat → Nat) (k0 : Nat) (L0 : Nat → Int32) (σ0 : MS) (r0 : Int32 × MS) (h0 : x_begin k0 0 L0 σ0 = some r0) (sz : Nat) : Met l yX12_begin w_x_begin ({ frames := 1367, cells := 0, slots := 0, locals := 36702 }) (va_Pc [.ref (a 0), .int (L0 1)] (nIn (dC, dI) cy sz (vM cy a σ0))) (va_Qv (fun _ : Unit => True) (fun _ t => nOut (dC, dI) cy (va_A (vM cy a σ0) sz) (vM cy a r0.2) t) (va_A (vM cy a σ0) sz)) 0 0 (va_A (vM cy a σ0) sz) := by
  refine Met.ofW (cc := cX12_begin) (maxL := 2) (ret := none) (by decide) rfl ?_
  intro p e s m args below meth c s₁ B hml hv
  obtain ⟨rfl, hsz, hP, hK, hD0, hG⟩ := hv
  have hx := B.exec
  have hb := B.bytes
  have hr := B.returns
  have hts := atoms_spec (ws := w_x_begin) B.pre
  have hown : s.vm.findClass RX12 = some m.cls := findClass_of_methodNamed B.named
  have hlocks := B.notSynchronized
  subst hsz
  have hD := hD0.self (sz := s.heap.size)
  generalize hAe : va_A (vM cy a σ0) s.heap.size = A at hD ⊢
  have hA : ∀ q : Nat, s.heap.size ≤ q → A q := fun q h => by rw [← hAe]; exact Or.inr h
  have hS : va_S A s.heap s.heap [] := va_S.rf
  have hl := lv_entry ([.ref (a 0), .int (L0 1)]) (n := 2) (Nat.le_of_ble_eq_true rfl)
  rw [lg_entry_eq]
  generalize (lg_sl ([.ref (a 0), .int (L0 1)]) ++ List.replicate (2 - (lg_sl ([.ref (a 0), .int (L0 1)])).length) Slot.unset).toArray = ls at hl ⊢
  have hl : lv_has ls 2 [(0, .ref (a 0)), (1, .int (L0 1))] := hl
  have blk : ∀ k : Nat, (bT p l e (headSpec w_x_begin ({ frames := 1367, cells := 0, slots := 0, locals := 36702 })).room s m #[.ref (a 0), .int (L0 1)] below meth c dC dI cy a A (qV dC dI cy a A below #[.ref (a 0), .int (L0 1)] s) 2 (x_begin k 0) (fun L => [(0, .ref (a 0)), (1, .int (L 1))]) 0 (fun L => [])) ∧ (bT p l e (headSpec w_x_begin ({ frames := 1367, cells := 0, slots := 0, locals := 36702 })).room s m #[.ref (a 0), .int (L0 1)] below meth c dC dI cy a A (qV dC dI cy a A below #[.ref (a 0), .int (L0 1)] s) 2 (x_begin k 1) (fun L => [(0, .ref (a 0)), (1, .int (L 1))]) 10 (fun L => [])) ∧ (bT p l e (headSpec w_x_begin ({ frames := 1367, cells := 0, slots := 0, locals := 36702 })).room s m #[.ref (a 0), .int (L0 1)] below meth c dC dI cy a A (qV dC dI cy a A below #[.ref (a 0), .int (L0 1)] s) 2 (x_begin k 2) (fun L => [(0, .ref (a 0)), (1, .int (L 1))]) 25 (fun L => [])) ∧ (bT p l e (headSpec w_x_begin ({ frames := 1367, cells := 0, slots := 0, locals := 36702 })).room s m #[.ref (a 0), .int (L0 1)] below meth c dC dI cy a A (qV dC dI cy a A below #[.ref (a 0), .int (L0 1)] s) 2 (x_begin k 3) (fun L => [(0, .ref (a 0)), (1, .int (L 1))]) 30 (fun L => [])) ∧ (bT p l e (headSpec w_x_begin ({ frames := 1367, cells := 0, slots := 0, locals := 36702 })).room s m #[.ref (a 0), .int (L0 1)] below meth c dC dI cy a A (qV dC dI cy a A below #[.ref (a 0), .int (L0 1)] s) 2 (x_begin k 4) (fun L => [(0, .ref (a 0)), (1, .int (L 1))]) 35 (fun L => [])) ∧ (bT p l e (headSpec w_x_begin ({ frames := 1367, cells := 0, slots := 0, locals := 36702 })).room s m #[.ref (a 0), .int (L0 1)] below meth c dC dI cy a A (qV dC dI cy a A below #[.ref (a 0), .int (L0 1)] s) 2 (x_begin k 5) (fun L => [(0, .ref (a 0)), (1, .int (L 1))]) 40 (fun L => [])) ∧ (bT p l e (headSpec w_x_begin ({ frames := 1367, cells := 0, slots := 0, locals := 36702 })).room s m #[.ref (a 0), .int (L0 1)] below meth c dC dI cy a A (qV dC dI cy a A below #[.ref (a 0), .int (L0 1)] s) 2 (x_begin k 6) (fun L => [(0, .ref (a 0)), (1, .int (L 1))]) 45 (fun L => [])) ∧ (bT p l e (headSpec w_x_begin ({ frames := 1367, cells := 0, slots := 0, locals := 36702 })).room s m #[.ref (a 0), .int (L0 1)] below meth c dC dI cy a A (qV dC dI cy a A below #[.ref (a 0), .int (L0 1)] s) 2 (x_begin k 7) (fun L => [(0, .ref (a 0)), (1, .int (L 1))]) 50 (fun L => [])) ∧ (bT p l e (headSpec w_x_begin ({ frames := 1367, cells := 0, slots := 0, locals := 36702 })).room s m #[.ref (a 0), .int (L0 1)] below meth c dC dI cy a A (qV dC dI cy a A below #[.ref (a 0), .int (L0 1)] s) 2 (x_begin k 8) (fun L => [(0, .ref (a 0)), (1, .int (L 1))]) 55 (fun L => [])) ∧ (bT p l e (headSpec w_x_begin ({ frames := 1367, cells := 0, slots := 0, locals := 36702 })).room s m #[.ref (a 0), .int (L0 1)] below meth c dC dI cy a A (qV dC dI cy a A below #[.ref (a 0), .int (L0 1)] s) 2 (x_begin k 9) (fun L => [(0, .ref (a 0)), (1, .int (L 1))]) 60 (fun L => [])) ∧ (bT p l e (headSpec w_x_begin ({ frames := 1367, cells := 0, slots := 0, locals := 36702 })).room s m #[.ref (a 0), .int (L0 1)] below meth c dC dI cy a A (qV dC dI cy a A below #[.ref (a 0), .int (L0 1)] s) 2 (x_begin k 10) (fun L => [(0, .ref (a 0)), (1, .int (L 1))]) 152 (fun L => [])) ∧ (bT p l e (headSpec w_x_begin ({ frames := 1367, cells := 0, slots := 0, locals := 36702 })).room s m #[.ref (a 0), .int (L0 1)] below meth c dC dI cy a A (qV dC dI cy a A below #[.ref (a 0), .int (L0 1)] s) 2 (x_begin k 11) (fun L => [(0, .ref (a 0)), (1, .int (L 1))]) 160 (fun L => [])) ∧ (bT p l e (headSpec w_x_begin ({ frames := 1367, cells := 0, slots := 0, locals := 36702 })).room s m #[.ref (a 0), .int (L0 1)] below meth c dC dI cy a A (qV dC dI cy a A below #[.ref (a 0), .int (L0 1)] s) 2 (x_begin k 12) (fun L => [(0, .ref (a 0)), (1, .int (L 1))]) 168 (fun L => [])) ∧ (bT p l e (headSpec w_x_begin ({ frames := 1367, cells := 0, slots := 0, locals := 36702 })).room s m #[.ref (a 0), .int (L0 1)] below meth c dC dI cy a A (qV dC dI cy a A below #[.ref (a 0), .int (L0 1)] s) 2 (x_begin k 13) (fun L => [(0, .ref (a 0)), (1, .int (L 1))]) 176 (fun L => [])) ∧ (bT p l e (headSpec w_x_begin ({ frames := 1367, cells := 0, slots := 0, locals := 36702 })).room s m #[.ref (a 0), .int (L0 1)] below meth c dC dI cy a A (qV dC dI cy a A below #[.ref (a 0), .int (L0 1)] s) 2 (x_begin k 14) (fun L => [(0, .ref (a 0)), (1, .int (L 1))]) 200 (fun L => [])) ∧ (bT p l e (headSpec w_x_begin ({ frames := 1367, cells := 0, slots := 0, locals := 36702 })).room s m #[.ref (a 0), .int (L0 1)] below meth c dC dI cy a A (qV dC dI cy a A below #[.ref (a 0), .int (L0 1)] s) 2 (x_begin k 15) (fun L => [(0, .ref (a 0)), (1, .int (L 1))]) 208 (fun L => [])) ∧ (bT p l e (headSpec w_x_begin ({ frames := 1367, cells := 0, slots := 0, locals := 36702 })).room s m #[.ref (a 0), .int (L0 1)] below meth c dC dI cy a A (qV dC dI cy a A below #[.ref (a 0), .int (L0 1)] s) 2 (x_begin k 16) (fun L => [(0, .ref (a 0)), (1, .int (L 1))]) 222 (fun L => [])) ∧ (bT p l e (headSpec w_x_begin ({ frames := 1367, cells := 0, slots := 0, locals := 36702 })).room s m #[.ref (a 0), .int (L0 1)] below meth c dC dI cy a A (qV dC dI cy a A below #[.ref (a 0), .int (L0 1)] s) 2 (x_begin k 17) (fun L => [(0, .ref (a 0)), (1, .int (L 1))]) 230 (fun L => [])) ∧ (bT p l e (headSpec w_x_begin ({ frames := 1367, cells := 0, slots := 0, locals := 36702 })).room s m #[.ref (a 0), .int (L0 1)] below meth c dC dI cy a A (qV dC dI cy a A below #[.ref (a 0), .int (L0 1)] s) 2 (x_begin k 18) (fun L => [(0, .ref (a 0)), (1, .int (L 1))]) 238 (fun L => [])) ∧ (bT p l e (headSpec w_x_begin ({ frames := 1367, cells := 0, slots := 0, locals := 36702 })).room s m #[.ref (a 0), .int (L0 1)] below meth c dC dI cy a A (qV dC dI cy a A below #[.ref (a 0), .int (L0 1)] s) 2 (x_begin k 19) (fun L => [(0, .ref (a 0)), (1, .int (L 1))]) 246 (fun L => [])) ∧ (bT p l e (headSpec w_x_begin ({ frames := 1367, cells := 0, slots := 0, locals := 36702 })).room s m #[.ref (a 0), .int (L0 1)] below meth c dC dI cy a A (qV dC dI cy a A below #[.ref (a 0), .int (L0 1)] s) 2 (x_begin k 20) (fun L => [(0, .ref (a 0)), (1, .int (L 1))]) 254 (fun L => [])) ∧ (bT p l e (headSpec w_x_begin ({ frames := 1367, cells := 0, slots := 0, locals := 36702 })).room s m #[.ref (a 0), .int (L0 1)] below meth c dC dI cy a A (qV dC dI cy a A below #[.ref (a 0), .int (L0 1)] s) 2 (x_begin k 21) (fun L => [(0, .ref (a 0)), (1, .int (L 1))]) 262 (fun L => [])) ∧ (bT p l e (headSpec w_x_begin ({ frames := 1367, cells := 0, slots := 0, locals := 36702 })).room s m #[.ref (a 0), .int (L0 1)] below meth c dC dI cy a A (qV dC dI cy a A below #[.ref (a 0), .int (L0 1)] s) 2 (x_begin k 22) (fun L => [(0, .ref (a 0)), (1, .int (L 1))]) 281 (fun L => [])) ∧ (bT p l e (headSpec w_x_begin ({ frames := 1367, cells := 0, slots := 0, locals := 36702 })).room s m #[.ref (a 0), .int (L0 1)] below meth c dC dI cy a A (qV dC dI cy a A below #[.ref (a 0), .int (L0 1)] s) 2 (x_begin k 23) (fun L => [(0, .ref (a 0)), (1, .int (L 1))]) 289 (fun L => [])) ∧ (bT p l e (headSpec w_x_begin ({ frames := 1367, cells := 0, slots := 0, locals := 36702 })).room s m #[.ref (a 0), .int (L0 1)] below meth c dC dI cy a A (qV dC dI cy a A below #[.ref (a 0), .int (L0 1)] s) 2 (x_begin k 24) (fun L => [(0, .ref (a 0)), (1, .int (L 1))]) 297 (fun L => [])) ∧ (bT p l e (headSpec w_x_begin ({ frames := 1367, cells := 0, slots := 0, locals := 36702 })).room s m #[.ref (a 0), .int (L0 1)] below meth c dC dI cy a A (qV dC dI cy a A below #[.ref (a 0), .int (L0 1)] s) 2 (x_begin k 25) (fun L => [(0, .ref (a 0)), (1, .int (L 1))]) 305 (fun L => [])) ∧ (bT p l e (headSpec w_x_begin ({ frames := 1367, cells := 0, slots := 0, locals := 36702 })).room s m #[.ref (a 0), .int (L0 1)] below meth c dC dI cy a A (qV dC dI cy a A below #[.ref (a 0), .int (L0 1)] s) 2 (x_begin k 26) (fun L => [(0, .ref (a 0)), (1, .int (L 1))]) 309 (fun L => [])) ∧ (bT p l e (headSpec w_x_begin ({ frames := 1367, cells := 0, slots := 0, locals := 36702 })).room s m #[.ref (a 0), .int (L0 1)] below meth c dC dI cy a A (qV dC dI cy a A below #[.ref (a 0), .int (L0 1)] s) 2 (x_begin k 27) (fun L => [(0, .ref (a 0)), (1, .int (L 1))]) 317 (fun L => [])) ∧ (bT p l e (headSpec w_x_begin ({ frames := 1367, cells := 0, slots := 0, locals := 36702 })).room s m #[.ref (a 0), .int (L0 1)] below meth c dC dI cy a A (qV dC dI cy a A below #[.ref (a 0), .int (L0 1)] s) 2 (x_begin k 28) (fun L => [(0, .ref (a 0)), (1, .int (L 1))]) 332 (fun L => [])) ∧ (bT p l e (headSpec w_x_begin ({ frames := 1367, cells := 0, slots := 0, locals := 36702 })).room s m #[.ref (a 0), .int (L0 1)] below meth c dC dI cy a A (qV dC dI cy a A below #[.ref (a 0), .int (L0 1)] s) 2 (x_begin k 29) (fun L => [(0, .ref (a 0)), (1, .int (L 1))]) 337 (fun L => [])) ∧ (bT p l e (headSpec w_x_begin ({ frames := 1367, cells := 0, slots := 0, locals := 36702 })).room s m #[.ref (a 0), .int (L0 1)] below meth c dC dI cy a A (qV dC dI cy a A below #[.ref (a 0), .int (L0 1)] s) 2 (x_begin k 30) (fun L => [(0, .ref (a 0)), (1, .int (L 1))]) 341 (fun L => [])) := by
    intro k
    induction k with
    | zero => exact ⟨fun L σ r h => (by cases h), fun L σ r h => (by cases h), fun L σ r h => (by cases h), fun L σ r h => (by cases h), fun L σ r h => (by cases h), fun L σ r h => (by cases h), fun L σ r h => (by cases h), fun L σ r h => (by cases h), fun L σ r h => (by cases h), fun L σ r h => (by cases h), fun L σ r h => (by cases h), fun L σ r h => (by cases h), fun L σ r h => (by cases h), fun L σ r h => (by cases h), fun L σ r h => (by cases h), fun L σ r h => (by cases h), fun L σ r h => (by cases h), fun L σ r h => (by cases h), fun L σ r h => (by cases h), fun L σ r h => (by cases h), fun L σ r h => (by cases h), fun L σ r h => (by cases h), fun L σ r h => (by cases h), fun L σ r h => (by cases h), fun L σ r h => (by cases h), fun L σ r h => (by cases h), fun L σ r h => (by cases h), fun L σ r h => (by cases h), fun L σ r h => (by cases h), fun L σ r h => (by cases h), fun L σ r h => (by cases h)⟩
    | succ k ih =>
      refine ⟨?_, ?_, ?_, ?_, ?_, ?_, ?_, ?_, ?_, ?_, ?_, ?_, ?_, ?_, ?_, ?_, ?_, ?_, ?_, ?_, ?_, ?_, ?_, ?_, ?_, ?_, ?_, ?_, ?_, ?_, ?_⟩
      · intro L σ r h H locs ls hP hD hS hl
        rw [x_begin] at h
        refine lv_aload_n hx hb dX12_begin_0 rfl (lv_at hl 0 rfl) ?_
        refine lv_dup hx hb dX12_begin_1 rfl ?_
        refine ng_103 hx hb hts in_x_begin hown hK hP (hts _ (List.mem_cons_of_mem _ (List.mem_append_left _ (List.mem_append_left _ (List.mem_of_getElem? (i := 0) rfl))))) dX12_begin_2 ?_
        refine lv_iconst (v := 1) hx hb dX12_begin_5 (by decide) ?_
        refine lv_iadd hx hb dX12_begin_6 ?_
        refine np_103 hx hb hts in_x_begin hown hK hP hD hS (hts _ (List.mem_cons_of_mem _ (List.mem_append_left _ (List.mem_append_left _ (List.mem_of_getElem? (i := 0) rfl))))) dX12_begin_7 (fun H locs hP hD hS => ?_)
        exact ih.2.1 L (upd σ.1 103 ((((σ.1 103)) + 1)), σ.2.1, σ.2.2) r h H locs ls hP hD hS (lv_sub hl [0, 1] rfl)
      · intro L σ r h H locs ls hP hD hS hl
        rw [x_begin] at h
        refine lv_aload_n hx hb dX12_begin_10 rfl (lv_at hl 0 rfl) ?_
        refine lv_aload_n hx hb dX12_begin_11 rfl (lv_at hl 0 rfl) ?_
        refine ng_21 hx hb hts in_x_begin hown hK hP (hts _ (List.mem_cons_of_mem _ (List.mem_append_left _ (List.mem_append_left _ (List.mem_of_getElem? (i := 1) rfl))))) dX12_begin_12 ?_
        refine lv_aload_n hx hb dX12_begin_15 rfl (lv_at hl 0 rfl) ?_
        refine ng_18 hx hb hts in_x_begin hown hK hP (hts _ (List.mem_cons_of_mem _ (List.mem_append_left _ (List.mem_append_left _ (List.mem_of_getElem? (i := 2) rfl))))) dX12_begin_16 ?_
        refine lv_iload_n hx hb dX12_begin_19 rfl (lv_at hl 1 rfl) ?_
        obtain ⟨q1, h⟩ := nb_ite1 h
        refine nl_8 hx hb hK hP q1 dX12_begin_20 ?_
        obtain ⟨q2, h⟩ := nb_ite1 h
        refine nl_11 hx hb hK hP q2 dX12_begin_21 ?_
        refine np_104 hx hb hts in_x_begin hown hK hP hD hS (hts _ (List.mem_cons_of_mem _ (List.mem_append_left _ (List.mem_append_left _ (List.mem_of_getElem? (i := 3) rfl))))) dX12_begin_22 (fun H locs hP hD hS => ?_)
        exact ih.2.2.1 L (upd σ.1 104 ((σ.2.2 11 ((σ.2.2 8 ((L 1)).toNatClampNeg)).toNatClampNeg)), σ.2.1, σ.2.2) r h H locs ls hP hD hS (lv_sub hl [0, 1] rfl)
      · intro L σ r h H locs ls hP hD hS hl
        rw [x_begin] at h
        refine lv_aload_n hx hb dX12_begin_25 rfl (lv_at hl 0 rfl) ?_
        refine lv_iconst (v := 0) hx hb dX12_begin_26 (by decide) ?_
        refine np_57 hx hb hts in_x_begin hown hK hP hD hS (hts _ (List.mem_cons_of_mem _ (List.mem_append_left _ (List.mem_append_left _ (List.mem_of_getElem? (i := 4) rfl))))) dX12_begin_27 (fun H locs hP hD hS => ?_)
        exact ih.2.2.2.1 L (upd σ.1 57 0, σ.2.1, σ.2.2) r h H locs ls hP hD hS (lv_sub hl [0, 1] rfl)
      · intro L σ r h H locs ls hP hD hS hl
        rw [x_begin] at h
        refine lv_aload_n hx hb dX12_begin_30 rfl (lv_at hl 0 rfl) ?_
        refine lv_iconst (v := 0) hx hb dX12_begin_31 (by decide) ?_
        refine np_59 hx hb hts in_x_begin hown hK hP hD hS (hts _ (List.mem_cons_of_mem _ (List.mem_append_left _ (List.mem_append_left _ (List.mem_of_getElem? (i := 5) rfl))))) dX12_begin_32 (fun H locs hP hD hS => ?_)
        exact ih.2.2.2.2.1 L (upd σ.1 59 0, σ.2.1, σ.2.2) r h H locs ls hP hD hS (lv_sub hl [0, 1] rfl)
      · intro L σ r h H locs ls hP hD hS hl
        rw [x_begin] at h
        refine lv_aload_n hx hb dX12_begin_35 rfl (lv_at hl 0 rfl) ?_
        refine lv_iconst (v := 0) hx hb dX12_begin_36 (by decide) ?_
        refine np_72 hx hb hts in_x_begin hown hK hP hD hS (hts _ (List.mem_cons_of_mem _ (List.mem_append_left _ (List.mem_append_left _ (List.mem_of_getElem? (i := 6) rfl))))) dX12_begin_37 (fun H locs hP hD hS => ?_)
        exact ih.2.2.2.2.2.1 L (upd σ.1 72 0, σ.2.1, σ.2.2) r h H locs ls hP hD hS (lv_sub hl [0, 1] rfl)
      · intro L σ r h H locs ls hP hD hS hl
        rw [x_begin] at h
        refine lv_aload_n hx hb dX12_begin_40 rfl (lv_at hl 0 rfl) ?_
        refine lv_iconst (v := 0) hx hb dX12_begin_41 (by decide) ?_
        refine np_56 hx hb hts in_x_begin hown hK hP hD hS (hts _ (List.mem_cons_of_mem _ (List.mem_append_left _ (List.mem_append_left _ (List.mem_of_getElem? (i := 7) rfl))))) dX12_begin_42 (fun H locs hP hD hS => ?_)
        exact ih.2.2.2.2.2.2.1 L (upd σ.1 56 0, σ.2.1, σ.2.2) r h H locs ls hP hD hS (lv_sub hl [0, 1] rfl)
      · intro L σ r h H locs ls hP hD hS hl
        rw [x_begin] at h
        refine lv_aload_n hx hb dX12_begin_45 rfl (lv_at hl 0 rfl) ?_
        refine lv_iconst (v := 0) hx hb dX12_begin_46 (by decide) ?_
        refine np_67 hx hb hts in_x_begin hown hK hP hD hS (hts _ (List.mem_cons_of_mem _ (List.mem_append_left _ (List.mem_append_left _ (List.mem_of_getElem? (i := 8) rfl))))) dX12_begin_47 (fun H locs hP hD hS => ?_)
        exact ih.2.2.2.2.2.2.2.1 L (upd σ.1 67 0, σ.2.1, σ.2.2) r h H locs ls hP hD hS (lv_sub hl [0, 1] rfl)
      · intro L σ r h H locs ls hP hD hS hl
        rw [x_begin] at h
        refine lv_aload_n hx hb dX12_begin_50 rfl (lv_at hl 0 rfl) ?_
        refine lv_iconst (v := 0) hx hb dX12_begin_51 (by decide) ?_
        refine np_97 hx hb hts in_x_begin hown hK hP hD hS (hts _ (List.mem_cons_of_mem _ (List.mem_append_left _ (List.mem_append_left _ (List.mem_of_getElem? (i := 9) rfl))))) dX12_begin_52 (fun H locs hP hD hS => ?_)
        exact ih.2.2.2.2.2.2.2.2.1 L (upd σ.1 97 0, σ.2.1, σ.2.2) r h H locs ls hP hD hS (lv_sub hl [0, 1] rfl)
      · intro L σ r h H locs ls hP hD hS hl
        rw [x_begin] at h
        refine lv_aload_n hx hb dX12_begin_55 rfl (lv_at hl 0 rfl) ?_
        refine lv_iconst (v := 0) hx hb dX12_begin_56 (by decide) ?_
        refine np_69 hx hb hts in_x_begin hown hK hP hD hS (hts _ (List.mem_cons_of_mem _ (List.mem_append_left _ (List.mem_append_left _ (List.mem_of_getElem? (i := 10) rfl))))) (Or.inl rfl) dX12_begin_57 (fun H locs hP hD hS => ?_)
        exact ih.2.2.2.2.2.2.2.2.2.1 L (upd σ.1 69 0, σ.2.1, σ.2.2) r h H locs ls hP hD hS (lv_sub hl [0, 1] rfl)
      · intro L σ r h H locs ls hP hD hS hl
        rw [x_begin] at h
        refine lv_aload_n hx hb dX12_begin_60 rfl (lv_at hl 0 rfl) ?_
        refine lv_ldcw (v := 400000) hx hb hown (hts _ (List.mem_cons_of_mem _ (List.mem_append_left _ (List.mem_append_left _ (List.mem_of_getElem? (i := 11) rfl))))) dX12_begin_61 ?_
        obtain ⟨r1, hc1, h⟩ := ob_ex h
        refine nc_Vv (As := [.int 400000]) (rest := []) ⟨hx, hb, hml, hown, hts⟩ (c_x_sweep l dC dI cy a k (upd (fun _ => 0) 1 400000) σ r1 hc1 H.size) (cwV 1 hts g_x_begin_sweep_585 rfl rfl rfl hd_x_sweep ⟨Nat.le_of_ble_eq_true rfl, Nat.le_of_ble_eq_true rfl⟩) hK hG hA hP hD hS rfl hl.1 rfl (Nat.le_of_ble_eq_true rfl) dX12_begin_64 ⟨Nat.le_refl _, Nat.le_refl _⟩ (fun H locs hP hD hS => ?_)
        refine lv_aload_n hx hb dX12_begin_67 rfl (lv_at hl 0 rfl) ?_
        refine ng_14 hx hb hts in_x_begin hown hK hP (hts _ (List.mem_cons_of_mem _ (List.mem_append_left _ (List.mem_append_left _ (List.mem_of_getElem? (i := 16) rfl))))) dX12_begin_68 ?_
        refine lv_iload_n hx hb dX12_begin_71 rfl (lv_at hl 1 rfl) ?_
        obtain ⟨q2, h⟩ := nb_ite1 h
        refine nl_4 hx hb hK hP q2 dX12_begin_72 ?_
        by_cases q3 : ((r1.2.2.2 4 ((L 1)).toNatClampNeg)) = (40 : Int32)
        · rw [if_pos q3] at h
          refine lv_tableIn (off := 79) (tgt := 152) hx hb dX12_begin_73 (by rw [q3]; decide) (by rw [q3]; decide) (by rw [q3]; decide) (by decide) ?_
          exact ih.2.2.2.2.2.2.2.2.2.2.1 L r1.2 r h H locs ls hP hD hS (lv_sub hl [0, 1] rfl)
        · rw [if_neg q3] at h
          by_cases q4 : ((r1.2.2.2 4 ((L 1)).toNatClampNeg)) = (41 : Int32)
          · rw [if_pos q4] at h
            refine lv_tableIn (off := 79) (tgt := 152) hx hb dX12_begin_73 (by rw [q4]; decide) (by rw [q4]; decide) (by rw [q4]; decide) (by decide) ?_
            exact ih.2.2.2.2.2.2.2.2.2.2.1 L r1.2 r h H locs ls hP hD hS (lv_sub hl [0, 1] rfl)
          · rw [if_neg q4] at h
            by_cases q5 : ((r1.2.2.2 4 ((L 1)).toNatClampNeg)) = (42 : Int32)
            · rw [if_pos q5] at h
              refine lv_tableIn (off := 87) (tgt := 160) hx hb dX12_begin_73 (by rw [q5]; decide) (by rw [q5]; decide) (by rw [q5]; decide) (by decide) ?_
              exact ih.2.2.2.2.2.2.2.2.2.2.2.1 L r1.2 r h H locs ls hP hD hS (lv_sub hl [0, 1] rfl)
            · rw [if_neg q5] at h
              by_cases q6 : ((r1.2.2.2 4 ((L 1)).toNatClampNeg)) = (43 : Int32)
              · rw [if_pos q6] at h
                refine lv_tableIn (off := 95) (tgt := 168) hx hb dX12_begin_73 (by rw [q6]; decide) (by rw [q6]; decide) (by rw [q6]; decide) (by decide) ?_
                exact ih.2.2.2.2.2.2.2.2.2.2.2.2.1 L r1.2 r h H locs ls hP hD hS (lv_sub hl [0, 1] rfl)
              · rw [if_neg q6] at h
                by_cases q7 : ((r1.2.2.2 4 ((L 1)).toNatClampNeg)) = (44 : Int32)
                · rw [if_pos q7] at h
                  refine lv_tableIn (off := 103) (tgt := 176) hx hb dX12_begin_73 (by rw [q7]; decide) (by rw [q7]; decide) (by rw [q7]; decide) (by decide) ?_
                  exact ih.2.2.2.2.2.2.2.2.2.2.2.2.2.1 L r1.2 r h H locs ls hP hD hS (lv_sub hl [0, 1] rfl)
                · rw [if_neg q7] at h
                  by_cases q8 : ((r1.2.2.2 4 ((L 1)).toNatClampNeg)) = (45 : Int32)
                  · rw [if_pos q8] at h
                    refine lv_tableIn (off := 127) (tgt := 200) hx hb dX12_begin_73 (by rw [q8]; decide) (by rw [q8]; decide) (by rw [q8]; decide) (by decide) ?_
                    exact ih.2.2.2.2.2.2.2.2.2.2.2.2.2.2.1 L r1.2 r h H locs ls hP hD hS (lv_sub hl [0, 1] rfl)
                  · rw [if_neg q8] at h
                    by_cases q9 : ((r1.2.2.2 4 ((L 1)).toNatClampNeg)) = (46 : Int32)
                    · rw [if_pos q9] at h
                      refine lv_tableIn (off := 135) (tgt := 208) hx hb dX12_begin_73 (by rw [q9]; decide) (by rw [q9]; decide) (by rw [q9]; decide) (by decide) ?_
                      exact ih.2.2.2.2.2.2.2.2.2.2.2.2.2.2.2.1 L r1.2 r h H locs ls hP hD hS (lv_sub hl [0, 1] rfl)
                    · rw [if_neg q9] at h
                      by_cases q10 : ((r1.2.2.2 4 ((L 1)).toNatClampNeg)) = (47 : Int32)
                      · rw [if_pos q10] at h
                        refine lv_tableIn (off := 149) (tgt := 222) hx hb dX12_begin_73 (by rw [q10]; decide) (by rw [q10]; decide) (by rw [q10]; decide) (by decide) ?_
                        exact ih.2.2.2.2.2.2.2.2.2.2.2.2.2.2.2.2.1 L r1.2 r h H locs ls hP hD hS (lv_sub hl [0, 1] rfl)
                      · rw [if_neg q10] at h
                        by_cases q11 : ((r1.2.2.2 4 ((L 1)).toNatClampNeg)) = (48 : Int32)
                        · rw [if_pos q11] at h
                          refine lv_tableIn (off := 157) (tgt := 230) hx hb dX12_begin_73 (by rw [q11]; decide) (by rw [q11]; decide) (by rw [q11]; decide) (by decide) ?_
                          exact ih.2.2.2.2.2.2.2.2.2.2.2.2.2.2.2.2.2.1 L r1.2 r h H locs ls hP hD hS (lv_sub hl [0, 1] rfl)
                        · rw [if_neg q11] at h
                          by_cases q12 : ((r1.2.2.2 4 ((L 1)).toNatClampNeg)) = (49 : Int32)
                          · rw [if_pos q12] at h
                            refine lv_tableIn (off := 165) (tgt := 238) hx hb dX12_begin_73 (by rw [q12]; decide) (by rw [q12]; decide) (by rw [q12]; decide) (by decide) ?_
                            exact ih.2.2.2.2.2.2.2.2.2.2.2.2.2.2.2.2.2.2.1 L r1.2 r h H locs ls hP hD hS (lv_sub hl [0, 1] rfl)
                          · rw [if_neg q12] at h
                            by_cases q13 : ((r1.2.2.2 4 ((L 1)).toNatClampNeg)) = (50 : Int32)
                            · rw [if_pos q13] at h
                              refine lv_tableIn (off := 165) (tgt := 238) hx hb dX12_begin_73 (by rw [q13]; decide) (by rw [q13]; decide) (by rw [q13]; decide) (by decide) ?_
                              exact ih.2.2.2.2.2.2.2.2.2.2.2.2.2.2.2.2.2.2.1 L r1.2 r h H locs ls hP hD hS (lv_sub hl [0, 1] rfl)
                            · rw [if_neg q13] at h
                              by_cases q14 : ((r1.2.2.2 4 ((L 1)).toNatClampNeg)) = (51 : Int32)
                              · rw [if_pos q14] at h
                                refine lv_tableIn (off := 173) (tgt := 246) hx hb dX12_begin_73 (by rw [q14]; decide) (by rw [q14]; decide) (by rw [q14]; decide) (by decide) ?_
                                exact ih.2.2.2.2.2.2.2.2.2.2.2.2.2.2.2.2.2.2.2.1 L r1.2 r h H locs ls hP hD hS (lv_sub hl [0, 1] rfl)
                              · rw [if_neg q14] at h
                                by_cases q15 : ((r1.2.2.2 4 ((L 1)).toNatClampNeg)) = (52 : Int32)
                                · rw [if_pos q15] at h
                                  refine lv_tableIn (off := 181) (tgt := 254) hx hb dX12_begin_73 (by rw [q15]; decide) (by rw [q15]; decide) (by rw [q15]; decide) (by decide) ?_
                                  exact ih.2.2.2.2.2.2.2.2.2.2.2.2.2.2.2.2.2.2.2.2.1 L r1.2 r h H locs ls hP hD hS (lv_sub hl [0, 1] rfl)
                                · rw [if_neg q15] at h
                                  by_cases q16 : ((r1.2.2.2 4 ((L 1)).toNatClampNeg)) = (53 : Int32)
                                  · rw [if_pos q16] at h
                                    refine lv_tableIn (off := 189) (tgt := 262) hx hb dX12_begin_73 (by rw [q16]; decide) (by rw [q16]; decide) (by rw [q16]; decide) (by decide) ?_
                                    exact ih.2.2.2.2.2.2.2.2.2.2.2.2.2.2.2.2.2.2.2.2.2.1 L r1.2 r h H locs ls hP hD hS (lv_sub hl [0, 1] rfl)
                                  · rw [if_neg q16] at h
                                    by_cases q17 : ((r1.2.2.2 4 ((L 1)).toNatClampNeg)) = (54 : Int32)
                                    · rw [if_pos q17] at h
                                      refine lv_tableIn (off := 216) (tgt := 289) hx hb dX12_begin_73 (by rw [q17]; decide) (by rw [q17]; decide) (by rw [q17]; decide) (by decide) ?_
                                      exact ih.2.2.2.2.2.2.2.2.2.2.2.2.2.2.2.2.2.2.2.2.2.2.2.1 L r1.2 r h H locs ls hP hD hS (lv_sub hl [0, 1] rfl)
                                    · rw [if_neg q17] at h
                                      by_cases q18 : ((r1.2.2.2 4 ((L 1)).toNatClampNeg)) = (55 : Int32)
                                      · rw [if_pos q18] at h
                                        refine lv_tableIn (off := 224) (tgt := 297) hx hb dX12_begin_73 (by rw [q18]; decide) (by rw [q18]; decide) (by rw [q18]; decide) (by decide) ?_
                                        exact ih.2.2.2.2.2.2.2.2.2.2.2.2.2.2.2.2.2.2.2.2.2.2.2.2.1 L r1.2 r h H locs ls hP hD hS (lv_sub hl [0, 1] rfl)
                                      · rw [if_neg q18] at h
                                        have nq3 : ¬ ((r1.2.2.2 4 ((L 1)).toNatClampNeg)).toInt = 40 := nb_ti q3 rfl
                                        have nq4 : ¬ ((r1.2.2.2 4 ((L 1)).toNatClampNeg)).toInt = 41 := nb_ti q4 rfl
                                        have nq5 : ¬ ((r1.2.2.2 4 ((L 1)).toNatClampNeg)).toInt = 42 := nb_ti q5 rfl
                                        have nq6 : ¬ ((r1.2.2.2 4 ((L 1)).toNatClampNeg)).toInt = 43 := nb_ti q6 rfl
                                        have nq7 : ¬ ((r1.2.2.2 4 ((L 1)).toNatClampNeg)).toInt = 44 := nb_ti q7 rfl
                                        have nq8 : ¬ ((r1.2.2.2 4 ((L 1)).toNatClampNeg)).toInt = 45 := nb_ti q8 rfl
                                        have nq9 : ¬ ((r1.2.2.2 4 ((L 1)).toNatClampNeg)).toInt = 46 := nb_ti q9 rfl
                                        have nq10 : ¬ ((r1.2.2.2 4 ((L 1)).toNatClampNeg)).toInt = 47 := nb_ti q10 rfl
                                        have nq11 : ¬ ((r1.2.2.2 4 ((L 1)).toNatClampNeg)).toInt = 48 := nb_ti q11 rfl
                                        have nq12 : ¬ ((r1.2.2.2 4 ((L 1)).toNatClampNeg)).toInt = 49 := nb_ti q12 rfl
                                        have nq13 : ¬ ((r1.2.2.2 4 ((L 1)).toNatClampNeg)).toInt = 50 := nb_ti q13 rfl
                                        have nq14 : ¬ ((r1.2.2.2 4 ((L 1)).toNatClampNeg)).toInt = 51 := nb_ti q14 rfl
                                        have nq15 : ¬ ((r1.2.2.2 4 ((L 1)).toNatClampNeg)).toInt = 52 := nb_ti q15 rfl
                                        have nq16 : ¬ ((r1.2.2.2 4 ((L 1)).toNatClampNeg)).toInt = 53 := nb_ti q16 rfl
                                        have nq17 : ¬ ((r1.2.2.2 4 ((L 1)).toNatClampNeg)).toInt = 54 := nb_ti q17 rfl
                                        have nq18 : ¬ ((r1.2.2.2 4 ((L 1)).toNatClampNeg)).toInt = 55 := nb_ti q18 rfl
                                        refine lv_tableOut (tgt := 305) hx hb dX12_begin_73 (by omega) (by decide) ?_
                                        exact ih.2.2.2.2.2.2.2.2.2.2.2.2.2.2.2.2.2.2.2.2.2.2.2.2.2.1 L r1.2 r h H locs ls hP hD hS (lv_sub hl [0, 1] rfl)
      · intro L σ r h H locs ls hP hD hS hl
        rw [x_begin] at h
        refine lv_aload_n hx hb dX12_begin_152 rfl (lv_at hl 0 rfl) ?_
        refine lv_iload_n hx hb dX12_begin_153 rfl (lv_at hl 1 rfl) ?_
        obtain ⟨r1, hc1, h⟩ := ob_ex h
        refine nc_Vv (As := [.int (L 1)]) (rest := []) ⟨hx, hb, hml, hown, hts⟩ (c_x_assignTo l dC dI cy a k (upd (fun _ => 0) 1 ((L 1))) σ r1 hc1 H.size) (cwV 1 hts g_x_begin_assignTo_914 rfl rfl rfl hd_x_assignTo ⟨Nat.le_of_ble_eq_true rfl, Nat.le_of_ble_eq_true rfl⟩) hK hG hA hP hD hS rfl hl.1 rfl (Nat.le_of_ble_eq_true rfl) dX12_begin_154 ⟨Nat.le_refl _, Nat.le_refl _⟩ (fun H locs hP hD hS => ?_)
        refine lv_goto (tgt := 309) hx hb dX12_begin_157 (by decide) ?_
        exact ih.2.2.2.2.2.2.2.2.2.2.2.2.2.2.2.2.2.2.2.2.2.2.2.2.2.2.1 L r1.2 r h H locs ls hP hD hS (lv_sub hl [0, 1] rfl)
      · intro L σ r h H locs ls hP hD hS hl
        rw [x_begin] at h
        refine lv_aload_n hx hb dX12_begin_160 rfl (lv_at hl 0 rfl) ?_
        refine lv_iload_n hx hb dX12_begin_161 rfl (lv_at hl 1 rfl) ?_
        obtain ⟨r1, hc1, h⟩ := ob_ex h
        refine nc_Vv (As := [.int (L 1)]) (rest := []) ⟨hx, hb, hml, hown, hts⟩ (c_x_partsTo l dC dI cy a k (upd (fun _ => 0) 1 ((L 1))) σ r1 hc1 H.size) (cwV 1 hts g_x_begin_partsTo_917 rfl rfl rfl hd_x_partsTo ⟨Nat.le_of_ble_eq_true rfl, Nat.le_of_ble_eq_true rfl⟩) hK hG hA hP hD hS rfl hl.1 rfl (Nat.le_of_ble_eq_true rfl) dX12_begin_162 ⟨Nat.le_refl _, Nat.le_refl _⟩ (fun H locs hP hD hS => ?_)
        refine lv_goto (tgt := 309) hx hb dX12_begin_165 (by decide) ?_
        exact ih.2.2.2.2.2.2.2.2.2.2.2.2.2.2.2.2.2.2.2.2.2.2.2.2.2.2.1 L r1.2 r h H locs ls hP hD hS (lv_sub hl [0, 1] rfl)
      · intro L σ r h H locs ls hP hD hS hl
        rw [x_begin] at h
        refine lv_aload_n hx hb dX12_begin_168 rfl (lv_at hl 0 rfl) ?_
        refine lv_iload_n hx hb dX12_begin_169 rfl (lv_at hl 1 rfl) ?_
        obtain ⟨r1, hc1, h⟩ := ob_ex h
        refine nc_Vv (As := [.int (L 1)]) (rest := []) ⟨hx, hb, hml, hown, hts⟩ (c_x_takeFrom l dC dI cy a k (upd (fun _ => 0) 1 ((L 1))) σ r1 hc1 H.size) (cwV 1 hts g_x_begin_takeFrom_920 rfl rfl rfl hd_x_takeFrom ⟨Nat.le_of_ble_eq_true rfl, Nat.le_of_ble_eq_true rfl⟩) hK hG hA hP hD hS rfl hl.1 rfl (Nat.le_of_ble_eq_true rfl) dX12_begin_170 ⟨Nat.le_refl _, Nat.le_refl _⟩ (fun H locs hP hD hS => ?_)
        refine lv_goto (tgt := 309) hx hb dX12_begin_173 (by decide) ?_
        exact ih.2.2.2.2.2.2.2.2.2.2.2.2.2.2.2.2.2.2.2.2.2.2.2.2.2.2.1 L r1.2 r h H locs ls hP hD hS (lv_sub hl [0, 1] rfl)
      · intro L σ r h H locs ls hP hD hS hl
        rw [x_begin] at h
        refine lv_aload_n hx hb dX12_begin_176 rfl (lv_at hl 0 rfl) ?_
        refine lv_iload_n hx hb dX12_begin_177 rfl (lv_at hl 1 rfl) ?_
        obtain ⟨r1, hc1, h⟩ := ob_ex h
        refine nc_Vv (As := [.int (L 1)]) (rest := []) ⟨hx, hb, hml, hown, hts⟩ (c_x_makePoint l dC dI cy a k (upd (fun _ => 0) 1 ((L 1))) σ r1 hc1 H.size) (cwV 1 hts g_x_begin_makePoint_923 rfl rfl rfl hd_x_makePoint ⟨Nat.le_of_ble_eq_true rfl, Nat.le_of_ble_eq_true rfl⟩) hK hG hA hP hD hS rfl hl.1 rfl (Nat.le_of_ble_eq_true rfl) dX12_begin_178 ⟨Nat.le_refl _, Nat.le_refl _⟩ (fun H locs hP hD hS => ?_)
        refine lv_aload_n hx hb dX12_begin_181 rfl (lv_at hl 0 rfl) ?_
        refine lv_aload_n hx hb dX12_begin_182 rfl (lv_at hl 0 rfl) ?_
        refine ng_15 hx hb hts in_x_begin hown hK hP (hts _ (List.mem_cons_of_mem _ (List.mem_append_left _ (List.mem_append_left _ (List.mem_of_getElem? (i := 29) rfl))))) dX12_begin_183 ?_
        refine lv_iload_n hx hb dX12_begin_186 rfl (lv_at hl 1 rfl) ?_
        obtain ⟨q2, h⟩ := nb_ite1 h
        refine nl_5 hx hb hK hP q2 dX12_begin_187 ?_
        refine lv_iconst (v := 2) hx hb dX12_begin_188 (by decide) ?_
        obtain ⟨r3, hc3, h⟩ := ob_ex h
        refine nc_Vv (As := [.int (r1.2.2.2 5 ((L 1)).toNatClampNeg), .int 2]) (rest := []) ⟨hx, hb, hml, hown, hts⟩ (c_x_assign l dC dI cy a k (upd (upd (fun _ => 0) 1 ((r1.2.2.2 5 ((L 1)).toNatClampNeg))) 2 2) r1.2 r3 hc3 H.size) (cwV 2 hts g_x_begin_assign_840 rfl rfl rfl hd_x_assign ⟨Nat.le_of_ble_eq_true rfl, Nat.le_of_ble_eq_true rfl⟩) hK hG hA hP hD hS rfl hl.1 rfl (Nat.le_of_ble_eq_true rfl) dX12_begin_189 ⟨Nat.le_refl _, Nat.le_refl _⟩ (fun H locs hP hD hS => ?_)
        refine lv_aload_n hx hb dX12_begin_192 rfl (lv_at hl 0 rfl) ?_
        refine lv_iload_n hx hb dX12_begin_193 rfl (lv_at hl 1 rfl) ?_
        obtain ⟨r4, hc4, h⟩ := ob_ex h
        refine nc_Vv (As := [.int (L 1)]) (rest := []) ⟨hx, hb, hml, hown, hts⟩ (c_x_pass l dC dI cy a k (upd (fun _ => 0) 1 ((L 1))) r3.2 r4 hc4 H.size) (cwV 1 hts g_x_begin_pass_926 rfl rfl rfl hd_x_pass ⟨Nat.le_of_ble_eq_true rfl, Nat.le_of_ble_eq_true rfl⟩) hK hG hA hP hD hS rfl hl.1 rfl (Nat.le_of_ble_eq_true rfl) dX12_begin_194 ⟨Nat.le_refl _, Nat.le_refl _⟩ (fun H locs hP hD hS => ?_)
        refine lv_goto (tgt := 309) hx hb dX12_begin_197 (by decide) ?_
        exact ih.2.2.2.2.2.2.2.2.2.2.2.2.2.2.2.2.2.2.2.2.2.2.2.2.2.2.1 L r4.2 r h H locs ls hP hD hS (lv_sub hl [0, 1] rfl)
      · intro L σ r h H locs ls hP hD hS hl
        rw [x_begin] at h
        refine lv_aload_n hx hb dX12_begin_200 rfl (lv_at hl 0 rfl) ?_
        refine lv_iload_n hx hb dX12_begin_201 rfl (lv_at hl 1 rfl) ?_
        obtain ⟨r1, hc1, h⟩ := ob_ex h
        refine nc_Vv (As := [.int (L 1)]) (rest := []) ⟨hx, hb, hml, hown, hts⟩ (c_x_beginCall l dC dI cy a k (upd (fun _ => 0) 1 ((L 1))) σ r1 hc1 H.size) (cwV 1 hts g_x_begin_beginCall_929 rfl rfl rfl hd_x_beginCall ⟨Nat.le_of_ble_eq_true rfl, Nat.le_of_ble_eq_true rfl⟩) hK hG hA hP hD hS rfl hl.1 rfl (Nat.le_of_ble_eq_true rfl) dX12_begin_202 ⟨Nat.le_refl _, Nat.le_refl _⟩ (fun H locs hP hD hS => ?_)
        refine lv_goto (tgt := 309) hx hb dX12_begin_205 (by decide) ?_
        exact ih.2.2.2.2.2.2.2.2.2.2.2.2.2.2.2.2.2.2.2.2.2.2.2.2.2.2.1 L r1.2 r h H locs ls hP hD hS (lv_sub hl [0, 1] rfl)
      · intro L σ r h H locs ls hP hD hS hl
        rw [x_begin] at h
        refine lv_aload_n hx hb dX12_begin_208 rfl (lv_at hl 0 rfl) ?_
        refine lv_iload_n hx hb dX12_begin_209 rfl (lv_at hl 1 rfl) ?_
        refine lv_aload_n hx hb dX12_begin_210 rfl (lv_at hl 0 rfl) ?_
        refine ng_15 hx hb hts in_x_begin hown hK hP (hts _ (List.mem_cons_of_mem _ (List.mem_append_left _ (List.mem_append_left _ (List.mem_of_getElem? (i := 29) rfl))))) dX12_begin_211 ?_
        refine lv_iload_n hx hb dX12_begin_214 rfl (lv_at hl 1 rfl) ?_
        obtain ⟨q1, h⟩ := nb_ite1 h
        refine nl_5 hx hb hK hP q1 dX12_begin_215 ?_
        obtain ⟨r2, hc2, h⟩ := ob_ex h
        refine nc_Vv (As := [.int (L 1), .int (σ.2.2 5 ((L 1)).toNatClampNeg)]) (rest := []) ⟨hx, hb, hml, hown, hts⟩ (c_x_decide l dC dI cy a k (upd (upd (fun _ => 0) 1 ((L 1))) 2 ((σ.2.2 5 ((L 1)).toNatClampNeg))) σ r2 hc2 H.size) (cwV 2 hts g_x_begin_decide_932 rfl rfl rfl hd_x_decide ⟨Nat.le_of_ble_eq_true rfl, Nat.le_of_ble_eq_true rfl⟩) hK hG hA hP hD hS rfl hl.1 rfl (Nat.le_of_ble_eq_true rfl) dX12_begin_216 ⟨Nat.le_refl _, Nat.le_refl _⟩ (fun H locs hP hD hS => ?_)
        refine lv_goto (tgt := 309) hx hb dX12_begin_219 (by decide) ?_
        exact ih.2.2.2.2.2.2.2.2.2.2.2.2.2.2.2.2.2.2.2.2.2.2.2.2.2.2.1 L r2.2 r h H locs ls hP hD hS (lv_sub hl [0, 1] rfl)
      · intro L σ r h H locs ls hP hD hS hl
        rw [x_begin] at h
        refine lv_aload_n hx hb dX12_begin_222 rfl (lv_at hl 0 rfl) ?_
        refine lv_iload_n hx hb dX12_begin_223 rfl (lv_at hl 1 rfl) ?_
        obtain ⟨r1, hc1, h⟩ := ob_ex h
        refine nc_Vv (As := [.int (L 1)]) (rest := []) ⟨hx, hb, hml, hown, hts⟩ (c_x_testAgain l dC dI cy a k (upd (fun _ => 0) 1 ((L 1))) σ r1 hc1 H.size) (cwV 1 hts g_x_begin_testAgain_935 rfl rfl rfl hd_x_testAgain ⟨Nat.le_of_ble_eq_true rfl, Nat.le_of_ble_eq_true rfl⟩) hK hG hA hP hD hS rfl hl.1 rfl (Nat.le_of_ble_eq_true rfl) dX12_begin_224 ⟨Nat.le_refl _, Nat.le_refl _⟩ (fun H locs hP hD hS => ?_)
        refine lv_goto (tgt := 309) hx hb dX12_begin_227 (by decide) ?_
        exact ih.2.2.2.2.2.2.2.2.2.2.2.2.2.2.2.2.2.2.2.2.2.2.2.2.2.2.1 L r1.2 r h H locs ls hP hD hS (lv_sub hl [0, 1] rfl)
      · intro L σ r h H locs ls hP hD hS hl
        rw [x_begin] at h
        refine lv_aload_n hx hb dX12_begin_230 rfl (lv_at hl 0 rfl) ?_
        refine lv_iload_n hx hb dX12_begin_231 rfl (lv_at hl 1 rfl) ?_
        obtain ⟨r1, hc1, h⟩ := ob_ex h
        refine nc_Vv (As := [.int (L 1)]) (rest := []) ⟨hx, hb, hml, hown, hts⟩ (c_x_beginFor l dC dI cy a k (upd (fun _ => 0) 1 ((L 1))) σ r1 hc1 H.size) (cwV 1 hts g_x_begin_beginFor_938 rfl rfl rfl hd_x_beginFor ⟨Nat.le_of_ble_eq_true rfl, Nat.le_of_ble_eq_true rfl⟩) hK hG hA hP hD hS rfl hl.1 rfl (Nat.le_of_ble_eq_true rfl) dX12_begin_232 ⟨Nat.le_refl _, Nat.le_refl _⟩ (fun H locs hP hD hS => ?_)
        refine lv_goto (tgt := 309) hx hb dX12_begin_235 (by decide) ?_
        exact ih.2.2.2.2.2.2.2.2.2.2.2.2.2.2.2.2.2.2.2.2.2.2.2.2.2.2.1 L r1.2 r h H locs ls hP hD hS (lv_sub hl [0, 1] rfl)
      · intro L σ r h H locs ls hP hD hS hl
        rw [x_begin] at h
        refine lv_aload_n hx hb dX12_begin_238 rfl (lv_at hl 0 rfl) ?_
        refine lv_iload_n hx hb dX12_begin_239 rfl (lv_at hl 1 rfl) ?_
        obtain ⟨r1, hc1, h⟩ := ob_ex h
        refine nc_Vv (As := [.int (L 1)]) (rest := []) ⟨hx, hb, hml, hown, hts⟩ (c_x_leave l dC dI cy a k (upd (fun _ => 0) 1 ((L 1))) σ r1 hc1 H.size) (cwV 1 hts g_x_begin_leave_941 rfl rfl rfl hd_x_leave ⟨Nat.le_of_ble_eq_true rfl, Nat.le_of_ble_eq_true rfl⟩) hK hG hA hP hD hS rfl hl.1 rfl (Nat.le_of_ble_eq_true rfl) dX12_begin_240 ⟨Nat.le_refl _, Nat.le_refl _⟩ (fun H locs hP hD hS => ?_)
        refine lv_goto (tgt := 309) hx hb dX12_begin_243 (by decide) ?_
        exact ih.2.2.2.2.2.2.2.2.2.2.2.2.2.2.2.2.2.2.2.2.2.2.2.2.2.2.1 L r1.2 r h H locs ls hP hD hS (lv_sub hl [0, 1] rfl)
      · intro L σ r h H locs ls hP hD hS hl
        rw [x_begin] at h
        refine lv_aload_n hx hb dX12_begin_246 rfl (lv_at hl 0 rfl) ?_
        refine lv_iload_n hx hb dX12_begin_247 rfl (lv_at hl 1 rfl) ?_
        obtain ⟨r1, hc1, h⟩ := ob_ex h
        refine nc_Vv (As := [.int (L 1)]) (rest := []) ⟨hx, hb, hml, hown, hts⟩ (c_x_returns l dC dI cy a k (upd (fun _ => 0) 1 ((L 1))) σ r1 hc1 H.size) (cwV 1 hts g_x_begin_returns_944 rfl rfl rfl hd_x_returns ⟨Nat.le_of_ble_eq_true rfl, Nat.le_of_ble_eq_true rfl⟩) hK hG hA hP hD hS rfl hl.1 rfl (Nat.le_of_ble_eq_true rfl) dX12_begin_248 ⟨Nat.le_refl _, Nat.le_refl _⟩ (fun H locs hP hD hS => ?_)
        refine lv_goto (tgt := 309) hx hb dX12_begin_251 (by decide) ?_
        exact ih.2.2.2.2.2.2.2.2.2.2.2.2.2.2.2.2.2.2.2.2.2.2.2.2.2.2.1 L r1.2 r h H locs ls hP hD hS (lv_sub hl [0, 1] rfl)
      · intro L σ r h H locs ls hP hD hS hl
        rw [x_begin] at h
        refine lv_aload_n hx hb dX12_begin_254 rfl (lv_at hl 0 rfl) ?_
        refine lv_iload_n hx hb dX12_begin_255 rfl (lv_at hl 1 rfl) ?_
        obtain ⟨r1, hc1, h⟩ := ob_ex h
        refine nc_Vv (As := [.int (L 1)]) (rest := []) ⟨hx, hb, hml, hown, hts⟩ (c_x_prints l dC dI cy a k (upd (fun _ => 0) 1 ((L 1))) σ r1 hc1 H.size) (cwV 1 hts g_x_begin_prints_947 rfl rfl rfl hd_x_prints ⟨Nat.le_of_ble_eq_true rfl, Nat.le_of_ble_eq_true rfl⟩) hK hG hA hP hD hS rfl hl.1 rfl (Nat.le_of_ble_eq_true rfl) dX12_begin_256 ⟨Nat.le_refl _, Nat.le_refl _⟩ (fun H locs hP hD hS => ?_)
        refine lv_goto (tgt := 309) hx hb dX12_begin_259 (by decide) ?_
        exact ih.2.2.2.2.2.2.2.2.2.2.2.2.2.2.2.2.2.2.2.2.2.2.2.2.2.2.1 L r1.2 r h H locs ls hP hD hS (lv_sub hl [0, 1] rfl)
      · intro L σ r h H locs ls hP hD hS hl
        rw [x_begin] at h
        refine lv_aload_n hx hb dX12_begin_262 rfl (lv_at hl 0 rfl) ?_
        refine lv_aload_n hx hb dX12_begin_263 rfl (lv_at hl 0 rfl) ?_
        refine ng_15 hx hb hts in_x_begin hown hK hP (hts _ (List.mem_cons_of_mem _ (List.mem_append_left _ (List.mem_append_left _ (List.mem_of_getElem? (i := 29) rfl))))) dX12_begin_264 ?_
        refine lv_iload_n hx hb dX12_begin_267 rfl (lv_at hl 1 rfl) ?_
        obtain ⟨q1, h⟩ := nb_ite1 h
        refine nl_5 hx hb hK hP q1 dX12_begin_268 ?_
        obtain ⟨r2, hc2, h⟩ := ob_ex h
        refine nc_Vi (As := [.int (σ.2.2 5 ((L 1)).toNatClampNeg)]) (rest := []) ⟨hx, hb, hml, hown, hts⟩ (c_x_holds l dC dI cy a k (upd (fun _ => 0) 1 ((σ.2.2 5 ((L 1)).toNatClampNeg))) σ r2 hc2 H.size) (cwV 1 hts g_x_begin_holds_672 rfl rfl rfl hd_x_holds ⟨Nat.le_of_ble_eq_true rfl, Nat.le_of_ble_eq_true rfl⟩) hK hG hA hP hD hS rfl hl.1 rfl (Nat.le_of_ble_eq_true rfl) dX12_begin_269 ⟨Nat.le_refl _, Nat.le_refl _⟩ (fun H locs hP hD hS => ?_)
        refine lv_if_ne (tgt := 281) hx hb dX12_begin_272 (by decide) (fun c3 => ?_) (fun c3 => ?_)
        · rw [if_neg c3] at h
          exact ih.2.2.2.2.2.2.2.2.2.2.2.2.2.2.2.2.2.2.2.2.2.2.1 L r2.2 r h H locs ls hP hD hS (lv_sub hl [0, 1] rfl)
        · rw [if_pos c3] at h
          refine lv_aload_n hx hb dX12_begin_275 rfl (lv_at hl 0 rfl) ?_
          refine lv_bipush (v := 8) hx hb dX12_begin_276 (by decide) ?_
          obtain ⟨r4, hc4, h⟩ := ob_ex h
          refine nc_Vv (As := [.int 8]) (rest := []) ⟨hx, hb, hml, hown, hts⟩ (c_x_fail l dC dI cy a k (upd (fun _ => 0) 1 8) r2.2 r4 hc4 H.size) (cwV 1 hts g_x_begin_fail_369 rfl rfl rfl hd_x_fail ⟨Nat.le_of_ble_eq_true rfl, Nat.le_of_ble_eq_true rfl⟩) hK hG hA hP hD hS rfl hl.1 rfl (Nat.le_of_ble_eq_true rfl) dX12_begin_278 ⟨Nat.le_refl _, Nat.le_refl _⟩ (fun H locs hP hD hS => ?_)
          exact ih.2.2.2.2.2.2.2.2.2.2.2.2.2.2.2.2.2.2.2.2.2.2.1 L r4.2 r h H locs ls hP hD hS (lv_sub hl [0, 1] rfl)
      · intro L σ r h H locs ls hP hD hS hl
        rw [x_begin] at h
        refine lv_aload_n hx hb dX12_begin_281 rfl (lv_at hl 0 rfl) ?_
        refine lv_iload_n hx hb dX12_begin_282 rfl (lv_at hl 1 rfl) ?_
        obtain ⟨r1, hc1, h⟩ := ob_ex h
        refine nc_Vv (As := [.int (L 1)]) (rest := []) ⟨hx, hb, hml, hown, hts⟩ (c_x_pass l dC dI cy a k (upd (fun _ => 0) 1 ((L 1))) σ r1 hc1 H.size) (cwV 1 hts g_x_begin_pass_926 rfl rfl rfl hd_x_pass ⟨Nat.le_of_ble_eq_true rfl, Nat.le_of_ble_eq_true rfl⟩) hK hG hA hP hD hS rfl hl.1 rfl (Nat.le_of_ble_eq_true rfl) dX12_begin_283 ⟨Nat.le_refl _, Nat.le_refl _⟩ (fun H locs hP hD hS => ?_)
        refine lv_goto (tgt := 309) hx hb dX12_begin_286 (by decide) ?_
        exact ih.2.2.2.2.2.2.2.2.2.2.2.2.2.2.2.2.2.2.2.2.2.2.2.2.2.2.1 L r1.2 r h H locs ls hP hD hS (lv_sub hl [0, 1] rfl)
      · intro L σ r h H locs ls hP hD hS hl
        rw [x_begin] at h
        refine lv_aload_n hx hb dX12_begin_289 rfl (lv_at hl 0 rfl) ?_
        refine lv_iconst (v := 1) hx hb dX12_begin_290 (by decide) ?_
        refine np_102 hx hb hts in_x_begin hown hK hP hD hS (hts _ (List.mem_cons_of_mem _ (List.mem_append_left _ (List.mem_append_left _ (List.mem_of_getElem? (i := 63) rfl))))) (Or.inr rfl) dX12_begin_291 (fun H locs hP hD hS => ?_)
        refine lv_goto (tgt := 309) hx hb dX12_begin_294 (by decide) ?_
        exact ih.2.2.2.2.2.2.2.2.2.2.2.2.2.2.2.2.2.2.2.2.2.2.2.2.2.2.1 L (upd σ.1 102 1, σ.2.1, σ.2.2) r h H locs ls hP hD hS (lv_sub hl [0, 1] rfl)
      · intro L σ r h H locs ls hP hD hS hl
        rw [x_begin] at h
        refine lv_aload_n hx hb dX12_begin_297 rfl (lv_at hl 0 rfl) ?_
        refine lv_iload_n hx hb dX12_begin_298 rfl (lv_at hl 1 rfl) ?_
        obtain ⟨r1, hc1, h⟩ := ob_ex h
        refine nc_Vv (As := [.int (L 1)]) (rest := []) ⟨hx, hb, hml, hown, hts⟩ (c_x_succeed l dC dI cy a k (upd (fun _ => 0) 1 ((L 1))) σ r1 hc1 H.size) (cwV 1 hts g_x_begin_succeed_950 rfl rfl rfl hd_x_succeed ⟨Nat.le_of_ble_eq_true rfl, Nat.le_of_ble_eq_true rfl⟩) hK hG hA hP hD hS rfl hl.1 rfl (Nat.le_of_ble_eq_true rfl) dX12_begin_299 ⟨Nat.le_refl _, Nat.le_refl _⟩ (fun H locs hP hD hS => ?_)
        refine lv_goto (tgt := 309) hx hb dX12_begin_302 (by decide) ?_
        exact ih.2.2.2.2.2.2.2.2.2.2.2.2.2.2.2.2.2.2.2.2.2.2.2.2.2.2.1 L r1.2 r h H locs ls hP hD hS (lv_sub hl [0, 1] rfl)
      · intro L σ r h H locs ls hP hD hS hl
        rw [x_begin] at h
        refine lv_aload_n hx hb dX12_begin_305 rfl (lv_at hl 0 rfl) ?_
        obtain ⟨r1, hc1, h⟩ := ob_ex h
        refine nc_Vv (As := []) (rest := []) ⟨hx, hb, hml, hown, hts⟩ (c_x_backTrack l dC dI cy a k (fun _ => 0) σ r1 hc1 H.size) (cwV 0 hts g_x_begin_backTrack_953 rfl rfl rfl hd_x_backTrack ⟨Nat.le_of_ble_eq_true rfl, Nat.le_of_ble_eq_true rfl⟩) hK hG hA hP hD hS rfl hl.1 rfl (Nat.le_of_ble_eq_true rfl) dX12_begin_306 ⟨Nat.le_refl _, Nat.le_refl _⟩ (fun H locs hP hD hS => ?_)
        exact ih.2.2.2.2.2.2.2.2.2.2.2.2.2.2.2.2.2.2.2.2.2.2.2.2.2.2.1 L r1.2 r h H locs ls hP hD hS (lv_sub hl [0, 1] rfl)
      · intro L σ r h H locs ls hP hD hS hl
        rw [x_begin] at h
        refine lv_aload_n hx hb dX12_begin_309 rfl (lv_at hl 0 rfl) ?_
        refine lv_aload_n hx hb dX12_begin_310 rfl (lv_at hl 0 rfl) ?_
        refine ng_57 hx hb hts in_x_begin hown hK hP (hts _ (List.mem_cons_of_mem _ (List.mem_append_left _ (List.mem_append_left _ (List.mem_of_getElem? (i := 4) rfl))))) dX12_begin_311 ?_
        refine np_108 hx hb hts in_x_begin hown hK hP hD hS (hts _ (List.mem_cons_of_mem _ (List.mem_append_left _ (List.mem_append_left _ (List.mem_of_getElem? (i := 70) rfl))))) dX12_begin_314 (fun H locs hP hD hS => ?_)
        exact ih.2.2.2.2.2.2.2.2.2.2.2.2.2.2.2.2.2.2.2.2.2.2.2.2.2.2.2.1 L (upd σ.1 108 ((σ.1 57)), σ.2.1, σ.2.2) r h H locs ls hP hD hS (lv_sub hl [0, 1] rfl)
      · intro L σ r h H locs ls hP hD hS hl
        rw [x_begin] at h
        refine lv_aload_n hx hb dX12_begin_317 rfl (lv_at hl 0 rfl) ?_
        refine ng_56 hx hb hts in_x_begin hown hK hP (hts _ (List.mem_cons_of_mem _ (List.mem_append_left _ (List.mem_append_left _ (List.mem_of_getElem? (i := 7) rfl))))) dX12_begin_318 ?_
        refine lv_if_le (tgt := 341) hx hb dX12_begin_321 (by decide) (fun c1 => ?_) (fun c1 => ?_)
        · rw [if_pos c1] at h
          exact ih.2.2.2.2.2.2.2.2.2.2.2.2.2.2.2.2.2.2.2.2.2.2.2.2.2.2.2.2.2.2 L σ r h H locs ls hP hD hS (lv_sub hl [0, 1] rfl)
        · rw [if_neg c1] at h
          refine lv_aload_n hx hb dX12_begin_324 rfl (lv_at hl 0 rfl) ?_
          refine lv_aload_n hx hb dX12_begin_325 rfl (lv_at hl 0 rfl) ?_
          refine ng_56 hx hb hts in_x_begin hown hK hP (hts _ (List.mem_cons_of_mem _ (List.mem_append_left _ (List.mem_append_left _ (List.mem_of_getElem? (i := 7) rfl))))) dX12_begin_326 ?_
          refine np_105 hx hb hts in_x_begin hown hK hP hD hS (hts _ (List.mem_cons_of_mem _ (List.mem_append_left _ (List.mem_append_left _ (List.mem_of_getElem? (i := 71) rfl))))) dX12_begin_329 (fun H locs hP hD hS => ?_)
          exact ih.2.2.2.2.2.2.2.2.2.2.2.2.2.2.2.2.2.2.2.2.2.2.2.2.2.2.2.2.1 L (upd σ.1 105 ((σ.1 56)), σ.2.1, σ.2.2) r h H locs ls hP hD hS (lv_sub hl [0, 1] rfl)
      · intro L σ r h H locs ls hP hD hS hl
        rw [x_begin] at h
        refine lv_aload_n hx hb dX12_begin_332 rfl (lv_at hl 0 rfl) ?_
        refine lv_iconst (v := 1) hx hb dX12_begin_333 (by decide) ?_
        refine np_102 hx hb hts in_x_begin hown hK hP hD hS (hts _ (List.mem_cons_of_mem _ (List.mem_append_left _ (List.mem_append_left _ (List.mem_of_getElem? (i := 63) rfl))))) (Or.inr rfl) dX12_begin_334 (fun H locs hP hD hS => ?_)
        exact ih.2.2.2.2.2.2.2.2.2.2.2.2.2.2.2.2.2.2.2.2.2.2.2.2.2.2.2.2.2.1 L (upd σ.1 102 1, σ.2.1, σ.2.2) r h H locs ls hP hD hS (lv_sub hl [0, 1] rfl)
      · intro L σ r h H locs ls hP hD hS hl
        rw [x_begin] at h
        refine lv_aload_n hx hb dX12_begin_337 rfl (lv_at hl 0 rfl) ?_
        obtain ⟨r1, hc1, h⟩ := ob_ex h
        refine nc_Vv (As := []) (rest := []) ⟨hx, hb, hml, hown, hts⟩ (c_x_forget l dC dI cy a k (fun _ => 0) σ r1 hc1 H.size) (cwV 0 hts g_x_begin_forget_962 rfl rfl rfl hd_x_forget ⟨Nat.le_of_ble_eq_true rfl, Nat.le_of_ble_eq_true rfl⟩) hK hG hA hP hD hS rfl hl.1 rfl (Nat.le_of_ble_eq_true rfl) dX12_begin_338 ⟨Nat.le_refl _, Nat.le_refl _⟩ (fun H locs hP hD hS => ?_)
        exact ih.2.2.2.2.2.2.2.2.2.2.2.2.2.2.2.2.2.2.2.2.2.2.2.2.2.2.2.2.2.2 L r1.2 r h H locs ls hP hD hS (lv_sub hl [0, 1] rfl)
      · intro L σ r h H locs ls hP hD hS hl
        rw [x_begin] at h
        cases h
        exact W.vret hx hb hr (fun t ht hW => ⟨⟨(), rfl, trivial, by rw [ht]; exact hP, va_K.moved hW.alike hK, hD⟩, hS.F ht⟩) hS.2.2 dX12_begin_341
  exact (blk k0).1 L0 σ0 r0 h0 s.heap [] ls hP hD hS hl

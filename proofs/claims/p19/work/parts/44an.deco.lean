/-! small -/
def x_small : Nat → Nat → (Nat → Int32) → MS → Option (Int32 × MS)
  | 0, _, _, _ => none
  | k + 1, 0, L, σ => x_small k 1 L (upd σ.1 86 0, σ.2.1, σ.2.2)
  | k + 1, 1, L, σ => if 0 ≤ ((L 1)) then (x_small k 2 L σ) else (x_small k 3 (upd L 100 ((- ((L 1))))) σ)
  | k + 1, 2, L, σ => x_small k 3 (upd L 100 ((L 1))) σ
  | k + 1, 3, L, σ => x_small k 4 (upd L 2 ((L 100))) σ
  | k + 1, 4, L, σ => if ((L 2)) ≤ 0 then (x_small k 6 L σ) else (if ¬ (((σ.1 86)) < 0 ∨ 300 ≤ ((σ.1 86)).toNatClampNeg) then (x_small k 5 L (σ.1, σ.2.1, updG σ.2.2 44 (upd (σ.2.2 44) ((σ.1 86)).toNatClampNeg ((((L 2)) &&& 65535))))) else none)
  | k + 1, 5, L, σ => x_small k 4 (upd L 2 (((((L 2)).toUInt32 >>> ((16 : Int32).toUInt32 &&& Int32.toUInt32 31)).toInt32))) (upd σ.1 86 ((((σ.1 86)) + 1)), σ.2.1, σ.2.2)
  | k + 1, 6, L, σ => if 0 ≤ ((L 1)) then (x_small k 7 L σ) else (x_small k 8 (upd L 100 ((-1))) σ)
  | k + 1, 7, L, σ => x_small k 8 (upd L 100 1) σ
  | k + 1, 8, L, σ => ob (x_wholeOf k 0 (upd (fun _ => 0) 1 ((L 100))) σ) (fun r1 => some (r1.1, r1.2))
  | _ + 1, _ + 9, _, _ => none
def o_x_small : List Cond := [.fieldLink RX12 478 "SetHouseModel" "nc" "I", .fieldLink RX12 481 "SetHouseModel" "rc" "[I", .constant RX12 484 (65535), .methodLink RX12 485 yX12_wholeOf, .instanceMethod yX12_wholeOf, .selects RX12 yX12_wholeOf yX12_wholeOf, .initialized RX12]
theorem o_x_small_good : o_x_small.all goodWord = true := by decide +kernel
def p_x_small : List Cond := o_x_small ++ ((.code yX12_wholeOf cX12_wholeOf 4 (some .int) :: p_x_wholeOf) ++ [])
theorem p_x_small_good : p_x_small.all goodWord = true := nb_all2 o_x_small_good (nb_all2 (nb_allc (by decide +kernel) p_x_wholeOf_good) rfl)
def w_x_small : List Cond := .code yX12_small cX12_small 3 (some .int) :: (p_x_small ++ fM)
theorem w_x_small_good : w_x_small.all goodWord = true := nb_allc (by decide +kernel) (nb_all2 p_x_small_good fM_good)
theorem in_x_small : ∀ w ∈ wsX120, w ∈ w_x_small := fun _ h => List.mem_cons_of_mem _ (List.mem_append_right _ h)
theorem hd_x_small : yX12_small.cls = RX12 ∧ yX12_small.cls ≠ "java/lang/invoke/MethodHandle" ∧ yX12_small.cls ≠ "java/lang/invoke/VarHandle" ∧ (parseMethodDescriptor yX12_small.desc).map (fun d => d.parameters.length) = some 1 := by decide +kernel
theorem gg_x_small_wholeOf : GoodIn w_x_small w_x_wholeOf := goodIn_sub (fun w h => (List.mem_cons.mp h).elim (fun e => (List.mem_cons_of_mem _ (List.mem_append_left _ (List.mem_append_right _ (List.mem_append_left _ (List.mem_cons.mpr (Or.inl e))))))) (fun h => (List.mem_append.mp h).elim (fun h => (List.mem_cons_of_mem _ (List.mem_append_left _ (List.mem_append_right _ (List.mem_append_left _ (List.mem_cons_of_mem _ h)))))) (fun h => List.mem_cons_of_mem _ (List.mem_append_right _ h)))) w_x_wholeOf_good
theorem g_x_small_wholeOf_485 : GoodIn w_x_small (wsV RX12 485 RX12 yX12_wholeOf w_x_wholeOf) := goodIn_app (nb_g4 (List.mem_cons_of_mem _ (List.mem_append_left _ (List.mem_append_left _ (List.mem_of_getElem? (i := 3) rfl)))) (List.mem_cons_of_mem _ (List.mem_append_left _ (List.mem_append_left _ (List.mem_of_getElem? (i := 4) rfl)))) (List.mem_cons_of_mem _ (List.mem_append_left _ (List.mem_append_left _ (List.mem_of_getElem? (i := 5) rfl)))) (List.mem_cons_of_mem _ (List.mem_append_left _ (List.mem_append_left _ (List.mem_of_getElem? (i := 6) rfl)))) (by decide +kernel)) gg_x_small_wholeOf
set_option maxHeartbeats 40000000 in
set_option maxRecDepth 100000 in
theorem c_x_small (l : Launch) (dC : Nat → ClassId) (dI : Nat → Nat → Nat) (cy : Nat → ClassId) (a : Nat → Nat) (k0 : Nat) (L0 : Nat → Int32) (σ0 : MS) (r0 : Int32 × MS) (h0 : x_small k0 0 L0 σ0 = some r0) (sz : Nat) : Met l yX12_small w_x_small ({ frames := 3, cells := 0, slots := 0, locals := 67 }) (va_Pc [.ref (a 0), .int (L0 1)] (nIn (dC, dI) cy sz (vM cy a σ0))) (va_Qi (fun (z : Int32) (_ : Unit) => z = r0.1) (fun _ t => nOut (dC, dI) cy (va_A (vM cy a σ0) sz) (vM cy a r0.2) t) (va_A (vM cy a σ0) sz)) 0 0 (va_A (vM cy a σ0) sz) := by
  refine Met.ofW (cc := cX12_small) (maxL := 3) (ret := (some .int)) (by decide) rfl ?_
  intro p e s m args below meth c s₁ B hml hv
  obtain ⟨rfl, hsz, hP, hK, hD0, hG⟩ := hv
  have hx := B.exec
  have hb := B.bytes
  have hr := B.returns
  have hts := atoms_spec (ws := w_x_small) B.pre
  have hown : s.vm.findClass RX12 = some m.cls := findClass_of_methodNamed B.named
  have hlocks := B.notSynchronized
  subst hsz
  have hD := hD0.self (sz := s.heap.size)
  generalize hAe : va_A (vM cy a σ0) s.heap.size = A at hD ⊢
  have hA : ∀ q : Nat, s.heap.size ≤ q → A q := fun q h => by rw [← hAe]; exact Or.inr h
  have hS : va_S A s.heap s.heap [] := va_S.rf
  have hl := lv_entry ([.ref (a 0), .int (L0 1)]) (n := 3) (Nat.le_of_ble_eq_true rfl)
  rw [lg_entry_eq]
  generalize (lg_sl ([.ref (a 0), .int (L0 1)]) ++ List.replicate (3 - (lg_sl ([.ref (a 0), .int (L0 1)])).length) Slot.unset).toArray = ls at hl ⊢
  have hl : lv_has ls 3 [(0, .ref (a 0)), (1, .int (L0 1))] := hl
  have blk : ∀ k : Nat, (bT p l e (headSpec w_x_small ({ frames := 3, cells := 0, slots := 0, locals := 67 })).room s m #[.ref (a 0), .int (L0 1)] below meth c dC dI cy a A (qI dC dI cy a A below #[.ref (a 0), .int (L0 1)] s) 3 (x_small k 0) (fun L => [(0, .ref (a 0)), (1, .int (L 1))]) 0 (fun L => [])) ∧ (bT p l e (headSpec w_x_small ({ frames := 3, cells := 0, slots := 0, locals := 67 })).room s m #[.ref (a 0), .int (L0 1)] below meth c dC dI cy a A (qI dC dI cy a A below #[.ref (a 0), .int (L0 1)] s) 3 (x_small k 1) (fun L => [(0, .ref (a 0)), (1, .int (L 1))]) 5 (fun L => [])) ∧ (bT p l e (headSpec w_x_small ({ frames := 3, cells := 0, slots := 0, locals := 67 })).room s m #[.ref (a 0), .int (L0 1)] below meth c dC dI cy a A (qI dC dI cy a A below #[.ref (a 0), .int (L0 1)] s) 3 (x_small k 2) (fun L => [(0, .ref (a 0)), (1, .int (L 1))]) 14 (fun L => [])) ∧ (bT p l e (headSpec w_x_small ({ frames := 3, cells := 0, slots := 0, locals := 67 })).room s m #[.ref (a 0), .int (L0 1)] below meth c dC dI cy a A (qI dC dI cy a A below #[.ref (a 0), .int (L0 1)] s) 3 (x_small k 3) (fun L => [(0, .ref (a 0)), (1, .int (L 1))]) 15 (fun L => [.int (L 100)])) ∧ (bT p l e (headSpec w_x_small ({ frames := 3, cells := 0, slots := 0, locals := 67 })).room s m #[.ref (a 0), .int (L0 1)] below meth c dC dI cy a A (qI dC dI cy a A below #[.ref (a 0), .int (L0 1)] s) 3 (x_small k 4) (fun L => [(0, .ref (a 0)), (1, .int (L 1)), (2, .int (L 2))]) 16 (fun L => [])) ∧ (bT p l e (headSpec w_x_small ({ frames := 3, cells := 0, slots := 0, locals := 67 })).room s m #[.ref (a 0), .int (L0 1)] below meth c dC dI cy a A (qI dC dI cy a A below #[.ref (a 0), .int (L0 1)] s) 3 (x_small k 5) (fun L => [(0, .ref (a 0)), (1, .int (L 1)), (2, .int (L 2))]) 34 (fun L => [])) ∧ (bT p l e (headSpec w_x_small ({ frames := 3, cells := 0, slots := 0, locals := 67 })).room s m #[.ref (a 0), .int (L0 1)] below meth c dC dI cy a A (qI dC dI cy a A below #[.ref (a 0), .int (L0 1)] s) 3 (x_small k 6) (fun L => [(0, .ref (a 0)), (1, .int (L 1)), (2, .int (L 2))]) 52 (fun L => [])) ∧ (bT p l e (headSpec w_x_small ({ frames := 3, cells := 0, slots := 0, locals := 67 })).room s m #[.ref (a 0), .int (L0 1)] below meth c dC dI cy a A (qI dC dI cy a A below #[.ref (a 0), .int (L0 1)] s) 3 (x_small k 7) (fun L => [(0, .ref (a 0)), (1, .int (L 1)), (2, .int (L 2))]) 61 (fun L => [.ref (a 0)])) ∧ (bT p l e (headSpec w_x_small ({ frames := 3, cells := 0, slots := 0, locals := 67 })).room s m #[.ref (a 0), .int (L0 1)] below meth c dC dI cy a A (qI dC dI cy a A below #[.ref (a 0), .int (L0 1)] s) 3 (x_small k 8) (fun L => [(0, .ref (a 0)), (1, .int (L 1)), (2, .int (L 2))]) 62 (fun L => [.int (L 100), .ref (a 0)])) := by
    intro k
    induction k with
    | zero => exact ⟨fun L σ r h => (by cases h), fun L σ r h => (by cases h), fun L σ r h => (by cases h), fun L σ r h => (by cases h), fun L σ r h => (by cases h), fun L σ r h => (by cases h), fun L σ r h => (by cases h), fun L σ r h => (by cases h), fun L σ r h => (by cases h)⟩
    | succ k ih =>
      refine ⟨?_, ?_, ?_, ?_, ?_, ?_, ?_, ?_, ?_⟩
      · intro L σ r h H locs ls hP hD hS hl
        rw [x_small] at h
        refine lv_aload_n hx hb dX12_small_0 rfl (lv_at hl 0 rfl) ?_
        refine lv_iconst (v := 0) hx hb dX12_small_1 (by decide) ?_
        refine np_86 hx hb hts in_x_small hown hK hP hD hS (hts _ (List.mem_cons_of_mem _ (List.mem_append_left _ (List.mem_append_left _ (List.mem_of_getElem? (i := 0) rfl))))) dX12_small_2 (fun H locs hP hD hS => ?_)
        exact ih.2.1 L (upd σ.1 86 0, σ.2.1, σ.2.2) r h H locs ls hP hD hS (lv_sub hl [0, 1] rfl)
      · intro L σ r h H locs ls hP hD hS hl
        rw [x_small] at h
        refine lv_iload_n hx hb dX12_small_5 rfl (lv_at hl 1 rfl) ?_
        refine lv_if_ge (tgt := 14) hx hb dX12_small_6 (by decide) (fun c1 => ?_) (fun c1 => ?_)
        · rw [if_pos c1] at h
          exact ih.2.2.1 L σ r h H locs ls hP hD hS (lv_sub hl [0, 1] rfl)
        · rw [if_neg c1] at h
          refine lv_iload_n hx hb dX12_small_9 rfl (lv_at hl 1 rfl) ?_
          refine lv_ineg hx hb dX12_small_10 ?_
          refine lv_goto (tgt := 15) hx hb dX12_small_11 (by decide) ?_
          exact ih.2.2.2.1 (upd L 100 ((- ((L 1))))) σ r h H locs ls hP hD hS (lv_sub hl [0, 1] rfl)
      · intro L σ r h H locs ls hP hD hS hl
        rw [x_small] at h
        refine lv_iload_n hx hb dX12_small_14 rfl (lv_at hl 1 rfl) ?_
        exact ih.2.2.2.1 (upd L 100 ((L 1))) σ r h H locs ls hP hD hS (lv_sub hl [0, 1] rfl)
      · intro L σ r h H locs ls hP hD hS hl
        rw [x_small] at h
        refine lv_istore_n (lv' := [(2, .int (L 100)), (0, .ref (a 0)), (1, .int (L 1))]) hx hb dX12_small_15 rfl hl (by decide) rfl (fun ls hl => ?_)
        exact ih.2.2.2.2.1 (upd L 2 ((L 100))) σ r h H locs ls hP hD hS (lv_sub hl [1, 2, 0] rfl)
      · intro L σ r h H locs ls hP hD hS hl
        rw [x_small] at h
        refine lv_iload_n hx hb dX12_small_16 rfl (lv_at hl 2 rfl) ?_
        refine lv_if_le (tgt := 52) hx hb dX12_small_17 (by decide) (fun c1 => ?_) (fun c1 => ?_)
        · rw [if_pos c1] at h
          exact ih.2.2.2.2.2.2.1 L σ r h H locs ls hP hD hS (lv_sub hl [0, 1, 2] rfl)
        · rw [if_neg c1] at h
          refine lv_aload_n hx hb dX12_small_20 rfl (lv_at hl 0 rfl) ?_
          refine ng_83 hx hb hts in_x_small hown hK hP (hts _ (List.mem_cons_of_mem _ (List.mem_append_left _ (List.mem_append_left _ (List.mem_of_getElem? (i := 1) rfl))))) dX12_small_21 ?_
          refine lv_aload_n hx hb dX12_small_24 rfl (lv_at hl 0 rfl) ?_
          refine ng_86 hx hb hts in_x_small hown hK hP (hts _ (List.mem_cons_of_mem _ (List.mem_append_left _ (List.mem_append_left _ (List.mem_of_getElem? (i := 0) rfl))))) dX12_small_25 ?_
          refine lv_iload_n hx hb dX12_small_28 rfl (lv_at hl 2 rfl) ?_
          refine lv_ldcw (v := 65535) hx hb hown (hts _ (List.mem_cons_of_mem _ (List.mem_append_left _ (List.mem_append_left _ (List.mem_of_getElem? (i := 2) rfl))))) dX12_small_29 ?_
          refine lv_iand hx hb dX12_small_32 ?_
          obtain ⟨q2, h⟩ := nb_ite1 h
          refine ns_44 hx hb hK hP hD hS q2 dX12_small_33 (fun H locs hP hD hS => ?_)
          exact ih.2.2.2.2.2.1 L (σ.1, σ.2.1, updG σ.2.2 44 (upd (σ.2.2 44) ((σ.1 86)).toNatClampNeg ((((L 2)) &&& 65535)))) r h H locs ls hP hD hS (lv_sub hl [0, 1, 2] rfl)
      · intro L σ r h H locs ls hP hD hS hl
        rw [x_small] at h
        refine lv_iload_n hx hb dX12_small_34 rfl (lv_at hl 2 rfl) ?_
        refine lv_bipush (v := 16) hx hb dX12_small_35 (by decide) ?_
        refine lv_iushr (v := (((L 2)).toUInt32 >>> ((16 : Int32).toUInt32 &&& Int32.toUInt32 31)).toInt32) hx hb dX12_small_37 rfl ?_
        refine lv_istore_n (lv' := [(2, .int ((((L 2)).toUInt32 >>> ((16 : Int32).toUInt32 &&& Int32.toUInt32 31)).toInt32)), (0, .ref (a 0)), (1, .int (L 1))]) hx hb dX12_small_38 rfl hl (by decide) rfl (fun ls hl => ?_)
        refine lv_aload_n hx hb dX12_small_39 rfl (lv_at hl 1 rfl) ?_
        refine lv_dup hx hb dX12_small_40 rfl ?_
        refine ng_86 hx hb hts in_x_small hown hK hP (hts _ (List.mem_cons_of_mem _ (List.mem_append_left _ (List.mem_append_left _ (List.mem_of_getElem? (i := 0) rfl))))) dX12_small_41 ?_
        refine lv_iconst (v := 1) hx hb dX12_small_44 (by decide) ?_
        refine lv_iadd hx hb dX12_small_45 ?_
        refine np_86 hx hb hts in_x_small hown hK hP hD hS (hts _ (List.mem_cons_of_mem _ (List.mem_append_left _ (List.mem_append_left _ (List.mem_of_getElem? (i := 0) rfl))))) dX12_small_46 (fun H locs hP hD hS => ?_)
        refine lv_goto (tgt := 16) hx hb dX12_small_49 (by decide) ?_
        exact ih.2.2.2.2.1 (upd L 2 (((((L 2)).toUInt32 >>> ((16 : Int32).toUInt32 &&& Int32.toUInt32 31)).toInt32))) (upd σ.1 86 ((((σ.1 86)) + 1)), σ.2.1, σ.2.2) r h H locs ls hP hD hS (lv_sub hl [1, 2, 0] rfl)
      · intro L σ r h H locs ls hP hD hS hl
        rw [x_small] at h
        refine lv_aload_n hx hb dX12_small_52 rfl (lv_at hl 0 rfl) ?_
        refine lv_iload_n hx hb dX12_small_53 rfl (lv_at hl 1 rfl) ?_
        refine lv_if_ge (tgt := 61) hx hb dX12_small_54 (by decide) (fun c1 => ?_) (fun c1 => ?_)
        · rw [if_pos c1] at h
          exact ih.2.2.2.2.2.2.2.1 L σ r h H locs ls hP hD hS (lv_sub hl [0, 1, 2] rfl)
        · rw [if_neg c1] at h
          refine lv_iconst (v := (-1)) hx hb dX12_small_57 (by decide) ?_
          refine lv_goto (tgt := 62) hx hb dX12_small_58 (by decide) ?_
          exact ih.2.2.2.2.2.2.2.2 (upd L 100 ((-1))) σ r h H locs ls hP hD hS (lv_sub hl [0, 1, 2] rfl)
      · intro L σ r h H locs ls hP hD hS hl
        rw [x_small] at h
        refine lv_iconst (v := 1) hx hb dX12_small_61 (by decide) ?_
        exact ih.2.2.2.2.2.2.2.2 (upd L 100 1) σ r h H locs ls hP hD hS (lv_sub hl [0, 1, 2] rfl)
      · intro L σ r h H locs ls hP hD hS hl
        rw [x_small] at h
        obtain ⟨r1, hc1, h⟩ := ob_ex h
        refine nc_Vi (As := [.int (L 100)]) (rest := []) ⟨hx, hb, hml, hown, hts⟩ (c_x_wholeOf l dC dI cy a k (upd (fun _ => 0) 1 ((L 100))) σ r1 hc1 H.size) (cwV 1 hts g_x_small_wholeOf_485 rfl rfl rfl hd_x_wholeOf ⟨Nat.le_of_ble_eq_true rfl, Nat.le_of_ble_eq_true rfl⟩) hK hG hA hP hD hS rfl hl.1 rfl (Nat.le_of_ble_eq_true rfl) dX12_small_62 ⟨Nat.le_refl _, Nat.le_refl _⟩ (fun H locs hP hD hS => ?_)
        cases h
        exact W.iret (v := r1.1) hx hb hr (fun t ht hW => ⟨⟨r1.1, (), rfl, rfl, by rw [ht]; exact hP, va_K.moved hW.alike hK, hD⟩, hS.F ht⟩) hS.2.2 dX12_small_65
  exact (blk k0).1 L0 σ0 r0 h0 s.heap [] ls hP hD hS hl
/-! compareRows__42__43 -/
def x_compareRows__42__43 : Nat → Nat → (Nat → Int32) → MS → Option (Int32 × MS)
  | 0, _, _, _ => none
  | k + 1, 0, L, σ => x_compareRows__42__43 k 1 (upd (upd L 4 ((((L 1)) - ((L 3))))) 5 ((((L 1)) - 1))) σ
  | k + 1, 1, L, σ => if ((L 5)) < 0 then (x_compareRows__42__43 k 2 L σ) else (if ((L 4)) = 0 then (if ¬ (((L 5)) < 0 ∨ 140 ≤ ((L 5)).toNatClampNeg) then (if ¬ (((L 5)) < 0 ∨ 140 ≤ ((L 5)).toNatClampNeg) then (x_compareRows__42__43 k 1 (upd (upd L 4 ((((σ.2.2 42 ((L 5)).toNatClampNeg)) - ((σ.2.2 43 ((L 5)).toNatClampNeg))))) 5 (((L 5)) + (-1))) σ) else none) else none) else (x_compareRows__42__43 k 2 L σ))
  | k + 1, 2, L, σ => some ((L 4), σ)
  | _ + 1, _ + 3, _, _ => none
def o_x_compareRows__42__43 : List Cond := []
theorem o_x_compareRows__42__43_good : o_x_compareRows__42__43.all goodWord = true := by decide +kernel
def p_x_compareRows__42__43 : List Cond := o_x_compareRows__42__43 ++ []
theorem p_x_compareRows__42__43_good : p_x_compareRows__42__43.all goodWord = true := nb_all2 o_x_compareRows__42__43_good rfl
def w_x_compareRows__42__43 : List Cond := .code yX12_compareRows cX12_compareRows 6 (some .int) :: (p_x_compareRows__42__43 ++ fM)
theorem w_x_compareRows__42__43_good : w_x_compareRows__42__43.all goodWord = true := nb_allc (by decide +kernel) (nb_all2 p_x_compareRows__42__43_good fM_good)
theorem in_x_compareRows__42__43 : ∀ w ∈ wsX120, w ∈ w_x_compareRows__42__43 := fun _ h => List.mem_cons_of_mem _ (List.mem_append_right _ h)
theorem hd_x_compareRows__42__43 : yX12_compareRows.cls ≠ "java/lang/invoke/MethodHandle" ∧ yX12_compareRows.cls ≠ "java/lang/invoke/VarHandle" ∧ (parseMethodDescriptor yX12_compareRows.desc).map (fun d => d.parameters.length) = some 4 := by decide +kernel
set_option maxHeartbeats 40000000 in
set_option maxRecDepth 100000 in
theorem c_x_compareRows__42__43 (l : Launch) (dC : Nat → ClassId) (dI : Nat → Nat → Nat) (cy : Nat → ClassId) (a : Nat → Nat) (k0 : Nat) (L0 : Nat → Int32) (σ0 : MS) (r0 : Int32 × MS) (h0 : x_compareRows__42__43 k0 0 L0 σ0 = some r0) (sz : Nat) : Met l yX12_compareRows w_x_compareRows__42__43 ({ frames := 0, cells := 0, slots := 0, locals := 0 }) (va_Pc [.ref (a 42), .int (L0 1), .ref (a 43), .int (L0 3)] (nIn (dC, dI) cy sz (vM cy a σ0))) (va_Qi (fun (z : Int32) (_ : Unit) => z = r0.1) (fun _ t => nOut (dC, dI) cy (va_A (vM cy a σ0) sz) (vM cy a r0.2) t) (va_A (vM cy a σ0) sz)) 0 0 (va_A (vM cy a σ0) sz) := by
  refine Met.ofW (cc := cX12_compareRows) (maxL := 6) (ret := (some .int)) (by decide) rfl ?_
  intro p e s m args below meth c s₁ B hml hv
  obtain ⟨rfl, hsz, hP, hK, hD0, hG⟩ := hv
  have hx := B.exec
  have hb := B.bytes
  have hr := B.returns
  have hts := atoms_spec (ws := w_x_compareRows__42__43) B.pre
  have hown : s.vm.findClass RX12 = some m.cls := findClass_of_methodNamed B.named
  have hlocks := B.notSynchronized
  subst hsz
  have hD := hD0.self (sz := s.heap.size)
  generalize hAe : va_A (vM cy a σ0) s.heap.size = A at hD ⊢
  have hA : ∀ q : Nat, s.heap.size ≤ q → A q := fun q h => by rw [← hAe]; exact Or.inr h
  have hS : va_S A s.heap s.heap [] := va_S.rf
  have hl := lv_entry ([.ref (a 42), .int (L0 1), .ref (a 43), .int (L0 3)]) (n := 6) (Nat.le_of_ble_eq_true rfl)
  rw [lg_entry_eq]
  generalize (lg_sl ([.ref (a 42), .int (L0 1), .ref (a 43), .int (L0 3)]) ++ List.replicate (6 - (lg_sl ([.ref (a 42), .int (L0 1), .ref (a 43), .int (L0 3)])).length) Slot.unset).toArray = ls at hl ⊢
  have hl : lv_has ls 6 [(0, .ref (a 42)), (1, .int (L0 1)), (2, .ref (a 43)), (3, .int (L0 3))] := hl
  have blk : ∀ k : Nat, (bT p l e (headSpec w_x_compareRows__42__43 ({ frames := 0, cells := 0, slots := 0, locals := 0 })).room s m #[.ref (a 42), .int (L0 1), .ref (a 43), .int (L0 3)] below meth c dC dI cy a A (qI dC dI cy a A below #[.ref (a 42), .int (L0 1), .ref (a 43), .int (L0 3)] s) 6 (x_compareRows__42__43 k 0) (fun L => [(0, .ref (a 42)), (1, .int (L 1)), (2, .ref (a 43)), (3, .int (L 3))]) 0 (fun L => [])) ∧ (bT p l e (headSpec w_x_compareRows__42__43 ({ frames := 0, cells := 0, slots := 0, locals := 0 })).room s m #[.ref (a 42), .int (L0 1), .ref (a 43), .int (L0 3)] below meth c dC dI cy a A (qI dC dI cy a A below #[.ref (a 42), .int (L0 1), .ref (a 43), .int (L0 3)] s) 6 (x_compareRows__42__43 k 1) (fun L => [(0, .ref (a 42)), (1, .int (L 1)), (2, .ref (a 43)), (3, .int (L 3)), (4, .int (L 4)), (5, .int (L 5))]) 10 (fun L => [])) ∧ (bT p l e (headSpec w_x_compareRows__42__43 ({ frames := 0, cells := 0, slots := 0, locals := 0 })).room s m #[.ref (a 42), .int (L0 1), .ref (a 43), .int (L0 3)] below meth c dC dI cy a A (qI dC dI cy a A below #[.ref (a 42), .int (L0 1), .ref (a 43), .int (L0 3)] s) 6 (x_compareRows__42__43 k 2) (fun L => [(0, .ref (a 42)), (1, .int (L 1)), (2, .ref (a 43)), (3, .int (L 3)), (4, .int (L 4)), (5, .int (L 5))]) 37 (fun L => [])) := by
    intro k
    induction k with
    | zero => exact ⟨fun L σ r h => (by cases h), fun L σ r h => (by cases h), fun L σ r h => (by cases h)⟩
    | succ k ih =>
      refine ⟨?_, ?_, ?_⟩
      · intro L σ r h H locs ls hP hD hS hl
        rw [x_compareRows__42__43] at h
        refine lv_iload_n hx hb dX12_compareRows_0 rfl (lv_at hl 1 rfl) ?_
        refine lv_iload_n hx hb dX12_compareRows_1 rfl (lv_at hl 3 rfl) ?_
        refine lv_isub hx hb dX12_compareRows_2 ?_
        refine lv_istore (lv' := [(4, .int (((L 1)) - ((L 3)))), (0, .ref (a 42)), (1, .int (L 1)), (2, .ref (a 43)), (3, .int (L 3))]) hx hb dX12_compareRows_3 hl (by decide) rfl (fun ls hl => ?_)
        refine lv_iload_n hx hb dX12_compareRows_5 rfl (lv_at hl 2 rfl) ?_
        refine lv_iconst (v := 1) hx hb dX12_compareRows_6 (by decide) ?_
        refine lv_isub hx hb dX12_compareRows_7 ?_
        refine lv_istore (lv' := [(5, .int (((L 1)) - 1)), (4, .int (((L 1)) - ((L 3)))), (0, .ref (a 42)), (1, .int (L 1)), (2, .ref (a 43)), (3, .int (L 3))]) hx hb dX12_compareRows_8 hl (by decide) rfl (fun ls hl => ?_)
        exact ih.2.1 (upd (upd L 4 ((((L 1)) - ((L 3))))) 5 ((((L 1)) - 1))) σ r h H locs ls hP hD hS (lv_sub hl [2, 3, 4, 5, 1, 0] rfl)
      · intro L σ r h H locs ls hP hD hS hl
        rw [x_compareRows__42__43] at h
        refine lv_iload hx hb dX12_compareRows_10 (lv_at hl 5 rfl) ?_
        refine lv_if_lt (tgt := 37) hx hb dX12_compareRows_12 (by decide) (fun c1 => ?_) (fun c1 => ?_)
        · rw [if_pos c1] at h
          exact ih.2.2 L σ r h H locs ls hP hD hS (lv_sub hl [0, 1, 2, 3, 4, 5] rfl)
        · rw [if_neg c1] at h
          refine lv_iload hx hb dX12_compareRows_15 (lv_at hl 4 rfl) ?_
          refine lv_if_ne (tgt := 37) hx hb dX12_compareRows_17 (by decide) (fun c2 => ?_) (fun c2 => ?_)
          · rw [if_neg c2] at h
            exact ih.2.2 L σ r h H locs ls hP hD hS (lv_sub hl [0, 1, 2, 3, 4, 5] rfl)
          · rw [if_pos c2] at h
            refine lv_aload_n hx hb dX12_compareRows_20 rfl (lv_at hl 0 rfl) ?_
            refine lv_iload hx hb dX12_compareRows_21 (lv_at hl 5 rfl) ?_
            obtain ⟨q3, h⟩ := nb_ite1 h
            refine nl_42 hx hb hK hP q3 dX12_compareRows_23 ?_
            refine lv_aload_n hx hb dX12_compareRows_24 rfl (lv_at hl 2 rfl) ?_
            refine lv_iload hx hb dX12_compareRows_25 (lv_at hl 5 rfl) ?_
            obtain ⟨q4, h⟩ := nb_ite1 h
            refine nl_43 hx hb hK hP q4 dX12_compareRows_27 ?_
            refine lv_isub hx hb dX12_compareRows_28 ?_
            refine lv_istore (lv' := [(4, .int (((σ.2.2 42 ((L 5)).toNatClampNeg)) - ((σ.2.2 43 ((L 5)).toNatClampNeg)))), (0, .ref (a 42)), (1, .int (L 1)), (2, .ref (a 43)), (3, .int (L 3)), (5, .int (L 5))]) hx hb dX12_compareRows_29 hl (by decide) rfl (fun ls hl => ?_)
            refine lv_iinc (v := ((L 5)) + (-1)) (lv' := [(5, .int (((L 5)) + (-1))), (4, .int (((σ.2.2 42 ((L 5)).toNatClampNeg)) - ((σ.2.2 43 ((L 5)).toNatClampNeg)))), (0, .ref (a 42)), (1, .int (L 1)), (2, .ref (a 43)), (3, .int (L 3))]) hx hb dX12_compareRows_31 hl (k := 5) rfl rfl (by decide) rfl (fun ls hl => ?_)
            refine lv_goto (tgt := 10) hx hb dX12_compareRows_34 (by decide) ?_
            exact ih.2.1 (upd (upd L 4 ((((σ.2.2 42 ((L 5)).toNatClampNeg)) - ((σ.2.2 43 ((L 5)).toNatClampNeg))))) 5 (((L 5)) + (-1))) σ r h H locs ls hP hD hS (lv_sub hl [2, 3, 4, 5, 1, 0] rfl)
      · intro L σ r h H locs ls hP hD hS hl
        rw [x_compareRows__42__43] at h
        refine lv_iload hx hb dX12_compareRows_37 (lv_at hl 4 rfl) ?_
        cases h
        exact W.iret (v := (L 4)) hx hb hr (fun t ht hW => ⟨⟨(L 4), (), rfl, rfl, by rw [ht]; exact hP, va_K.moved hW.alike hK, hD⟩, hS.F ht⟩) hS.2.2 dX12_compareRows_39
  exact (blk k0).1 L0 σ0 r0 h0 s.heap [] ls hP hD hS hl
/-! add -/
def x_add : Nat → Nat → (Nat → Int32) → MS → Option (Int32 × MS)
  | 0, _, _, _ => none
  | k + 1, 0, L, σ => ob (x_loadA k 0 (upd (fun _ => 0) 1 ((L 1))) σ) (fun r1 => ob (x_loadB k 0 (upd (fun _ => 0) 1 ((L 2))) r1.2) (fun r2 => ob (x_signOf k 0 (upd (fun _ => 0) 1 ((L 1))) r2.2) (fun r3 => ob (x_signOf k 0 (upd (fun _ => 0) 1 ((L 2))) r3.2) (fun r4 => if r3.1 = 0 then (x_add k 1 (upd (upd L 4 r3.1) 5 ((r4.1 * ((L 3))))) r4.2) else (if ((r4.1 * ((L 3)))) = 0 then (x_add k 1 (upd (upd L 4 r3.1) 5 ((r4.1 * ((L 3))))) r4.2) else (if r3.1 = ((r4.1 * ((L 3)))) then (x_add k 1 (upd (upd L 4 r3.1) 5 ((r4.1 * ((L 3))))) r4.2) else (x_add k 16 (upd (upd L 4 r3.1) 5 ((r4.1 * ((L 3))))) r4.2)))))))
  | k + 1, 1, L, σ => if ((σ.1 84)) ≤ ((σ.1 85)) then (x_add k 2 (upd L 6 0) σ) else (x_add k 3 (upd (upd L 6 0) 100 ((σ.1 84))) σ)
  | k + 1, 2, L, σ => x_add k 3 (upd L 100 ((σ.1 85))) σ
  | k + 1, 3, L, σ => x_add k 4 L (upd σ.1 86 ((L 100)), σ.2.1, σ.2.2)
  | k + 1, 4, L, σ => x_add k 5 (upd L 7 0) σ
  | k + 1, 5, L, σ => if ((σ.1 86)) ≤ ((L 7)) then (x_add k 11 L σ) else (if ((σ.1 84)) ≤ ((L 7)) then (x_add k 6 (upd L 100 ((L 6))) σ) else (if ¬ (((L 7)) < 0 ∨ 140 ≤ ((L 7)).toNatClampNeg) then (x_add k 7 (upd (upd L 100 ((σ.2.2 42 ((L 7)).toNatClampNeg))) 101 ((L 6))) σ) else none))
  | k + 1, 6, L, σ => x_add k 7 (upd (upd L 100 0) 101 ((L 100))) σ
  | k + 1, 7, L, σ => if ((σ.1 85)) ≤ ((L 7)) then (x_add k 8 (upd (upd L 100 ((L 100))) 101 ((L 101))) σ) else (if ¬ (((L 7)) < 0 ∨ 140 ≤ ((L 7)).toNatClampNeg) then (x_add k 9 (upd (upd (upd L 100 ((σ.2.2 43 ((L 7)).toNatClampNeg))) 101 ((L 100))) 102 ((L 101))) σ) else none)
  | k + 1, 8, L, σ => x_add k 9 (upd (upd (upd L 100 0) 101 ((L 100))) 102 ((L 101))) σ
  | k + 1, 9, L, σ => if ¬ (((L 7)) < 0 ∨ 300 ≤ ((L 7)).toNatClampNeg) then (x_add k 10 (upd L 6 ((((L 102)) + ((((L 101)) + ((L 100))))))) (σ.1, σ.2.1, updG σ.2.2 44 (upd (σ.2.2 44) ((L 7)).toNatClampNeg ((((((L 102)) + ((((L 101)) + ((L 100)))))) &&& 65535))))) else none
  | k + 1, 10, L, σ => x_add k 5 (upd (upd L 6 ((((L 6)) >>> ((16 : Int32) &&& 31)))) 7 (((L 7)) + 1)) σ
  | k + 1, 11, L, σ => if ((L 6)) ≤ 0 then (x_add k 13 L σ) else (if ¬ (((σ.1 86)) < 0 ∨ 300 ≤ ((σ.1 86)).toNatClampNeg) then (x_add k 12 L (σ.1, σ.2.1, updG σ.2.2 44 (upd (σ.2.2 44) ((σ.1 86)).toNatClampNeg ((L 6))))) else none)
  | k + 1, 12, L, σ => x_add k 13 L (upd σ.1 86 ((((σ.1 86)) + 1)), σ.2.1, σ.2.2)
  | k + 1, 13, L, σ => if ((L 4)) = 0 then (x_add k 15 (upd L 100 ((L 5))) σ) else (x_add k 14 L σ)
  | k + 1, 14, L, σ => x_add k 15 (upd L 100 ((L 4))) σ
  | k + 1, 15, L, σ => ob (x_wholeOf k 0 (upd (fun _ => 0) 1 ((L 100))) σ) (fun r1 => some (r1.1, r1.2))
  | k + 1, 16, L, σ => ob (x_compareRows__42__43 k 0 (upd (upd (fun _ => 0) 1 ((σ.1 84))) 3 ((σ.1 85))) σ) (fun r1 => if ((r1.2.1 84)) ≤ ((r1.2.1 85)) then (x_add k 17 (upd L 6 r1.1) r1.2) else (x_add k 18 (upd (upd L 6 r1.1) 100 ((r1.2.1 84))) r1.2))
  | k + 1, 17, L, σ => x_add k 18 (upd L 100 ((σ.1 85))) σ
  | k + 1, 18, L, σ => x_add k 19 L (upd σ.1 86 ((L 100)), σ.2.1, σ.2.2)
  | k + 1, 19, L, σ => x_add k 20 (upd (upd L 7 0) 8 0) σ
  | k + 1, 20, L, σ => if ((σ.1 86)) ≤ ((L 8)) then (x_add k 30 L σ) else (if ((σ.1 84)) ≤ ((L 8)) then (x_add k 21 L σ) else (if ¬ (((L 8)) < 0 ∨ 140 ≤ ((L 8)).toNatClampNeg) then (x_add k 22 (upd L 100 ((σ.2.2 42 ((L 8)).toNatClampNeg))) σ) else none))
  | k + 1, 21, L, σ => x_add k 22 (upd L 100 0) σ
  | k + 1, 22, L, σ => if ((σ.1 85)) ≤ ((L 8)) then (x_add k 23 (upd L 9 ((L 100))) σ) else (if ¬ (((L 8)) < 0 ∨ 140 ≤ ((L 8)).toNatClampNeg) then (x_add k 24 (upd (upd L 9 ((L 100))) 100 ((σ.2.2 43 ((L 8)).toNatClampNeg))) σ) else none)
  | k + 1, 23, L, σ => x_add k 24 (upd L 100 0) σ
  | k + 1, 24, L, σ => if ((L 6)) < 0 then (x_add k 25 (upd L 10 ((L 100))) σ) else (x_add k 26 (upd (upd L 10 ((L 100))) 100 ((((L 9)) - ((L 100))))) σ)
  | k + 1, 25, L, σ => x_add k 26 (upd L 100 ((((L 10)) - ((L 9))))) σ
  | k + 1, 26, L, σ => if 0 ≤ ((((L 100)) - ((L 7)))) then (x_add k 27 (upd L 11 ((((L 100)) - ((L 7))))) σ) else (x_add k 28 (upd (upd L 11 ((((L 100)) - ((L 7))))) 100 1) σ)
  | k + 1, 27, L, σ => x_add k 28 (upd L 100 0) σ
  | k + 1, 28, L, σ => if ¬ (((L 8)) < 0 ∨ 300 ≤ ((L 8)).toNatClampNeg) then (x_add k 29 (upd L 7 ((L 100))) (σ.1, σ.2.1, updG σ.2.2 44 (upd (σ.2.2 44) ((L 8)).toNatClampNeg ((((L 11)) &&& 65535))))) else none
  | k + 1, 29, L, σ => x_add k 20 (upd L 8 (((L 8)) + 1)) σ
  | k + 1, 30, L, σ => if ((L 6)) < 0 then (x_add k 31 L σ) else (x_add k 32 (upd L 100 ((L 4))) σ)
  | k + 1, 31, L, σ => x_add k 32 (upd L 100 ((L 5))) σ
  | k + 1, 32, L, σ => ob (x_wholeOf k 0 (upd (fun _ => 0) 1 ((L 100))) σ) (fun r1 => some (r1.1, r1.2))
  | _ + 1, _ + 33, _, _ => none
def o_x_add : List Cond := [.methodLink RX12 488 yX12_loadA, .instanceMethod yX12_loadA, .selects RX12 yX12_loadA yX12_loadA, .initialized RX12, .methodLink RX12 491 yX12_loadB, .instanceMethod yX12_loadB, .selects RX12 yX12_loadB yX12_loadB, .methodLink RX12 463 yX12_signOf, .instanceMethod yX12_signOf, .selects RX12 yX12_signOf yX12_signOf, .fieldLink RX12 466 "SetHouseModel" "na" "I", .fieldLink RX12 472 "SetHouseModel" "nb" "I", .fieldLink RX12 478 "SetHouseModel" "nc" "I", .fieldLink RX12 469 "SetHouseModel" "ra" "[I", .fieldLink RX12 475 "SetHouseModel" "rb" "[I", .fieldLink RX12 481 "SetHouseModel" "rc" "[I", .constant RX12 484 (65535), .methodLink RX12 485 yX12_wholeOf, .instanceMethod yX12_wholeOf, .selects RX12 yX12_wholeOf yX12_wholeOf, .methodLink RX12 494 yX12_compareRows, .static yX12_compareRows]
theorem o_x_add_good : o_x_add.all goodWord = true := by decide +kernel
def p_x_add : List Cond := o_x_add ++ ((.code yX12_loadA cX12_loadA 3 none :: p_x_loadA) ++ ((.code yX12_loadB cX12_loadB 3 none :: p_x_loadB) ++ ((.code yX12_signOf cX12_signOf 2 (some .int) :: p_x_signOf) ++ ((.code yX12_wholeOf cX12_wholeOf 4 (some .int) :: p_x_wholeOf) ++ ((.code yX12_compareRows cX12_compareRows 6 (some .int) :: p_x_compareRows__42__43) ++ [])))))
theorem p_x_add_good : p_x_add.all goodWord = true := nb_all2 o_x_add_good (nb_all2 (nb_allc (by decide +kernel) p_x_loadA_good) (nb_all2 (nb_allc (by decide +kernel) p_x_loadB_good) (nb_all2 (nb_allc (by decide +kernel) p_x_signOf_good) (nb_all2 (nb_allc (by decide +kernel) p_x_wholeOf_good) (nb_all2 (nb_allc (by decide +kernel) p_x_compareRows__42__43_good) rfl)))))
def w_x_add : List Cond := .code yX12_add cX12_add 12 (some .int) :: (p_x_add ++ fM)
theorem w_x_add_good : w_x_add.all goodWord = true := nb_allc (by decide +kernel) (nb_all2 p_x_add_good fM_good)
theorem in_x_add : ∀ w ∈ wsX120, w ∈ w_x_add := fun _ h => List.mem_cons_of_mem _ (List.mem_append_right _ h)
theorem hd_x_add : yX12_add.cls = RX12 ∧ yX12_add.cls ≠ "java/lang/invoke/MethodHandle" ∧ yX12_add.cls ≠ "java/lang/invoke/VarHandle" ∧ (parseMethodDescriptor yX12_add.desc).map (fun d => d.parameters.length) = some 3 := by decide +kernel
theorem gg_x_add_compareRows__42__43 : GoodIn w_x_add w_x_compareRows__42__43 := goodIn_sub (fun w h => (List.mem_cons.mp h).elim (fun e => (List.mem_cons_of_mem _ (List.mem_append_left _ (List.mem_append_right _ (List.mem_append_right _ (List.mem_append_right _ (List.mem_append_right _ (List.mem_append_right _ (List.mem_append_left _ (List.mem_cons.mpr (Or.inl e))))))))))) (fun h => (List.mem_append.mp h).elim (fun h => (List.mem_cons_of_mem _ (List.mem_append_left _ (List.mem_append_right _ (List.mem_append_right _ (List.mem_append_right _ (List.mem_append_right _ (List.mem_append_right _ (List.mem_append_left _ (List.mem_cons_of_mem _ h)))))))))) (fun h => List.mem_cons_of_mem _ (List.mem_append_right _ h)))) w_x_compareRows__42__43_good
theorem g_x_add_compareRows__42__43_494 : GoodIn w_x_add (va_wsS RX12 494 yX12_compareRows w_x_compareRows__42__43) := goodIn_app (nb_g3 (List.mem_cons_of_mem _ (List.mem_append_left _ (List.mem_append_left _ (List.mem_of_getElem? (i := 20) rfl)))) (List.mem_cons_of_mem _ (List.mem_append_left _ (List.mem_append_left _ (List.mem_of_getElem? (i := 21) rfl)))) (List.mem_cons_of_mem _ (List.mem_append_left _ (List.mem_append_left _ (List.mem_of_getElem? (i := 3) rfl)))) (by decide +kernel)) gg_x_add_compareRows__42__43
theorem gg_x_add_loadA : GoodIn w_x_add w_x_loadA := goodIn_sub (fun w h => (List.mem_cons.mp h).elim (fun e => (List.mem_cons_of_mem _ (List.mem_append_left _ (List.mem_append_right _ (List.mem_append_left _ (List.mem_cons.mpr (Or.inl e))))))) (fun h => (List.mem_append.mp h).elim (fun h => (List.mem_cons_of_mem _ (List.mem_append_left _ (List.mem_append_right _ (List.mem_append_left _ (List.mem_cons_of_mem _ h)))))) (fun h => List.mem_cons_of_mem _ (List.mem_append_right _ h)))) w_x_loadA_good
theorem g_x_add_loadA_488 : GoodIn w_x_add (wsV RX12 488 RX12 yX12_loadA w_x_loadA) := goodIn_app (nb_g4 (List.mem_cons_of_mem _ (List.mem_append_left _ (List.mem_append_left _ (List.mem_of_getElem? (i := 0) rfl)))) (List.mem_cons_of_mem _ (List.mem_append_left _ (List.mem_append_left _ (List.mem_of_getElem? (i := 1) rfl)))) (List.mem_cons_of_mem _ (List.mem_append_left _ (List.mem_append_left _ (List.mem_of_getElem? (i := 2) rfl)))) (List.mem_cons_of_mem _ (List.mem_append_left _ (List.mem_append_left _ (List.mem_of_getElem? (i := 3) rfl)))) (by decide +kernel)) gg_x_add_loadA
theorem gg_x_add_loadB : GoodIn w_x_add w_x_loadB := goodIn_sub (fun w h => (List.mem_cons.mp h).elim (fun e => (List.mem_cons_of_mem _ (List.mem_append_left _ (List.mem_append_right _ (List.mem_append_right _ (List.mem_append_left _ (List.mem_cons.mpr (Or.inl e)))))))) (fun h => (List.mem_append.mp h).elim (fun h => (List.mem_cons_of_mem _ (List.mem_append_left _ (List.mem_append_right _ (List.mem_append_right _ (List.mem_append_left _ (List.mem_cons_of_mem _ h))))))) (fun h => List.mem_cons_of_mem _ (List.mem_append_right _ h)))) w_x_loadB_good
theorem g_x_add_loadB_491 : GoodIn w_x_add (wsV RX12 491 RX12 yX12_loadB w_x_loadB) := goodIn_app (nb_g4 (List.mem_cons_of_mem _ (List.mem_append_left _ (List.mem_append_left _ (List.mem_of_getElem? (i := 4) rfl)))) (List.mem_cons_of_mem _ (List.mem_append_left _ (List.mem_append_left _ (List.mem_of_getElem? (i := 5) rfl)))) (List.mem_cons_of_mem _ (List.mem_append_left _ (List.mem_append_left _ (List.mem_of_getElem? (i := 6) rfl)))) (List.mem_cons_of_mem _ (List.mem_append_left _ (List.mem_append_left _ (List.mem_of_getElem? (i := 3) rfl)))) (by decide +kernel)) gg_x_add_loadB
theorem gg_x_add_signOf : GoodIn w_x_add w_x_signOf := goodIn_sub (fun w h => (List.mem_cons.mp h).elim (fun e => (List.mem_cons_of_mem _ (List.mem_append_left _ (List.mem_append_right _ (List.mem_append_right _ (List.mem_append_right _ (List.mem_append_left _ (List.mem_cons.mpr (Or.inl e))))))))) (fun h => (List.mem_append.mp h).elim (fun h => (List.mem_cons_of_mem _ (List.mem_append_left _ (List.mem_append_right _ (List.mem_append_right _ (List.mem_append_right _ (List.mem_append_left _ (List.mem_cons_of_mem _ h)))))))) (fun h => List.mem_cons_of_mem _ (List.mem_append_right _ h)))) w_x_signOf_good
theorem g_x_add_signOf_463 : GoodIn w_x_add (wsV RX12 463 RX12 yX12_signOf w_x_signOf) := goodIn_app (nb_g4 (List.mem_cons_of_mem _ (List.mem_append_left _ (List.mem_append_left _ (List.mem_of_getElem? (i := 7) rfl)))) (List.mem_cons_of_mem _ (List.mem_append_left _ (List.mem_append_left _ (List.mem_of_getElem? (i := 8) rfl)))) (List.mem_cons_of_mem _ (List.mem_append_left _ (List.mem_append_left _ (List.mem_of_getElem? (i := 9) rfl)))) (List.mem_cons_of_mem _ (List.mem_append_left _ (List.mem_append_left _ (List.mem_of_getElem? (i := 3) rfl)))) (by decide +kernel)) gg_x_add_signOf
theorem gg_x_add_wholeOf : GoodIn w_x_add w_x_wholeOf := goodIn_sub (fun w h => (List.mem_cons.mp h).elim (fun e => (List.mem_cons_of_mem _ (List.mem_append_left _ (List.mem_append_right _ (List.mem_append_right _ (List.mem_append_right _ (List.mem_append_right _ (List.mem_append_left _ (List.mem_cons.mpr (Or.inl e)))))))))) (fun h => (List.mem_append.mp h).elim (fun h => (List.mem_cons_of_mem _ (List.mem_append_left _ (List.mem_append_right _ (List.mem_append_right _ (List.mem_append_right _ (List.mem_append_right _ (List.mem_append_left _ (List.mem_cons_of_mem _ h))))))))) (fun h => List.mem_cons_of_mem _ (List.mem_append_right _ h)))) w_x_wholeOf_good
theorem g_x_add_wholeOf_485 : GoodIn w_x_add (wsV RX12 485 RX12 yX12_wholeOf w_x_wholeOf) := goodIn_app (nb_g4 (List.mem_cons_of_mem _ (List.mem_append_left _ (List.mem_append_left _ (List.mem_of_getElem? (i := 17) rfl)))) (List.mem_cons_of_mem _ (List.mem_append_left _ (List.mem_append_left _ (List.mem_of_getElem? (i := 18) rfl)))) (List.mem_cons_of_mem _ (List.mem_append_left _ (List.mem_append_left _ (List.mem_of_getElem? (i := 19) rfl)))) (List.mem_cons_of_mem _ (List.mem_append_left _ (List.mem_append_left _ (List.mem_of_getElem? (i := 3) rfl)))) (by decide +kernel)) gg_x_add_wholeOf
set_option maxHeartbeats 40000000 in
set_option maxRecDepth 100000 in
theorem c_x_add (l : Launch) (dC : Nat → ClassId) (dI : Nat → Nat → Nat) (cy : Nat → ClassId) (a : Nat → Nat) (k0 : Nat) (L0 : Nat → Int32) (σ0 : MS) (r0 : Int32 × MS) (h0 : x_add k0 0 L0 σ0 = some r0) (sz : Nat) : Met l yX12_add w_x_add ({ frames := 3, cells := 0, slots := 0, locals := 67 }) (va_Pc [.ref (a 0), .int (L0 1), .int (L0 2), .int (L0 3)] (nIn (dC, dI) cy sz (vM cy a σ0))) (va_Qi (fun (z : Int32) (_ : Unit) => z = r0.1) (fun _ t => nOut (dC, dI) cy (va_A (vM cy a σ0) sz) (vM cy a r0.2) t) (va_A (vM cy a σ0) sz)) 0 0 (va_A (vM cy a σ0) sz) := by
  refine Met.ofW (cc := cX12_add) (maxL := 12) (ret := (some .int)) (by decide) rfl ?_
  intro p e s m args below meth c s₁ B hml hv
  obtain ⟨rfl, hsz, hP, hK, hD0, hG⟩ := hv
  have hx := B.exec
  have hb := B.bytes
  have hr := B.returns
  have hts := atoms_spec (ws := w_x_add) B.pre
  have hown : s.vm.findClass RX12 = some m.cls := findClass_of_methodNamed B.named
  have hlocks := B.notSynchronized
  subst hsz
  have hD := hD0.self (sz := s.heap.size)
  generalize hAe : va_A (vM cy a σ0) s.heap.size = A at hD ⊢
  have hA : ∀ q : Nat, s.heap.size ≤ q → A q := fun q h => by rw [← hAe]; exact Or.inr h
  have hS : va_S A s.heap s.heap [] := va_S.rf
  have hl := lv_entry ([.ref (a 0), .int (L0 1), .int (L0 2), .int (L0 3)]) (n := 12) (Nat.le_of_ble_eq_true rfl)
  rw [lg_entry_eq]
  generalize (lg_sl ([.ref (a 0), .int (L0 1), .int (L0 2), .int (L0 3)]) ++ List.replicate (12 - (lg_sl ([.ref (a 0), .int (L0 1), .int (L0 2), .int (L0 3)])).length) Slot.unset).toArray = ls at hl ⊢
  have hl : lv_has ls 12 [(0, .ref (a 0)), (1, .int (L0 1)), (2, .int (L0 2)), (3, .int (L0 3))] := hl
  have blk : ∀ k : Nat, (bT p l e (headSpec w_x_add ({ frames := 3, cells := 0, slots := 0, locals := 67 })).room s m #[.ref (a 0), .int (L0 1), .int (L0 2), .int (L0 3)] below meth c dC dI cy a A (qI dC dI cy a A below #[.ref (a 0), .int (L0 1), .int (L0 2), .int (L0 3)] s) 12 (x_add k 0) (fun L => [(0, .ref (a 0)), (1, .int (L 1)), (2, .int (L 2)), (3, .int (L 3))]) 0 (fun L => [])) ∧ (bT p l e (headSpec w_x_add ({ frames := 3, cells := 0, slots := 0, locals := 67 })).room s m #[.ref (a 0), .int (L0 1), .int (L0 2), .int (L0 3)] below meth c dC dI cy a A (qI dC dI cy a A below #[.ref (a 0), .int (L0 1), .int (L0 2), .int (L0 3)] s) 12 (x_add k 1) (fun L => [(0, .ref (a 0)), (1, .int (L 1)), (2, .int (L 2)), (3, .int (L 3)), (4, .int (L 4)), (5, .int (L 5))]) 43 (fun L => [])) ∧ (bT p l e (headSpec w_x_add ({ frames := 3, cells := 0, slots := 0, locals := 67 })).room s m #[.ref (a 0), .int (L0 1), .int (L0 2), .int (L0 3)] below meth c dC dI cy a A (qI dC dI cy a A below #[.ref (a 0), .int (L0 1), .int (L0 2), .int (L0 3)] s) 12 (x_add k 2) (fun L => [(0, .ref (a 0)), (1, .int (L 1)), (2, .int (L 2)), (3, .int (L 3)), (4, .int (L 4)), (5, .int (L 5)), (6, .int (L 6))]) 65 (fun L => [.ref (a 0)])) ∧ (bT p l e (headSpec w_x_add ({ frames := 3, cells := 0, slots := 0, locals := 67 })).room s m #[.ref (a 0), .int (L0 1), .int (L0 2), .int (L0 3)] below meth c dC dI cy a A (qI dC dI cy a A below #[.ref (a 0), .int (L0 1), .int (L0 2), .int (L0 3)] s) 12 (x_add k 3) (fun L => [(0, .ref (a 0)), (1, .int (L 1)), (2, .int (L 2)), (3, .int (L 3)), (4, .int (L 4)), (5, .int (L 5)), (6, .int (L 6))]) 69 (fun L => [.int (L 100), .ref (a 0)])) ∧ (bT p l e (headSpec w_x_add ({ frames := 3, cells := 0, slots := 0, locals := 67 })).room s m #[.ref (a 0), .int (L0 1), .int (L0 2), .int (L0 3)] below meth c dC dI cy a A (qI dC dI cy a A below #[.ref (a 0), .int (L0 1), .int (L0 2), .int (L0 3)] s) 12 (x_add k 4) (fun L => [(0, .ref (a 0)), (1, .int (L 1)), (2, .int (L 2)), (3, .int (L 3)), (4, .int (L 4)), (5, .int (L 5)), (6, .int (L 6))]) 72 (fun L => [])) ∧ (bT p l e (headSpec w_x_add ({ frames := 3, cells := 0, slots := 0, locals := 67 })).room s m #[.ref (a 0), .int (L0 1), .int (L0 2), .int (L0 3)] below meth c dC dI cy a A (qI dC dI cy a A below #[.ref (a 0), .int (L0 1), .int (L0 2), .int (L0 3)] s) 12 (x_add k 5) (fun L => [(0, .ref (a 0)), (1, .int (L 1)), (2, .int (L 2)), (3, .int (L 3)), (4, .int (L 4)), (5, .int (L 5)), (6, .int (L 6)), (7, .int (L 7))]) 75 (fun L => [])) ∧ (bT p l e (headSpec w_x_add ({ frames := 3, cells := 0, slots := 0, locals := 67 })).room s m #[.ref (a 0), .int (L0 1), .int (L0 2), .int (L0 3)] below meth c dC dI cy a A (qI dC dI cy a A below #[.ref (a 0), .int (L0 1), .int (L0 2), .int (L0 3)] s) 12 (x_add k 6) (fun L => [(0, .ref (a 0)), (1, .int (L 1)), (2, .int (L 2)), (3, .int (L 3)), (4, .int (L 4)), (5, .int (L 5)), (6, .int (L 6)), (7, .int (L 7))]) 105 (fun L => [.int (L 100)])) ∧ (bT p l e (headSpec w_x_add ({ frames := 3, cells := 0, slots := 0, locals := 67 })).room s m #[.ref (a 0), .int (L0 1), .int (L0 2), .int (L0 3)] below meth c dC dI cy a A (qI dC dI cy a A below #[.ref (a 0), .int (L0 1), .int (L0 2), .int (L0 3)] s) 12 (x_add k 7) (fun L => [(0, .ref (a 0)), (1, .int (L 1)), (2, .int (L 2)), (3, .int (L 3)), (4, .int (L 4)), (5, .int (L 5)), (6, .int (L 6)), (7, .int (L 7))]) 106 (fun L => [.int (L 100), .int (L 101)])) ∧ (bT p l e (headSpec w_x_add ({ frames := 3, cells := 0, slots := 0, locals := 67 })).room s m #[.ref (a 0), .int (L0 1), .int (L0 2), .int (L0 3)] below meth c dC dI cy a A (qI dC dI cy a A below #[.ref (a 0), .int (L0 1), .int (L0 2), .int (L0 3)] s) 12 (x_add k 8) (fun L => [(0, .ref (a 0)), (1, .int (L 1)), (2, .int (L 2)), (3, .int (L 3)), (4, .int (L 4)), (5, .int (L 5)), (6, .int (L 6)), (7, .int (L 7))]) 125 (fun L => [.int (L 100), .int (L 101)])) ∧ (bT p l e (headSpec w_x_add ({ frames := 3, cells := 0, slots := 0, locals := 67 })).room s m #[.ref (a 0), .int (L0 1), .int (L0 2), .int (L0 3)] below meth c dC dI cy a A (qI dC dI cy a A below #[.ref (a 0), .int (L0 1), .int (L0 2), .int (L0 3)] s) 12 (x_add k 9) (fun L => [(0, .ref (a 0)), (1, .int (L 1)), (2, .int (L 2)), (3, .int (L 3)), (4, .int (L 4)), (5, .int (L 5)), (6, .int (L 6)), (7, .int (L 7))]) 126 (fun L => [.int (L 100), .int (L 101), .int (L 102)])) ∧ (bT p l e (headSpec w_x_add ({ frames := 3, cells := 0, slots := 0, locals := 67 })).room s m #[.ref (a 0), .int (L0 1), .int (L0 2), .int (L0 3)] below meth c dC dI cy a A (qI dC dI cy a A below #[.ref (a 0), .int (L0 1), .int (L0 2), .int (L0 3)] s) 12 (x_add k 10) (fun L => [(0, .ref (a 0)), (1, .int (L 1)), (2, .int (L 2)), (3, .int (L 3)), (4, .int (L 4)), (5, .int (L 5)), (6, .int (L 6)), (7, .int (L 7))]) 143 (fun L => [])) ∧ (bT p l e (headSpec w_x_add ({ frames := 3, cells := 0, slots := 0, locals := 67 })).room s m #[.ref (a 0), .int (L0 1), .int (L0 2), .int (L0 3)] below meth c dC dI cy a A (qI dC dI cy a A below #[.ref (a 0), .int (L0 1), .int (L0 2), .int (L0 3)] s) 12 (x_add k 11) (fun L => [(0, .ref (a 0)), (1, .int (L 1)), (2, .int (L 2)), (3, .int (L 3)), (4, .int (L 4)), (5, .int (L 5)), (6, .int (L 6)), (7, .int (L 7))]) 156 (fun L => [])) ∧ (bT p l e (headSpec w_x_add ({ frames := 3, cells := 0, slots := 0, locals := 67 })).room s m #[.ref (a 0), .int (L0 1), .int (L0 2), .int (L0 3)] below meth c dC dI cy a A (qI dC dI cy a A below #[.ref (a 0), .int (L0 1), .int (L0 2), .int (L0 3)] s) 12 (x_add k 12) (fun L => [(0, .ref (a 0)), (1, .int (L 1)), (2, .int (L 2)), (3, .int (L 3)), (4, .int (L 4)), (5, .int (L 5)), (6, .int (L 6)), (7, .int (L 7))]) 172 (fun L => [])) ∧ (bT p l e (headSpec w_x_add ({ frames := 3, cells := 0, slots := 0, locals := 67 })).room s m #[.ref (a 0), .int (L0 1), .int (L0 2), .int (L0 3)] below meth c dC dI cy a A (qI dC dI cy a A below #[.ref (a 0), .int (L0 1), .int (L0 2), .int (L0 3)] s) 12 (x_add k 13) (fun L => [(0, .ref (a 0)), (1, .int (L 1)), (2, .int (L 2)), (3, .int (L 3)), (4, .int (L 4)), (5, .int (L 5)), (6, .int (L 6)), (7, .int (L 7))]) 182 (fun L => [])) ∧ (bT p l e (headSpec w_x_add ({ frames := 3, cells := 0, slots := 0, locals := 67 })).room s m #[.ref (a 0), .int (L0 1), .int (L0 2), .int (L0 3)] below meth c dC dI cy a A (qI dC dI cy a A below #[.ref (a 0), .int (L0 1), .int (L0 2), .int (L0 3)] s) 12 (x_add k 14) (fun L => [(0, .ref (a 0)), (1, .int (L 1)), (2, .int (L 2)), (3, .int (L 3)), (4, .int (L 4)), (5, .int (L 5)), (6, .int (L 6)), (7, .int (L 7))]) 193 (fun L => [.ref (a 0)])) ∧ (bT p l e (headSpec w_x_add ({ frames := 3, cells := 0, slots := 0, locals := 67 })).room s m #[.ref (a 0), .int (L0 1), .int (L0 2), .int (L0 3)] below meth c dC dI cy a A (qI dC dI cy a A below #[.ref (a 0), .int (L0 1), .int (L0 2), .int (L0 3)] s) 12 (x_add k 15) (fun L => [(0, .ref (a 0)), (1, .int (L 1)), (2, .int (L 2)), (3, .int (L 3)), (4, .int (L 4)), (5, .int (L 5)), (6, .int (L 6)), (7, .int (L 7))]) 195 (fun L => [.int (L 100), .ref (a 0)])) ∧ (bT p l e (headSpec w_x_add ({ frames := 3, cells := 0, slots := 0, locals := 67 })).room s m #[.ref (a 0), .int (L0 1), .int (L0 2), .int (L0 3)] below meth c dC dI cy a A (qI dC dI cy a A below #[.ref (a 0), .int (L0 1), .int (L0 2), .int (L0 3)] s) 12 (x_add k 16) (fun L => [(0, .ref (a 0)), (1, .int (L 1)), (2, .int (L 2)), (3, .int (L 3)), (4, .int (L 4)), (5, .int (L 5))]) 199 (fun L => [])) ∧ (bT p l e (headSpec w_x_add ({ frames := 3, cells := 0, slots := 0, locals := 67 })).room s m #[.ref (a 0), .int (L0 1), .int (L0 2), .int (L0 3)] below meth c dC dI cy a A (qI dC dI cy a A below #[.ref (a 0), .int (L0 1), .int (L0 2), .int (L0 3)] s) 12 (x_add k 17) (fun L => [(0, .ref (a 0)), (1, .int (L 1)), (2, .int (L 2)), (3, .int (L 3)), (4, .int (L 4)), (5, .int (L 5)), (6, .int (L 6))]) 239 (fun L => [.ref (a 0)])) ∧ (bT p l e (headSpec w_x_add ({ frames := 3, cells := 0, slots := 0, locals := 67 })).room s m #[.ref (a 0), .int (L0 1), .int (L0 2), .int (L0 3)] below meth c dC dI cy a A (qI dC dI cy a A below #[.ref (a 0), .int (L0 1), .int (L0 2), .int (L0 3)] s) 12 (x_add k 18) (fun L => [(0, .ref (a 0)), (1, .int (L 1)), (2, .int (L 2)), (3, .int (L 3)), (4, .int (L 4)), (5, .int (L 5)), (6, .int (L 6))]) 243 (fun L => [.int (L 100), .ref (a 0)])) ∧ (bT p l e (headSpec w_x_add ({ frames := 3, cells := 0, slots := 0, locals := 67 })).room s m #[.ref (a 0), .int (L0 1), .int (L0 2), .int (L0 3)] below meth c dC dI cy a A (qI dC dI cy a A below #[.ref (a 0), .int (L0 1), .int (L0 2), .int (L0 3)] s) 12 (x_add k 19) (fun L => [(0, .ref (a 0)), (1, .int (L 1)), (2, .int (L 2)), (3, .int (L 3)), (4, .int (L 4)), (5, .int (L 5)), (6, .int (L 6))]) 246 (fun L => [])) ∧ (bT p l e (headSpec w_x_add ({ frames := 3, cells := 0, slots := 0, locals := 67 })).room s m #[.ref (a 0), .int (L0 1), .int (L0 2), .int (L0 3)] below meth c dC dI cy a A (qI dC dI cy a A below #[.ref (a 0), .int (L0 1), .int (L0 2), .int (L0 3)] s) 12 (x_add k 20) (fun L => [(0, .ref (a 0)), (1, .int (L 1)), (2, .int (L 2)), (3, .int (L 3)), (4, .int (L 4)), (5, .int (L 5)), (6, .int (L 6)), (7, .int (L 7)), (8, .int (L 8))]) 252 (fun L => [])) ∧ (bT p l e (headSpec w_x_add ({ frames := 3, cells := 0, slots := 0, locals := 67 })).room s m #[.ref (a 0), .int (L0 1), .int (L0 2), .int (L0 3)] below meth c dC dI cy a A (qI dC dI cy a A below #[.ref (a 0), .int (L0 1), .int (L0 2), .int (L0 3)] s) 12 (x_add k 21) (fun L => [(0, .ref (a 0)), (1, .int (L 1)), (2, .int (L 2)), (3, .int (L 3)), (4, .int (L 4)), (5, .int (L 5)), (6, .int (L 6)), (7, .int (L 7)), (8, .int (L 8))]) 280 (fun L => [])) ∧ (bT p l e (headSpec w_x_add ({ frames := 3, cells := 0, slots := 0, locals := 67 })).room s m #[.ref (a 0), .int (L0 1), .int (L0 2), .int (L0 3)] below meth c dC dI cy a A (qI dC dI cy a A below #[.ref (a 0), .int (L0 1), .int (L0 2), .int (L0 3)] s) 12 (x_add k 22) (fun L => [(0, .ref (a 0)), (1, .int (L 1)), (2, .int (L 2)), (3, .int (L 3)), (4, .int (L 4)), (5, .int (L 5)), (6, .int (L 6)), (7, .int (L 7)), (8, .int (L 8))]) 281 (fun L => [.int (L 100)])) ∧ (bT p l e (headSpec w_x_add ({ frames := 3, cells := 0, slots := 0, locals := 67 })).room s m #[.ref (a 0), .int (L0 1), .int (L0 2), .int (L0 3)] below meth c dC dI cy a A (qI dC dI cy a A below #[.ref (a 0), .int (L0 1), .int (L0 2), .int (L0 3)] s) 12 (x_add k 23) (fun L => [(0, .ref (a 0)), (1, .int (L 1)), (2, .int (L 2)), (3, .int (L 3)), (4, .int (L 4)), (5, .int (L 5)), (6, .int (L 6)), (7, .int (L 7)), (8, .int (L 8)), (9, .int (L 9))]) 302 (fun L => [])) ∧ (bT p l e (headSpec w_x_add ({ frames := 3, cells := 0, slots := 0, locals := 67 })).room s m #[.ref (a 0), .int (L0 1), .int (L0 2), .int (L0 3)] below meth c dC dI cy a A (qI dC dI cy a A below #[.ref (a 0), .int (L0 1), .int (L0 2), .int (L0 3)] s) 12 (x_add k 24) (fun L => [(0, .ref (a 0)), (1, .int (L 1)), (2, .int (L 2)), (3, .int (L 3)), (4, .int (L 4)), (5, .int (L 5)), (6, .int (L 6)), (7, .int (L 7)), (8, .int (L 8)), (9, .int (L 9))]) 303 (fun L => [.int (L 100)])) ∧ (bT p l e (headSpec w_x_add ({ frames := 3, cells := 0, slots := 0, locals := 67 })).room s m #[.ref (a 0), .int (L0 1), .int (L0 2), .int (L0 3)] below meth c dC dI cy a A (qI dC dI cy a A below #[.ref (a 0), .int (L0 1), .int (L0 2), .int (L0 3)] s) 12 (x_add k 25) (fun L => [(0, .ref (a 0)), (1, .int (L 1)), (2, .int (L 2)), (3, .int (L 3)), (4, .int (L 4)), (5, .int (L 5)), (6, .int (L 6)), (7, .int (L 7)), (8, .int (L 8)), (9, .int (L 9)), (10, .int (L 10))]) 318 (fun L => [])) ∧ (bT p l e (headSpec w_x_add ({ frames := 3, cells := 0, slots := 0, locals := 67 })).room s m #[.ref (a 0), .int (L0 1), .int (L0 2), .int (L0 3)] below meth c dC dI cy a A (qI dC dI cy a A below #[.ref (a 0), .int (L0 1), .int (L0 2), .int (L0 3)] s) 12 (x_add k 26) (fun L => [(0, .ref (a 0)), (1, .int (L 1)), (2, .int (L 2)), (3, .int (L 3)), (4, .int (L 4)), (5, .int (L 5)), (6, .int (L 6)), (7, .int (L 7)), (8, .int (L 8)), (9, .int (L 9)), (10, .int (L 10))]) 323 (fun L => [.int (L 100)])) ∧ (bT p l e (headSpec w_x_add ({ frames := 3, cells := 0, slots := 0, locals := 67 })).room s m #[.ref (a 0), .int (L0 1), .int (L0 2), .int (L0 3)] below meth c dC dI cy a A (qI dC dI cy a A below #[.ref (a 0), .int (L0 1), .int (L0 2), .int (L0 3)] s) 12 (x_add k 27) (fun L => [(0, .ref (a 0)), (1, .int (L 1)), (2, .int (L 2)), (3, .int (L 3)), (4, .int (L 4)), (5, .int (L 5)), (6, .int (L 6)), (7, .int (L 7)), (8, .int (L 8)), (9, .int (L 9)), (10, .int (L 10)), (11, .int (L 11))]) 337 (fun L => [])) ∧ (bT p l e (headSpec w_x_add ({ frames := 3, cells := 0, slots := 0, locals := 67 })).room s m #[.ref (a 0), .int (L0 1), .int (L0 2), .int (L0 3)] below meth c dC dI cy a A (qI dC dI cy a A below #[.ref (a 0), .int (L0 1), .int (L0 2), .int (L0 3)] s) 12 (x_add k 28) (fun L => [(0, .ref (a 0)), (1, .int (L 1)), (2, .int (L 2)), (3, .int (L 3)), (4, .int (L 4)), (5, .int (L 5)), (6, .int (L 6)), (7, .int (L 7)), (8, .int (L 8)), (9, .int (L 9)), (10, .int (L 10)), (11, .int (L 11))]) 338 (fun L => [.int (L 100)])) ∧ (bT p l e (headSpec w_x_add ({ frames := 3, cells := 0, slots := 0, locals := 67 })).room s m #[.ref (a 0), .int (L0 1), .int (L0 2), .int (L0 3)] below meth c dC dI cy a A (qI dC dI cy a A below #[.ref (a 0), .int (L0 1), .int (L0 2), .int (L0 3)] s) 12 (x_add k 29) (fun L => [(0, .ref (a 0)), (1, .int (L 1)), (2, .int (L 2)), (3, .int (L 3)), (4, .int (L 4)), (5, .int (L 5)), (6, .int (L 6)), (7, .int (L 7)), (8, .int (L 8)), (9, .int (L 9)), (10, .int (L 10)), (11, .int (L 11))]) 353 (fun L => [])) ∧ (bT p l e (headSpec w_x_add ({ frames := 3, cells := 0, slots := 0, locals := 67 })).room s m #[.ref (a 0), .int (L0 1), .int (L0 2), .int (L0 3)] below meth c dC dI cy a A (qI dC dI cy a A below #[.ref (a 0), .int (L0 1), .int (L0 2), .int (L0 3)] s) 12 (x_add k 30) (fun L => [(0, .ref (a 0)), (1, .int (L 1)), (2, .int (L 2)), (3, .int (L 3)), (4, .int (L 4)), (5, .int (L 5)), (6, .int (L 6)), (7, .int (L 7)), (8, .int (L 8))]) 359 (fun L => [])) ∧ (bT p l e (headSpec w_x_add ({ frames := 3, cells := 0, slots := 0, locals := 67 })).room s m #[.ref (a 0), .int (L0 1), .int (L0 2), .int (L0 3)] below meth c dC dI cy a A (qI dC dI cy a A below #[.ref (a 0), .int (L0 1), .int (L0 2), .int (L0 3)] s) 12 (x_add k 31) (fun L => [(0, .ref (a 0)), (1, .int (L 1)), (2, .int (L 2)), (3, .int (L 3)), (4, .int (L 4)), (5, .int (L 5)), (6, .int (L 6)), (7, .int (L 7)), (8, .int (L 8))]) 370 (fun L => [.ref (a 0)])) ∧ (bT p l e (headSpec w_x_add ({ frames := 3, cells := 0, slots := 0, locals := 67 })).room s m #[.ref (a 0), .int (L0 1), .int (L0 2), .int (L0 3)] below meth c dC dI cy a A (qI dC dI cy a A below #[.ref (a 0), .int (L0 1), .int (L0 2), .int (L0 3)] s) 12 (x_add k 32) (fun L => [(0, .ref (a 0)), (1, .int (L 1)), (2, .int (L 2)), (3, .int (L 3)), (4, .int (L 4)), (5, .int (L 5)), (6, .int (L 6)), (7, .int (L 7)), (8, .int (L 8))]) 372 (fun L => [.int (L 100), .ref (a 0)])) := by
    intro k
    induction k with
    | zero => exact ⟨fun L σ r h => (by cases h), fun L σ r h => (by cases h), fun L σ r h => (by cases h), fun L σ r h => (by cases h), fun L σ r h => (by cases h), fun L σ r h => (by cases h), fun L σ r h => (by cases h), fun L σ r h => (by cases h), fun L σ r h => (by cases h), fun L σ r h => (by cases h), fun L σ r h => (by cases h), fun L σ r h => (by cases h), fun L σ r h => (by cases h), fun L σ r h => (by cases h), fun L σ r h => (by cases h), fun L σ r h => (by cases h), fun L σ r h => (by cases h), fun L σ r h => (by cases h), fun L σ r h => (by cases h), fun L σ r h => (by cases h), fun L σ r h => (by cases h), fun L σ r h => (by cases h), fun L σ r h => (by cases h), fun L σ r h => (by cases h), fun L σ r h => (by cases h), fun L σ r h => (by cases h), fun L σ r h => (by cases h), fun L σ r h => (by cases h), fun L σ r h => (by cases h), fun L σ r h => (by cases h), fun L σ r h => (by cases h), fun L σ r h => (by cases h), fun L σ r h => (by cases h)⟩
    | succ k ih =>
      refine ⟨?_, ?_, ?_, ?_, ?_, ?_, ?_, ?_, ?_, ?_, ?_, ?_, ?_, ?_, ?_, ?_, ?_, ?_, ?_, ?_, ?_, ?_, ?_, ?_, ?_, ?_, ?_, ?_, ?_, ?_, ?_, ?_, ?_⟩
      · intro L σ r h H locs ls hP hD hS hl
        rw [x_add] at h
        refine lv_aload_n hx hb dX12_add_0 rfl (lv_at hl 0 rfl) ?_
        refine lv_iload_n hx hb dX12_add_1 rfl (lv_at hl 1 rfl) ?_
        obtain ⟨r1, hc1, h⟩ := ob_ex h
        refine nc_Vv (As := [.int (L 1)]) (rest := []) ⟨hx, hb, hml, hown, hts⟩ (c_x_loadA l dC dI cy a k (upd (fun _ => 0) 1 ((L 1))) σ r1 hc1 H.size) (cwV 1 hts g_x_add_loadA_488 rfl rfl rfl hd_x_loadA ⟨Nat.le_of_ble_eq_true rfl, Nat.le_of_ble_eq_true rfl⟩) hK hG hA hP hD hS rfl hl.1 rfl (Nat.le_of_ble_eq_true rfl) dX12_add_2 ⟨Nat.le_refl _, Nat.le_refl _⟩ (fun H locs hP hD hS => ?_)
        refine lv_aload_n hx hb dX12_add_5 rfl (lv_at hl 0 rfl) ?_
        refine lv_iload_n hx hb dX12_add_6 rfl (lv_at hl 2 rfl) ?_
        obtain ⟨r2, hc2, h⟩ := ob_ex h
        refine nc_Vv (As := [.int (L 2)]) (rest := []) ⟨hx, hb, hml, hown, hts⟩ (c_x_loadB l dC dI cy a k (upd (fun _ => 0) 1 ((L 2))) r1.2 r2 hc2 H.size) (cwV 1 hts g_x_add_loadB_491 rfl rfl rfl hd_x_loadB ⟨Nat.le_of_ble_eq_true rfl, Nat.le_of_ble_eq_true rfl⟩) hK hG hA hP hD hS rfl hl.1 rfl (Nat.le_of_ble_eq_true rfl) dX12_add_7 ⟨Nat.le_refl _, Nat.le_refl _⟩ (fun H locs hP hD hS => ?_)
        refine lv_aload_n hx hb dX12_add_10 rfl (lv_at hl 0 rfl) ?_
        refine lv_iload_n hx hb dX12_add_11 rfl (lv_at hl 1 rfl) ?_
        obtain ⟨r3, hc3, h⟩ := ob_ex h
        refine nc_Vi (As := [.int (L 1)]) (rest := []) ⟨hx, hb, hml, hown, hts⟩ (c_x_signOf l dC dI cy a k (upd (fun _ => 0) 1 ((L 1))) r2.2 r3 hc3 H.size) (cwV 1 hts g_x_add_signOf_463 rfl rfl rfl hd_x_signOf ⟨Nat.le_of_ble_eq_true rfl, Nat.le_of_ble_eq_true rfl⟩) hK hG hA hP hD hS rfl hl.1 rfl (Nat.le_of_ble_eq_true rfl) dX12_add_12 ⟨Nat.le_refl _, Nat.le_refl _⟩ (fun H locs hP hD hS => ?_)
        refine lv_istore (lv' := [(4, .int r3.1), (0, .ref (a 0)), (1, .int (L 1)), (2, .int (L 2)), (3, .int (L 3))]) hx hb dX12_add_15 hl (by decide) rfl (fun ls hl => ?_)
        refine lv_aload_n hx hb dX12_add_17 rfl (lv_at hl 1 rfl) ?_
        refine lv_iload_n hx hb dX12_add_18 rfl (lv_at hl 3 rfl) ?_
        obtain ⟨r4, hc4, h⟩ := ob_ex h
        refine nc_Vi (As := [.int (L 2)]) (rest := []) ⟨hx, hb, hml, hown, hts⟩ (c_x_signOf l dC dI cy a k (upd (fun _ => 0) 1 ((L 2))) r3.2 r4 hc4 H.size) (cwV 1 hts g_x_add_signOf_463 rfl rfl rfl hd_x_signOf ⟨Nat.le_of_ble_eq_true rfl, Nat.le_of_ble_eq_true rfl⟩) hK hG hA hP hD hS rfl hl.1 rfl (Nat.le_of_ble_eq_true rfl) dX12_add_19 ⟨Nat.le_refl _, Nat.le_refl _⟩ (fun H locs hP hD hS => ?_)
        refine lv_iload_n hx hb dX12_add_22 rfl (lv_at hl 4 rfl) ?_
        refine lv_imul hx hb dX12_add_23 ?_
        refine lv_istore (lv' := [(5, .int (r4.1 * ((L 3)))), (4, .int r3.1), (0, .ref (a 0)), (1, .int (L 1)), (2, .int (L 2)), (3, .int (L 3))]) hx hb dX12_add_24 hl (by decide) rfl (fun ls hl => ?_)
        refine lv_iload hx hb dX12_add_26 (lv_at hl 1 rfl) ?_
        refine lv_if_eq (tgt := 43) hx hb dX12_add_28 (by decide) (fun c5 => ?_) (fun c5 => ?_)
        · rw [if_pos c5] at h
          exact ih.2.1 (upd (upd L 4 r3.1) 5 ((r4.1 * ((L 3))))) r4.2 r h H locs ls hP hD hS (lv_sub hl [2, 3, 4, 5, 1, 0] rfl)
        · rw [if_neg c5] at h
          refine lv_iload hx hb dX12_add_31 (lv_at hl 0 rfl) ?_
          refine lv_if_eq (tgt := 43) hx hb dX12_add_33 (by decide) (fun c6 => ?_) (fun c6 => ?_)
          · rw [if_pos c6] at h
            exact ih.2.1 (upd (upd L 4 r3.1) 5 ((r4.1 * ((L 3))))) r4.2 r h H locs ls hP hD hS (lv_sub hl [2, 3, 4, 5, 1, 0] rfl)
          · rw [if_neg c6] at h
            refine lv_iload hx hb dX12_add_36 (lv_at hl 1 rfl) ?_
            refine lv_iload hx hb dX12_add_38 (lv_at hl 0 rfl) ?_
            refine lv_icmp_ne (tgt := 199) hx hb dX12_add_40 (by decide) (fun c7 => ?_) (fun c7 => ?_)
            · rw [if_neg c7] at h
              exact ih.2.2.2.2.2.2.2.2.2.2.2.2.2.2.2.2.1 (upd (upd L 4 r3.1) 5 ((r4.1 * ((L 3))))) r4.2 r h H locs ls hP hD hS (lv_sub hl [2, 3, 4, 5, 1, 0] rfl)
            · rw [if_pos c7] at h
              exact ih.2.1 (upd (upd L 4 r3.1) 5 ((r4.1 * ((L 3))))) r4.2 r h H locs ls hP hD hS (lv_sub hl [2, 3, 4, 5, 1, 0] rfl)
      · intro L σ r h H locs ls hP hD hS hl
        rw [x_add] at h
        refine lv_iconst (v := 0) hx hb dX12_add_43 (by decide) ?_
        refine lv_istore (lv' := [(6, .int 0), (0, .ref (a 0)), (1, .int (L 1)), (2, .int (L 2)), (3, .int (L 3)), (4, .int (L 4)), (5, .int (L 5))]) hx hb dX12_add_44 hl (by decide) rfl (fun ls hl => ?_)
        refine lv_aload_n hx hb dX12_add_46 rfl (lv_at hl 1 rfl) ?_
        refine lv_aload_n hx hb dX12_add_47 rfl (lv_at hl 1 rfl) ?_
        refine ng_84 hx hb hts in_x_add hown hK hP (hts _ (List.mem_cons_of_mem _ (List.mem_append_left _ (List.mem_append_left _ (List.mem_of_getElem? (i := 10) rfl))))) dX12_add_48 ?_
        refine lv_aload_n hx hb dX12_add_51 rfl (lv_at hl 1 rfl) ?_
        refine ng_85 hx hb hts in_x_add hown hK hP (hts _ (List.mem_cons_of_mem _ (List.mem_append_left _ (List.mem_append_left _ (List.mem_of_getElem? (i := 11) rfl))))) dX12_add_52 ?_
        refine lv_icmp_le (tgt := 65) hx hb dX12_add_55 (by decide) (fun c1 => ?_) (fun c1 => ?_)
        · rw [if_pos c1] at h
          exact ih.2.2.1 (upd L 6 0) σ r h H locs ls hP hD hS (lv_sub hl [1, 2, 3, 4, 5, 6, 0] rfl)
        · rw [if_neg c1] at h
          refine lv_aload_n hx hb dX12_add_58 rfl (lv_at hl 1 rfl) ?_
          refine ng_84 hx hb hts in_x_add hown hK hP (hts _ (List.mem_cons_of_mem _ (List.mem_append_left _ (List.mem_append_left _ (List.mem_of_getElem? (i := 10) rfl))))) dX12_add_59 ?_
          refine lv_goto (tgt := 69) hx hb dX12_add_62 (by decide) ?_
          exact ih.2.2.2.1 (upd (upd L 6 0) 100 ((σ.1 84))) σ r h H locs ls hP hD hS (lv_sub hl [1, 2, 3, 4, 5, 6, 0] rfl)
      · intro L σ r h H locs ls hP hD hS hl
        rw [x_add] at h
        refine lv_aload_n hx hb dX12_add_65 rfl (lv_at hl 0 rfl) ?_
        refine ng_85 hx hb hts in_x_add hown hK hP (hts _ (List.mem_cons_of_mem _ (List.mem_append_left _ (List.mem_append_left _ (List.mem_of_getElem? (i := 11) rfl))))) dX12_add_66 ?_
        exact ih.2.2.2.1 (upd L 100 ((σ.1 85))) σ r h H locs ls hP hD hS (lv_sub hl [0, 1, 2, 3, 4, 5, 6] rfl)
      · intro L σ r h H locs ls hP hD hS hl
        rw [x_add] at h
        refine np_86 hx hb hts in_x_add hown hK hP hD hS (hts _ (List.mem_cons_of_mem _ (List.mem_append_left _ (List.mem_append_left _ (List.mem_of_getElem? (i := 12) rfl))))) dX12_add_69 (fun H locs hP hD hS => ?_)
        exact ih.2.2.2.2.1 L (upd σ.1 86 ((L 100)), σ.2.1, σ.2.2) r h H locs ls hP hD hS (lv_sub hl [0, 1, 2, 3, 4, 5, 6] rfl)
      · intro L σ r h H locs ls hP hD hS hl
        rw [x_add] at h
        refine lv_iconst (v := 0) hx hb dX12_add_72 (by decide) ?_
        refine lv_istore (lv' := [(7, .int 0), (0, .ref (a 0)), (1, .int (L 1)), (2, .int (L 2)), (3, .int (L 3)), (4, .int (L 4)), (5, .int (L 5)), (6, .int (L 6))]) hx hb dX12_add_73 hl (by decide) rfl (fun ls hl => ?_)
        exact ih.2.2.2.2.2.1 (upd L 7 0) σ r h H locs ls hP hD hS (lv_sub hl [1, 2, 3, 4, 5, 6, 7, 0] rfl)
      · intro L σ r h H locs ls hP hD hS hl
        rw [x_add] at h
        refine lv_iload hx hb dX12_add_75 (lv_at hl 7 rfl) ?_
        refine lv_aload_n hx hb dX12_add_77 rfl (lv_at hl 0 rfl) ?_
        refine ng_86 hx hb hts in_x_add hown hK hP (hts _ (List.mem_cons_of_mem _ (List.mem_append_left _ (List.mem_append_left _ (List.mem_of_getElem? (i := 12) rfl))))) dX12_add_78 ?_
        refine lv_icmp_ge (tgt := 156) hx hb dX12_add_81 (by decide) (fun c1 => ?_) (fun c1 => ?_)
        · rw [if_pos c1] at h
          exact ih.2.2.2.2.2.2.2.2.2.2.2.1 L σ r h H locs ls hP hD hS (lv_sub hl [0, 1, 2, 3, 4, 5, 6, 7] rfl)
        · rw [if_neg c1] at h
          refine lv_iload hx hb dX12_add_84 (lv_at hl 6 rfl) ?_
          refine lv_iload hx hb dX12_add_86 (lv_at hl 7 rfl) ?_
          refine lv_aload_n hx hb dX12_add_88 rfl (lv_at hl 0 rfl) ?_
          refine ng_84 hx hb hts in_x_add hown hK hP (hts _ (List.mem_cons_of_mem _ (List.mem_append_left _ (List.mem_append_left _ (List.mem_of_getElem? (i := 10) rfl))))) dX12_add_89 ?_
          refine lv_icmp_ge (tgt := 105) hx hb dX12_add_92 (by decide) (fun c2 => ?_) (fun c2 => ?_)
          · rw [if_pos c2] at h
            exact ih.2.2.2.2.2.2.1 (upd L 100 ((L 6))) σ r h H locs ls hP hD hS (lv_sub hl [0, 1, 2, 3, 4, 5, 6, 7] rfl)
          · rw [if_neg c2] at h
            refine lv_aload_n hx hb dX12_add_95 rfl (lv_at hl 0 rfl) ?_
            refine ng_81 hx hb hts in_x_add hown hK hP (hts _ (List.mem_cons_of_mem _ (List.mem_append_left _ (List.mem_append_left _ (List.mem_of_getElem? (i := 13) rfl))))) dX12_add_96 ?_
            refine lv_iload hx hb dX12_add_99 (lv_at hl 7 rfl) ?_
            obtain ⟨q3, h⟩ := nb_ite1 h
            refine nl_42 hx hb hK hP q3 dX12_add_101 ?_
            refine lv_goto (tgt := 106) hx hb dX12_add_102 (by decide) ?_
            exact ih.2.2.2.2.2.2.2.1 (upd (upd L 100 ((σ.2.2 42 ((L 7)).toNatClampNeg))) 101 ((L 6))) σ r h H locs ls hP hD hS (lv_sub hl [0, 1, 2, 3, 4, 5, 6, 7] rfl)
      · intro L σ r h H locs ls hP hD hS hl
        rw [x_add] at h
        refine lv_iconst (v := 0) hx hb dX12_add_105 (by decide) ?_
        exact ih.2.2.2.2.2.2.2.1 (upd (upd L 100 0) 101 ((L 100))) σ r h H locs ls hP hD hS (lv_sub hl [0, 1, 2, 3, 4, 5, 6, 7] rfl)
      · intro L σ r h H locs ls hP hD hS hl
        rw [x_add] at h
        refine lv_iload hx hb dX12_add_106 (lv_at hl 7 rfl) ?_
        refine lv_aload_n hx hb dX12_add_108 rfl (lv_at hl 0 rfl) ?_
        refine ng_85 hx hb hts in_x_add hown hK hP (hts _ (List.mem_cons_of_mem _ (List.mem_append_left _ (List.mem_append_left _ (List.mem_of_getElem? (i := 11) rfl))))) dX12_add_109 ?_
        refine lv_icmp_ge (tgt := 125) hx hb dX12_add_112 (by decide) (fun c1 => ?_) (fun c1 => ?_)
        · rw [if_pos c1] at h
          exact ih.2.2.2.2.2.2.2.2.1 (upd (upd L 100 ((L 100))) 101 ((L 101))) σ r h H locs ls hP hD hS (lv_sub hl [0, 1, 2, 3, 4, 5, 6, 7] rfl)
        · rw [if_neg c1] at h
          refine lv_aload_n hx hb dX12_add_115 rfl (lv_at hl 0 rfl) ?_
          refine ng_82 hx hb hts in_x_add hown hK hP (hts _ (List.mem_cons_of_mem _ (List.mem_append_left _ (List.mem_append_left _ (List.mem_of_getElem? (i := 14) rfl))))) dX12_add_116 ?_
          refine lv_iload hx hb dX12_add_119 (lv_at hl 7 rfl) ?_
          obtain ⟨q2, h⟩ := nb_ite1 h
          refine nl_43 hx hb hK hP q2 dX12_add_121 ?_
          refine lv_goto (tgt := 126) hx hb dX12_add_122 (by decide) ?_
          exact ih.2.2.2.2.2.2.2.2.2.1 (upd (upd (upd L 100 ((σ.2.2 43 ((L 7)).toNatClampNeg))) 101 ((L 100))) 102 ((L 101))) σ r h H locs ls hP hD hS (lv_sub hl [0, 1, 2, 3, 4, 5, 6, 7] rfl)
      · intro L σ r h H locs ls hP hD hS hl
        rw [x_add] at h
        refine lv_iconst (v := 0) hx hb dX12_add_125 (by decide) ?_
        exact ih.2.2.2.2.2.2.2.2.2.1 (upd (upd (upd L 100 0) 101 ((L 100))) 102 ((L 101))) σ r h H locs ls hP hD hS (lv_sub hl [0, 1, 2, 3, 4, 5, 6, 7] rfl)
      · intro L σ r h H locs ls hP hD hS hl
        rw [x_add] at h
        refine lv_iadd hx hb dX12_add_126 ?_
        refine lv_iadd hx hb dX12_add_127 ?_
        refine lv_istore (lv' := [(6, .int (((L 102)) + ((((L 101)) + ((L 100)))))), (0, .ref (a 0)), (1, .int (L 1)), (2, .int (L 2)), (3, .int (L 3)), (4, .int (L 4)), (5, .int (L 5)), (7, .int (L 7))]) hx hb dX12_add_128 hl (by decide) rfl (fun ls hl => ?_)
        refine lv_aload_n hx hb dX12_add_130 rfl (lv_at hl 1 rfl) ?_
        refine ng_83 hx hb hts in_x_add hown hK hP (hts _ (List.mem_cons_of_mem _ (List.mem_append_left _ (List.mem_append_left _ (List.mem_of_getElem? (i := 15) rfl))))) dX12_add_131 ?_
        refine lv_iload hx hb dX12_add_134 (lv_at hl 7 rfl) ?_
        refine lv_iload hx hb dX12_add_136 (lv_at hl 0 rfl) ?_
        refine lv_ldcw (v := 65535) hx hb hown (hts _ (List.mem_cons_of_mem _ (List.mem_append_left _ (List.mem_append_left _ (List.mem_of_getElem? (i := 16) rfl))))) dX12_add_138 ?_
        refine lv_iand hx hb dX12_add_141 ?_
        obtain ⟨q1, h⟩ := nb_ite1 h
        refine ns_44 hx hb hK hP hD hS q1 dX12_add_142 (fun H locs hP hD hS => ?_)
        exact ih.2.2.2.2.2.2.2.2.2.2.1 (upd L 6 ((((L 102)) + ((((L 101)) + ((L 100))))))) (σ.1, σ.2.1, updG σ.2.2 44 (upd (σ.2.2 44) ((L 7)).toNatClampNeg ((((((L 102)) + ((((L 101)) + ((L 100)))))) &&& 65535)))) r h H locs ls hP hD hS (lv_sub hl [1, 2, 3, 4, 5, 6, 0, 7] rfl)
      · intro L σ r h H locs ls hP hD hS hl
        rw [x_add] at h
        refine lv_iload hx hb dX12_add_143 (lv_at hl 6 rfl) ?_
        refine lv_bipush (v := 16) hx hb dX12_add_145 (by decide) ?_
        refine lv_ishr hx hb dX12_add_147 ?_
        refine lv_istore (lv' := [(6, .int (((L 6)) >>> ((16 : Int32) &&& 31))), (0, .ref (a 0)), (1, .int (L 1)), (2, .int (L 2)), (3, .int (L 3)), (4, .int (L 4)), (5, .int (L 5)), (7, .int (L 7))]) hx hb dX12_add_148 hl (by decide) rfl (fun ls hl => ?_)
        refine lv_iinc (v := ((L 7)) + 1) (lv' := [(7, .int (((L 7)) + 1)), (6, .int (((L 6)) >>> ((16 : Int32) &&& 31))), (0, .ref (a 0)), (1, .int (L 1)), (2, .int (L 2)), (3, .int (L 3)), (4, .int (L 4)), (5, .int (L 5))]) hx hb dX12_add_150 hl (k := 7) rfl rfl (by decide) rfl (fun ls hl => ?_)
        refine lv_goto (tgt := 75) hx hb dX12_add_153 (by decide) ?_
        exact ih.2.2.2.2.2.1 (upd (upd L 6 ((((L 6)) >>> ((16 : Int32) &&& 31)))) 7 (((L 7)) + 1)) σ r h H locs ls hP hD hS (lv_sub hl [2, 3, 4, 5, 6, 7, 1, 0] rfl)
      · intro L σ r h H locs ls hP hD hS hl
        rw [x_add] at h
        refine lv_iload hx hb dX12_add_156 (lv_at hl 6 rfl) ?_
        refine lv_if_le (tgt := 182) hx hb dX12_add_158 (by decide) (fun c1 => ?_) (fun c1 => ?_)
        · rw [if_pos c1] at h
          exact ih.2.2.2.2.2.2.2.2.2.2.2.2.2.1 L σ r h H locs ls hP hD hS (lv_sub hl [0, 1, 2, 3, 4, 5, 6, 7] rfl)
        · rw [if_neg c1] at h
          refine lv_aload_n hx hb dX12_add_161 rfl (lv_at hl 0 rfl) ?_
          refine ng_83 hx hb hts in_x_add hown hK hP (hts _ (List.mem_cons_of_mem _ (List.mem_append_left _ (List.mem_append_left _ (List.mem_of_getElem? (i := 15) rfl))))) dX12_add_162 ?_
          refine lv_aload_n hx hb dX12_add_165 rfl (lv_at hl 0 rfl) ?_
          refine ng_86 hx hb hts in_x_add hown hK hP (hts _ (List.mem_cons_of_mem _ (List.mem_append_left _ (List.mem_append_left _ (List.mem_of_getElem? (i := 12) rfl))))) dX12_add_166 ?_
          refine lv_iload hx hb dX12_add_169 (lv_at hl 6 rfl) ?_
          obtain ⟨q2, h⟩ := nb_ite1 h
          refine ns_44 hx hb hK hP hD hS q2 dX12_add_171 (fun H locs hP hD hS => ?_)
          exact ih.2.2.2.2.2.2.2.2.2.2.2.2.1 L (σ.1, σ.2.1, updG σ.2.2 44 (upd (σ.2.2 44) ((σ.1 86)).toNatClampNeg ((L 6)))) r h H locs ls hP hD hS (lv_sub hl [0, 1, 2, 3, 4, 5, 6, 7] rfl)
      · intro L σ r h H locs ls hP hD hS hl
        rw [x_add] at h
        refine lv_aload_n hx hb dX12_add_172 rfl (lv_at hl 0 rfl) ?_
        refine lv_dup hx hb dX12_add_173 rfl ?_
        refine ng_86 hx hb hts in_x_add hown hK hP (hts _ (List.mem_cons_of_mem _ (List.mem_append_left _ (List.mem_append_left _ (List.mem_of_getElem? (i := 12) rfl))))) dX12_add_174 ?_
        refine lv_iconst (v := 1) hx hb dX12_add_177 (by decide) ?_
        refine lv_iadd hx hb dX12_add_178 ?_
        refine np_86 hx hb hts in_x_add hown hK hP hD hS (hts _ (List.mem_cons_of_mem _ (List.mem_append_left _ (List.mem_append_left _ (List.mem_of_getElem? (i := 12) rfl))))) dX12_add_179 (fun H locs hP hD hS => ?_)
        exact ih.2.2.2.2.2.2.2.2.2.2.2.2.2.1 L (upd σ.1 86 ((((σ.1 86)) + 1)), σ.2.1, σ.2.2) r h H locs ls hP hD hS (lv_sub hl [0, 1, 2, 3, 4, 5, 6, 7] rfl)
      · intro L σ r h H locs ls hP hD hS hl
        rw [x_add] at h
        refine lv_aload_n hx hb dX12_add_182 rfl (lv_at hl 0 rfl) ?_
        refine lv_iload hx hb dX12_add_183 (lv_at hl 4 rfl) ?_
        refine lv_if_ne (tgt := 193) hx hb dX12_add_185 (by decide) (fun c1 => ?_) (fun c1 => ?_)
        · rw [if_neg c1] at h
          exact ih.2.2.2.2.2.2.2.2.2.2.2.2.2.2.1 L σ r h H locs ls hP hD hS (lv_sub hl [0, 1, 2, 3, 4, 5, 6, 7] rfl)
        · rw [if_pos c1] at h
          refine lv_iload hx hb dX12_add_188 (lv_at hl 5 rfl) ?_
          refine lv_goto (tgt := 195) hx hb dX12_add_190 (by decide) ?_
          exact ih.2.2.2.2.2.2.2.2.2.2.2.2.2.2.2.1 (upd L 100 ((L 5))) σ r h H locs ls hP hD hS (lv_sub hl [0, 1, 2, 3, 4, 5, 6, 7] rfl)
      · intro L σ r h H locs ls hP hD hS hl
        rw [x_add] at h
        refine lv_iload hx hb dX12_add_193 (lv_at hl 4 rfl) ?_
        exact ih.2.2.2.2.2.2.2.2.2.2.2.2.2.2.2.1 (upd L 100 ((L 4))) σ r h H locs ls hP hD hS (lv_sub hl [0, 1, 2, 3, 4, 5, 6, 7] rfl)
      · intro L σ r h H locs ls hP hD hS hl
        rw [x_add] at h
        obtain ⟨r1, hc1, h⟩ := ob_ex h
        refine nc_Vi (As := [.int (L 100)]) (rest := []) ⟨hx, hb, hml, hown, hts⟩ (c_x_wholeOf l dC dI cy a k (upd (fun _ => 0) 1 ((L 100))) σ r1 hc1 H.size) (cwV 1 hts g_x_add_wholeOf_485 rfl rfl rfl hd_x_wholeOf ⟨Nat.le_of_ble_eq_true rfl, Nat.le_of_ble_eq_true rfl⟩) hK hG hA hP hD hS rfl hl.1 rfl (Nat.le_of_ble_eq_true rfl) dX12_add_195 ⟨Nat.le_refl _, Nat.le_refl _⟩ (fun H locs hP hD hS => ?_)
        cases h
        exact W.iret (v := r1.1) hx hb hr (fun t ht hW => ⟨⟨r1.1, (), rfl, rfl, by rw [ht]; exact hP, va_K.moved hW.alike hK, hD⟩, hS.F ht⟩) hS.2.2 dX12_add_198
      · intro L σ r h H locs ls hP hD hS hl
        rw [x_add] at h
        refine lv_aload_n hx hb dX12_add_199 rfl (lv_at hl 0 rfl) ?_
        refine ng_81 hx hb hts in_x_add hown hK hP (hts _ (List.mem_cons_of_mem _ (List.mem_append_left _ (List.mem_append_left _ (List.mem_of_getElem? (i := 13) rfl))))) dX12_add_200 ?_
        refine lv_aload_n hx hb dX12_add_203 rfl (lv_at hl 0 rfl) ?_
        refine ng_84 hx hb hts in_x_add hown hK hP (hts _ (List.mem_cons_of_mem _ (List.mem_append_left _ (List.mem_append_left _ (List.mem_of_getElem? (i := 10) rfl))))) dX12_add_204 ?_
        refine lv_aload_n hx hb dX12_add_207 rfl (lv_at hl 0 rfl) ?_
        refine ng_82 hx hb hts in_x_add hown hK hP (hts _ (List.mem_cons_of_mem _ (List.mem_append_left _ (List.mem_append_left _ (List.mem_of_getElem? (i := 14) rfl))))) dX12_add_208 ?_
        refine lv_aload_n hx hb dX12_add_211 rfl (lv_at hl 0 rfl) ?_
        refine ng_85 hx hb hts in_x_add hown hK hP (hts _ (List.mem_cons_of_mem _ (List.mem_append_left _ (List.mem_append_left _ (List.mem_of_getElem? (i := 11) rfl))))) dX12_add_212 ?_
        obtain ⟨r1, hc1, h⟩ := ob_ex h
        refine nc_Si (As := [.ref (a 42), .int (σ.1 84), .ref (a 43), .int (σ.1 85)]) (rest := []) ⟨hx, hb, hml, hown, hts⟩ (c_x_compareRows__42__43 l dC dI cy a k (upd (upd (fun _ => 0) 1 ((σ.1 84))) 3 ((σ.1 85))) σ r1 hc1 H.size) (va_cwS 4 hts g_x_add_compareRows__42__43_494 rfl rfl rfl hd_x_compareRows__42__43 ⟨Nat.le_of_ble_eq_true rfl, Nat.le_of_ble_eq_true rfl⟩) hK hG hA hP hD hS rfl hl.1 rfl (Nat.le_of_ble_eq_true rfl) dX12_add_215 ⟨Nat.le_refl _, Nat.le_refl _⟩ (fun H locs hP hD hS => ?_)
        refine lv_istore (lv' := [(6, .int r1.1), (0, .ref (a 0)), (1, .int (L 1)), (2, .int (L 2)), (3, .int (L 3)), (4, .int (L 4)), (5, .int (L 5))]) hx hb dX12_add_218 hl (by decide) rfl (fun ls hl => ?_)
        refine lv_aload_n hx hb dX12_add_220 rfl (lv_at hl 1 rfl) ?_
        refine lv_aload_n hx hb dX12_add_221 rfl (lv_at hl 1 rfl) ?_
        refine ng_84 hx hb hts in_x_add hown hK hP (hts _ (List.mem_cons_of_mem _ (List.mem_append_left _ (List.mem_append_left _ (List.mem_of_getElem? (i := 10) rfl))))) dX12_add_222 ?_
        refine lv_aload_n hx hb dX12_add_225 rfl (lv_at hl 1 rfl) ?_
        refine ng_85 hx hb hts in_x_add hown hK hP (hts _ (List.mem_cons_of_mem _ (List.mem_append_left _ (List.mem_append_left _ (List.mem_of_getElem? (i := 11) rfl))))) dX12_add_226 ?_
        refine lv_icmp_le (tgt := 239) hx hb dX12_add_229 (by decide) (fun c2 => ?_) (fun c2 => ?_)
        · rw [if_pos c2] at h
          exact ih.2.2.2.2.2.2.2.2.2.2.2.2.2.2.2.2.2.1 (upd L 6 r1.1) r1.2 r h H locs ls hP hD hS (lv_sub hl [1, 2, 3, 4, 5, 6, 0] rfl)
        · rw [if_neg c2] at h
          refine lv_aload_n hx hb dX12_add_232 rfl (lv_at hl 1 rfl) ?_
          refine ng_84 hx hb hts in_x_add hown hK hP (hts _ (List.mem_cons_of_mem _ (List.mem_append_left _ (List.mem_append_left _ (List.mem_of_getElem? (i := 10) rfl))))) dX12_add_233 ?_
          refine lv_goto (tgt := 243) hx hb dX12_add_236 (by decide) ?_
          exact ih.2.2.2.2.2.2.2.2.2.2.2.2.2.2.2.2.2.2.1 (upd (upd L 6 r1.1) 100 ((r1.2.1 84))) r1.2 r h H locs ls hP hD hS (lv_sub hl [1, 2, 3, 4, 5, 6, 0] rfl)
      · intro L σ r h H locs ls hP hD hS hl
        rw [x_add] at h
        refine lv_aload_n hx hb dX12_add_239 rfl (lv_at hl 0 rfl) ?_
        refine ng_85 hx hb hts in_x_add hown hK hP (hts _ (List.mem_cons_of_mem _ (List.mem_append_left _ (List.mem_append_left _ (List.mem_of_getElem? (i := 11) rfl))))) dX12_add_240 ?_
        exact ih.2.2.2.2.2.2.2.2.2.2.2.2.2.2.2.2.2.2.1 (upd L 100 ((σ.1 85))) σ r h H locs ls hP hD hS (lv_sub hl [0, 1, 2, 3, 4, 5, 6] rfl)
      · intro L σ r h H locs ls hP hD hS hl
        rw [x_add] at h
        refine np_86 hx hb hts in_x_add hown hK hP hD hS (hts _ (List.mem_cons_of_mem _ (List.mem_append_left _ (List.mem_append_left _ (List.mem_of_getElem? (i := 12) rfl))))) dX12_add_243 (fun H locs hP hD hS => ?_)
        exact ih.2.2.2.2.2.2.2.2.2.2.2.2.2.2.2.2.2.2.2.1 L (upd σ.1 86 ((L 100)), σ.2.1, σ.2.2) r h H locs ls hP hD hS (lv_sub hl [0, 1, 2, 3, 4, 5, 6] rfl)
      · intro L σ r h H locs ls hP hD hS hl
        rw [x_add] at h
        refine lv_iconst (v := 0) hx hb dX12_add_246 (by decide) ?_
        refine lv_istore (lv' := [(7, .int 0), (0, .ref (a 0)), (1, .int (L 1)), (2, .int (L 2)), (3, .int (L 3)), (4, .int (L 4)), (5, .int (L 5)), (6, .int (L 6))]) hx hb dX12_add_247 hl (by decide) rfl (fun ls hl => ?_)
        refine lv_iconst (v := 0) hx hb dX12_add_249 (by decide) ?_
        refine lv_istore (lv' := [(8, .int 0), (7, .int 0), (0, .ref (a 0)), (1, .int (L 1)), (2, .int (L 2)), (3, .int (L 3)), (4, .int (L 4)), (5, .int (L 5)), (6, .int (L 6))]) hx hb dX12_add_250 hl (by decide) rfl (fun ls hl => ?_)
        exact ih.2.2.2.2.2.2.2.2.2.2.2.2.2.2.2.2.2.2.2.2.1 (upd (upd L 7 0) 8 0) σ r h H locs ls hP hD hS (lv_sub hl [2, 3, 4, 5, 6, 7, 8, 1, 0] rfl)
      · intro L σ r h H locs ls hP hD hS hl
        rw [x_add] at h
        refine lv_iload hx hb dX12_add_252 (lv_at hl 8 rfl) ?_
        refine lv_aload_n hx hb dX12_add_254 rfl (lv_at hl 0 rfl) ?_
        refine ng_86 hx hb hts in_x_add hown hK hP (hts _ (List.mem_cons_of_mem _ (List.mem_append_left _ (List.mem_append_left _ (List.mem_of_getElem? (i := 12) rfl))))) dX12_add_255 ?_
        refine lv_icmp_ge (tgt := 359) hx hb dX12_add_258 (by decide) (fun c1 => ?_) (fun c1 => ?_)
        · rw [if_pos c1] at h
          exact ih.2.2.2.2.2.2.2.2.2.2.2.2.2.2.2.2.2.2.2.2.2.2.2.2.2.2.2.2.2.2.1 L σ r h H locs ls hP hD hS (lv_sub hl [0, 1, 2, 3, 4, 5, 6, 7, 8] rfl)
        · rw [if_neg c1] at h
          refine lv_iload hx hb dX12_add_261 (lv_at hl 8 rfl) ?_
          refine lv_aload_n hx hb dX12_add_263 rfl (lv_at hl 0 rfl) ?_
          refine ng_84 hx hb hts in_x_add hown hK hP (hts _ (List.mem_cons_of_mem _ (List.mem_append_left _ (List.mem_append_left _ (List.mem_of_getElem? (i := 10) rfl))))) dX12_add_264 ?_
          refine lv_icmp_ge (tgt := 280) hx hb dX12_add_267 (by decide) (fun c2 => ?_) (fun c2 => ?_)
          · rw [if_pos c2] at h
            exact ih.2.2.2.2.2.2.2.2.2.2.2.2.2.2.2.2.2.2.2.2.2.1 L σ r h H locs ls hP hD hS (lv_sub hl [0, 1, 2, 3, 4, 5, 6, 7, 8] rfl)
          · rw [if_neg c2] at h
            refine lv_aload_n hx hb dX12_add_270 rfl (lv_at hl 0 rfl) ?_
            refine ng_81 hx hb hts in_x_add hown hK hP (hts _ (List.mem_cons_of_mem _ (List.mem_append_left _ (List.mem_append_left _ (List.mem_of_getElem? (i := 13) rfl))))) dX12_add_271 ?_
            refine lv_iload hx hb dX12_add_274 (lv_at hl 8 rfl) ?_
            obtain ⟨q3, h⟩ := nb_ite1 h
            refine nl_42 hx hb hK hP q3 dX12_add_276 ?_
            refine lv_goto (tgt := 281) hx hb dX12_add_277 (by decide) ?_
            exact ih.2.2.2.2.2.2.2.2.2.2.2.2.2.2.2.2.2.2.2.2.2.2.1 (upd L 100 ((σ.2.2 42 ((L 8)).toNatClampNeg))) σ r h H locs ls hP hD hS (lv_sub hl [0, 1, 2, 3, 4, 5, 6, 7, 8] rfl)
      · intro L σ r h H locs ls hP hD hS hl
        rw [x_add] at h
        refine lv_iconst (v := 0) hx hb dX12_add_280 (by decide) ?_
        exact ih.2.2.2.2.2.2.2.2.2.2.2.2.2.2.2.2.2.2.2.2.2.2.1 (upd L 100 0) σ r h H locs ls hP hD hS (lv_sub hl [0, 1, 2, 3, 4, 5, 6, 7, 8] rfl)
      · intro L σ r h H locs ls hP hD hS hl
        rw [x_add] at h
        refine lv_istore (lv' := [(9, .int (L 100)), (0, .ref (a 0)), (1, .int (L 1)), (2, .int (L 2)), (3, .int (L 3)), (4, .int (L 4)), (5, .int (L 5)), (6, .int (L 6)), (7, .int (L 7)), (8, .int (L 8))]) hx hb dX12_add_281 hl (by decide) rfl (fun ls hl => ?_)
        refine lv_iload hx hb dX12_add_283 (lv_at hl 9 rfl) ?_
        refine lv_aload_n hx hb dX12_add_285 rfl (lv_at hl 1 rfl) ?_
        refine ng_85 hx hb hts in_x_add hown hK hP (hts _ (List.mem_cons_of_mem _ (List.mem_append_left _ (List.mem_append_left _ (List.mem_of_getElem? (i := 11) rfl))))) dX12_add_286 ?_
        refine lv_icmp_ge (tgt := 302) hx hb dX12_add_289 (by decide) (fun c1 => ?_) (fun c1 => ?_)
        · rw [if_pos c1] at h
          exact ih.2.2.2.2.2.2.2.2.2.2.2.2.2.2.2.2.2.2.2.2.2.2.2.1 (upd L 9 ((L 100))) σ r h H locs ls hP hD hS (lv_sub hl [1, 2, 3, 4, 5, 6, 7, 8, 9, 0] rfl)
        · rw [if_neg c1] at h
          refine lv_aload_n hx hb dX12_add_292 rfl (lv_at hl 1 rfl) ?_
          refine ng_82 hx hb hts in_x_add hown hK hP (hts _ (List.mem_cons_of_mem _ (List.mem_append_left _ (List.mem_append_left _ (List.mem_of_getElem? (i := 14) rfl))))) dX12_add_293 ?_
          refine lv_iload hx hb dX12_add_296 (lv_at hl 9 rfl) ?_
          obtain ⟨q2, h⟩ := nb_ite1 h
          refine nl_43 hx hb hK hP q2 dX12_add_298 ?_
          refine lv_goto (tgt := 303) hx hb dX12_add_299 (by decide) ?_
          exact ih.2.2.2.2.2.2.2.2.2.2.2.2.2.2.2.2.2.2.2.2.2.2.2.2.1 (upd (upd L 9 ((L 100))) 100 ((σ.2.2 43 ((L 8)).toNatClampNeg))) σ r h H locs ls hP hD hS (lv_sub hl [1, 2, 3, 4, 5, 6, 7, 8, 9, 0] rfl)
      · intro L σ r h H locs ls hP hD hS hl
        rw [x_add] at h
        refine lv_iconst (v := 0) hx hb dX12_add_302 (by decide) ?_
        exact ih.2.2.2.2.2.2.2.2.2.2.2.2.2.2.2.2.2.2.2.2.2.2.2.2.1 (upd L 100 0) σ r h H locs ls hP hD hS (lv_sub hl [0, 1, 2, 3, 4, 5, 6, 7, 8, 9] rfl)
      · intro L σ r h H locs ls hP hD hS hl
        rw [x_add] at h
        refine lv_istore (lv' := [(10, .int (L 100)), (0, .ref (a 0)), (1, .int (L 1)), (2, .int (L 2)), (3, .int (L 3)), (4, .int (L 4)), (5, .int (L 5)), (6, .int (L 6)), (7, .int (L 7)), (8, .int (L 8)), (9, .int (L 9))]) hx hb dX12_add_303 hl (by decide) rfl (fun ls hl => ?_)
        refine lv_iload hx hb dX12_add_305 (lv_at hl 7 rfl) ?_
        refine lv_if_lt (tgt := 318) hx hb dX12_add_307 (by decide) (fun c1 => ?_) (fun c1 => ?_)
        · rw [if_pos c1] at h
          exact ih.2.2.2.2.2.2.2.2.2.2.2.2.2.2.2.2.2.2.2.2.2.2.2.2.2.1 (upd L 10 ((L 100))) σ r h H locs ls hP hD hS (lv_sub hl [1, 2, 3, 4, 5, 6, 7, 8, 9, 10, 0] rfl)
        · rw [if_neg c1] at h
          refine lv_iload hx hb dX12_add_310 (lv_at hl 10 rfl) ?_
          refine lv_iload hx hb dX12_add_312 (lv_at hl 0 rfl) ?_
          refine lv_isub hx hb dX12_add_314 ?_
          refine lv_goto (tgt := 323) hx hb dX12_add_315 (by decide) ?_
          exact ih.2.2.2.2.2.2.2.2.2.2.2.2.2.2.2.2.2.2.2.2.2.2.2.2.2.2.1 (upd (upd L 10 ((L 100))) 100 ((((L 9)) - ((L 100))))) σ r h H locs ls hP hD hS (lv_sub hl [1, 2, 3, 4, 5, 6, 7, 8, 9, 10, 0] rfl)
      · intro L σ r h H locs ls hP hD hS hl
        rw [x_add] at h
        refine lv_iload hx hb dX12_add_318 (lv_at hl 10 rfl) ?_
        refine lv_iload hx hb dX12_add_320 (lv_at hl 9 rfl) ?_
        refine lv_isub hx hb dX12_add_322 ?_
        exact ih.2.2.2.2.2.2.2.2.2.2.2.2.2.2.2.2.2.2.2.2.2.2.2.2.2.2.1 (upd L 100 ((((L 10)) - ((L 9))))) σ r h H locs ls hP hD hS (lv_sub hl [0, 1, 2, 3, 4, 5, 6, 7, 8, 9, 10] rfl)
      · intro L σ r h H locs ls hP hD hS hl
        rw [x_add] at h
        refine lv_iload hx hb dX12_add_323 (lv_at hl 7 rfl) ?_
        refine lv_isub hx hb dX12_add_325 ?_
        refine lv_istore (lv' := [(11, .int (((L 100)) - ((L 7)))), (0, .ref (a 0)), (1, .int (L 1)), (2, .int (L 2)), (3, .int (L 3)), (4, .int (L 4)), (5, .int (L 5)), (6, .int (L 6)), (7, .int (L 7)), (8, .int (L 8)), (9, .int (L 9)), (10, .int (L 10))]) hx hb dX12_add_326 hl (by decide) rfl (fun ls hl => ?_)
        refine lv_iload hx hb dX12_add_328 (lv_at hl 0 rfl) ?_
        refine lv_if_ge (tgt := 337) hx hb dX12_add_330 (by decide) (fun c1 => ?_) (fun c1 => ?_)
        · rw [if_pos c1] at h
          exact ih.2.2.2.2.2.2.2.2.2.2.2.2.2.2.2.2.2.2.2.2.2.2.2.2.2.2.2.1 (upd L 11 ((((L 100)) - ((L 7))))) σ r h H locs ls hP hD hS (lv_sub hl [1, 2, 3, 4, 5, 6, 7, 8, 9, 10, 11, 0] rfl)
        · rw [if_neg c1] at h
          refine lv_iconst (v := 1) hx hb dX12_add_333 (by decide) ?_
          refine lv_goto (tgt := 338) hx hb dX12_add_334 (by decide) ?_
          exact ih.2.2.2.2.2.2.2.2.2.2.2.2.2.2.2.2.2.2.2.2.2.2.2.2.2.2.2.2.1 (upd (upd L 11 ((((L 100)) - ((L 7))))) 100 1) σ r h H locs ls hP hD hS (lv_sub hl [1, 2, 3, 4, 5, 6, 7, 8, 9, 10, 11, 0] rfl)
      · intro L σ r h H locs ls hP hD hS hl
        rw [x_add] at h
        refine lv_iconst (v := 0) hx hb dX12_add_337 (by decide) ?_
        exact ih.2.2.2.2.2.2.2.2.2.2.2.2.2.2.2.2.2.2.2.2.2.2.2.2.2.2.2.2.1 (upd L 100 0) σ r h H locs ls hP hD hS (lv_sub hl [0, 1, 2, 3, 4, 5, 6, 7, 8, 9, 10, 11] rfl)
      · intro L σ r h H locs ls hP hD hS hl
        rw [x_add] at h
        refine lv_istore (lv' := [(7, .int (L 100)), (0, .ref (a 0)), (1, .int (L 1)), (2, .int (L 2)), (3, .int (L 3)), (4, .int (L 4)), (5, .int (L 5)), (6, .int (L 6)), (8, .int (L 8)), (9, .int (L 9)), (10, .int (L 10)), (11, .int (L 11))]) hx hb dX12_add_338 hl (by decide) rfl (fun ls hl => ?_)
        refine lv_aload_n hx hb dX12_add_340 rfl (lv_at hl 1 rfl) ?_
        refine ng_83 hx hb hts in_x_add hown hK hP (hts _ (List.mem_cons_of_mem _ (List.mem_append_left _ (List.mem_append_left _ (List.mem_of_getElem? (i := 15) rfl))))) dX12_add_341 ?_
        refine lv_iload hx hb dX12_add_344 (lv_at hl 8 rfl) ?_
        refine lv_iload hx hb dX12_add_346 (lv_at hl 11 rfl) ?_
        refine lv_ldcw (v := 65535) hx hb hown (hts _ (List.mem_cons_of_mem _ (List.mem_append_left _ (List.mem_append_left _ (List.mem_of_getElem? (i := 16) rfl))))) dX12_add_348 ?_
        refine lv_iand hx hb dX12_add_351 ?_
        obtain ⟨q1, h⟩ := nb_ite1 h
        refine ns_44 hx hb hK hP hD hS q1 dX12_add_352 (fun H locs hP hD hS => ?_)
        exact ih.2.2.2.2.2.2.2.2.2.2.2.2.2.2.2.2.2.2.2.2.2.2.2.2.2.2.2.2.2.1 (upd L 7 ((L 100))) (σ.1, σ.2.1, updG σ.2.2 44 (upd (σ.2.2 44) ((L 8)).toNatClampNeg ((((L 11)) &&& 65535)))) r h H locs ls hP hD hS (lv_sub hl [1, 2, 3, 4, 5, 6, 7, 0, 8, 9, 10, 11] rfl)
      · intro L σ r h H locs ls hP hD hS hl
        rw [x_add] at h
        refine lv_iinc (v := ((L 8)) + 1) (lv' := [(8, .int (((L 8)) + 1)), (0, .ref (a 0)), (1, .int (L 1)), (2, .int (L 2)), (3, .int (L 3)), (4, .int (L 4)), (5, .int (L 5)), (6, .int (L 6)), (7, .int (L 7)), (9, .int (L 9)), (10, .int (L 10)), (11, .int (L 11))]) hx hb dX12_add_353 hl (k := 8) rfl rfl (by decide) rfl (fun ls hl => ?_)
        refine lv_goto (tgt := 252) hx hb dX12_add_356 (by decide) ?_
        exact ih.2.2.2.2.2.2.2.2.2.2.2.2.2.2.2.2.2.2.2.2.1 (upd L 8 (((L 8)) + 1)) σ r h H locs ls hP hD hS (lv_sub hl [1, 2, 3, 4, 5, 6, 7, 8, 0] rfl)
      · intro L σ r h H locs ls hP hD hS hl
        rw [x_add] at h
        refine lv_aload_n hx hb dX12_add_359 rfl (lv_at hl 0 rfl) ?_
        refine lv_iload hx hb dX12_add_360 (lv_at hl 6 rfl) ?_
        refine lv_if_lt (tgt := 370) hx hb dX12_add_362 (by decide) (fun c1 => ?_) (fun c1 => ?_)
        · rw [if_pos c1] at h
          exact ih.2.2.2.2.2.2.2.2.2.2.2.2.2.2.2.2.2.2.2.2.2.2.2.2.2.2.2.2.2.2.2.1 L σ r h H locs ls hP hD hS (lv_sub hl [0, 1, 2, 3, 4, 5, 6, 7, 8] rfl)
        · rw [if_neg c1] at h
          refine lv_iload hx hb dX12_add_365 (lv_at hl 4 rfl) ?_
          refine lv_goto (tgt := 372) hx hb dX12_add_367 (by decide) ?_
          exact ih.2.2.2.2.2.2.2.2.2.2.2.2.2.2.2.2.2.2.2.2.2.2.2.2.2.2.2.2.2.2.2.2 (upd L 100 ((L 4))) σ r h H locs ls hP hD hS (lv_sub hl [0, 1, 2, 3, 4, 5, 6, 7, 8] rfl)
      · intro L σ r h H locs ls hP hD hS hl
        rw [x_add] at h
        refine lv_iload hx hb dX12_add_370 (lv_at hl 5 rfl) ?_
        exact ih.2.2.2.2.2.2.2.2.2.2.2.2.2.2.2.2.2.2.2.2.2.2.2.2.2.2.2.2.2.2.2.2 (upd L 100 ((L 5))) σ r h H locs ls hP hD hS (lv_sub hl [0, 1, 2, 3, 4, 5, 6, 7, 8] rfl)
      · intro L σ r h H locs ls hP hD hS hl
        rw [x_add] at h
        obtain ⟨r1, hc1, h⟩ := ob_ex h
        refine nc_Vi (As := [.int (L 100)]) (rest := []) ⟨hx, hb, hml, hown, hts⟩ (c_x_wholeOf l dC dI cy a k (upd (fun _ => 0) 1 ((L 100))) σ r1 hc1 H.size) (cwV 1 hts g_x_add_wholeOf_485 rfl rfl rfl hd_x_wholeOf ⟨Nat.le_of_ble_eq_true rfl, Nat.le_of_ble_eq_true rfl⟩) hK hG hA hP hD hS rfl hl.1 rfl (Nat.le_of_ble_eq_true rfl) dX12_add_372 ⟨Nat.le_refl _, Nat.le_refl _⟩ (fun H locs hP hD hS => ?_)
        cases h
        exact W.iret (v := r1.1) hx hb hr (fun t ht hW => ⟨⟨r1.1, (), rfl, rfl, by rw [ht]; exact hP, va_K.moved hW.alike hK, hD⟩, hS.F ht⟩) hS.2.2 dX12_add_375
  exact (blk k0).1 L0 σ0 r0 h0 s.heap [] ls hP hD hS hl
/-! multiply -/
def x_multiply : Nat → Nat → (Nat → Int32) → (Nat → Int64) → MS → Option (Int32 × MS)
  | 0, _, _, _, _ => none
  | k + 1, 0, L, J, σ => ob (x_loadA k 0 (upd (fun _ => 0) 1 ((L 1))) σ) (fun r1 => ob (x_loadB k 0 (upd (fun _ => 0) 1 ((L 2))) r1.2) (fun r2 => x_multiply k 1 L J (upd r2.2.1 86 ((((r2.2.1 84)) + ((r2.2.1 85)))), r2.2.2.1, r2.2.2.2)))
  | k + 1, 1, L, J, σ => x_multiply k 2 (upd L 3 0) J σ
  | k + 1, 2, L, J, σ => if ((σ.1 86)) ≤ ((L 3)) then (x_multiply k 4 L J σ) else (if ¬ (((L 3)) < 0 ∨ 300 ≤ ((L 3)).toNatClampNeg) then (x_multiply k 3 L J (σ.1, σ.2.1, updG σ.2.2 44 (upd (σ.2.2 44) ((L 3)).toNatClampNeg 0))) else none)
  | k + 1, 3, L, J, σ => x_multiply k 2 (upd L 3 (((L 3)) + 1)) J σ
  | k + 1, 4, L, J, σ => x_multiply k 5 (upd L 3 0) J σ
  | k + 1, 5, L, J, σ => if ((σ.1 84)) ≤ ((L 3)) then (x_multiply k 10 L J σ) else (x_multiply k 6 (upd L 6 0) (updW J 4 0) σ)
  | k + 1, 6, L, J, σ => if ((σ.1 85)) ≤ ((L 6)) then (x_multiply k 8 L J σ) else (if ¬ (((((L 3)) + ((L 6)))) < 0 ∨ 300 ≤ ((((L 3)) + ((L 6)))).toNatClampNeg) then (if ¬ (((L 3)) < 0 ∨ 140 ≤ ((L 3)).toNatClampNeg) then (if ¬ (((L 6)) < 0 ∨ 140 ≤ ((L 6)).toNatClampNeg) then (if ¬ (((((L 3)) + ((L 6)))) < 0 ∨ 300 ≤ ((((L 3)) + ((L 6)))).toNatClampNeg) then (x_multiply k 7 L (updW J 4 ((((J 4)) + ((((((σ.2.2 44 ((((L 3)) + ((L 6)))).toNatClampNeg)).toInt64)) + ((((((σ.2.2 42 ((L 3)).toNatClampNeg)).toInt64)) * ((((σ.2.2 43 ((L 6)).toNatClampNeg)).toInt64))))))))) (σ.1, σ.2.1, updG σ.2.2 44 (upd (σ.2.2 44) ((((L 3)) + ((L 6)))).toNatClampNeg ((((((((J 4)) + ((((((σ.2.2 44 ((((L 3)) + ((L 6)))).toNatClampNeg)).toInt64)) + ((((((σ.2.2 42 ((L 3)).toNatClampNeg)).toInt64)) * ((((σ.2.2 43 ((L 6)).toNatClampNeg)).toInt64)))))))) &&& 65535)).toInt32))))) else none) else none) else none) else none)
  | k + 1, 7, L, J, σ => x_multiply k 6 (upd L 6 (((L 6)) + 1)) (updW J 4 ((((J 4)) >>> ((16 : Int32).toInt64 &&& 63)))) σ
  | k + 1, 8, L, J, σ => if ¬ (((((L 3)) + ((σ.1 85)))) < 0 ∨ 300 ≤ ((((L 3)) + ((σ.1 85)))).toNatClampNeg) then (x_multiply k 9 L J (σ.1, σ.2.1, updG σ.2.2 44 (upd (σ.2.2 44) ((((L 3)) + ((σ.1 85)))).toNatClampNeg ((((J 4)).toInt32))))) else none
  | k + 1, 9, L, J, σ => x_multiply k 5 (upd L 3 (((L 3)) + 1)) J σ
  | k + 1, 10, L, J, σ => ob (x_signOf k 0 (upd (fun _ => 0) 1 ((L 1))) σ) (fun r1 => ob (x_signOf k 0 (upd (fun _ => 0) 1 ((L 2))) r1.2) (fun r2 => ob (x_wholeOf k 0 (upd (fun _ => 0) 1 ((r1.1 * r2.1))) r2.2) (fun r3 => some (r3.1, r3.2))))
  | _ + 1, _ + 11, _, _, _ => none
def o_x_multiply : List Cond := [.methodLink RX12 488 yX12_loadA, .instanceMethod yX12_loadA, .selects RX12 yX12_loadA yX12_loadA, .initialized RX12, .methodLink RX12 491 yX12_loadB, .instanceMethod yX12_loadB, .selects RX12 yX12_loadB yX12_loadB, .fieldLink RX12 466 "SetHouseModel" "na" "I", .fieldLink RX12 472 "SetHouseModel" "nb" "I", .fieldLink RX12 478 "SetHouseModel" "nc" "I", .fieldLink RX12 481 "SetHouseModel" "rc" "[I", .fieldLink RX12 469 "SetHouseModel" "ra" "[I", .fieldLink RX12 475 "SetHouseModel" "rb" "[I", .constantLong RX12 498 (65535), .methodLink RX12 463 yX12_signOf, .instanceMethod yX12_signOf, .selects RX12 yX12_signOf yX12_signOf, .methodLink RX12 485 yX12_wholeOf, .instanceMethod yX12_wholeOf, .selects RX12 yX12_wholeOf yX12_wholeOf]
theorem o_x_multiply_good : o_x_multiply.all goodWord = true := by decide +kernel
def p_x_multiply : List Cond := o_x_multiply ++ ((.code yX12_loadA cX12_loadA 3 none :: p_x_loadA) ++ ((.code yX12_loadB cX12_loadB 3 none :: p_x_loadB) ++ ((.code yX12_signOf cX12_signOf 2 (some .int) :: p_x_signOf) ++ ((.code yX12_wholeOf cX12_wholeOf 4 (some .int) :: p_x_wholeOf) ++ []))))
theorem p_x_multiply_good : p_x_multiply.all goodWord = true := nb_all2 o_x_multiply_good (nb_all2 (nb_allc (by decide +kernel) p_x_loadA_good) (nb_all2 (nb_allc (by decide +kernel) p_x_loadB_good) (nb_all2 (nb_allc (by decide +kernel) p_x_signOf_good) (nb_all2 (nb_allc (by decide +kernel) p_x_wholeOf_good) rfl))))
def w_x_multiply : List Cond := .code yX12_multiply cX12_multiply 7 (some .int) :: (p_x_multiply ++ fM)
theorem w_x_multiply_good : w_x_multiply.all goodWord = true := nb_allc (by decide +kernel) (nb_all2 p_x_multiply_good fM_good)
theorem in_x_multiply : ∀ w ∈ wsX120, w ∈ w_x_multiply := fun _ h => List.mem_cons_of_mem _ (List.mem_append_right _ h)
theorem hd_x_multiply : yX12_multiply.cls = RX12 ∧ yX12_multiply.cls ≠ "java/lang/invoke/MethodHandle" ∧ yX12_multiply.cls ≠ "java/lang/invoke/VarHandle" ∧ (parseMethodDescriptor yX12_multiply.desc).map (fun d => d.parameters.length) = some 2 := by decide +kernel
theorem gg_x_multiply_loadA : GoodIn w_x_multiply w_x_loadA := goodIn_sub (fun w h => (List.mem_cons.mp h).elim (fun e => (List.mem_cons_of_mem _ (List.mem_append_left _ (List.mem_append_right _ (List.mem_append_left _ (List.mem_cons.mpr (Or.inl e))))))) (fun h => (List.mem_append.mp h).elim (fun h => (List.mem_cons_of_mem _ (List.mem_append_left _ (List.mem_append_right _ (List.mem_append_left _ (List.mem_cons_of_mem _ h)))))) (fun h => List.mem_cons_of_mem _ (List.mem_append_right _ h)))) w_x_loadA_good
theorem g_x_multiply_loadA_488 : GoodIn w_x_multiply (wsV RX12 488 RX12 yX12_loadA w_x_loadA) := goodIn_app (nb_g4 (List.mem_cons_of_mem _ (List.mem_append_left _ (List.mem_append_left _ (List.mem_of_getElem? (i := 0) rfl)))) (List.mem_cons_of_mem _ (List.mem_append_left _ (List.mem_append_left _ (List.mem_of_getElem? (i := 1) rfl)))) (List.mem_cons_of_mem _ (List.mem_append_left _ (List.mem_append_left _ (List.mem_of_getElem? (i := 2) rfl)))) (List.mem_cons_of_mem _ (List.mem_append_left _ (List.mem_append_left _ (List.mem_of_getElem? (i := 3) rfl)))) (by decide +kernel)) gg_x_multiply_loadA
theorem gg_x_multiply_loadB : GoodIn w_x_multiply w_x_loadB := goodIn_sub (fun w h => (List.mem_cons.mp h).elim (fun e => (List.mem_cons_of_mem _ (List.mem_append_left _ (List.mem_append_right _ (List.mem_append_right _ (List.mem_append_left _ (List.mem_cons.mpr (Or.inl e)))))))) (fun h => (List.mem_append.mp h).elim (fun h => (List.mem_cons_of_mem _ (List.mem_append_left _ (List.mem_append_right _ (List.mem_append_right _ (List.mem_append_left _ (List.mem_cons_of_mem _ h))))))) (fun h => List.mem_cons_of_mem _ (List.mem_append_right _ h)))) w_x_loadB_good
theorem g_x_multiply_loadB_491 : GoodIn w_x_multiply (wsV RX12 491 RX12 yX12_loadB w_x_loadB) := goodIn_app (nb_g4 (List.mem_cons_of_mem _ (List.mem_append_left _ (List.mem_append_left _ (List.mem_of_getElem? (i := 4) rfl)))) (List.mem_cons_of_mem _ (List.mem_append_left _ (List.mem_append_left _ (List.mem_of_getElem? (i := 5) rfl)))) (List.mem_cons_of_mem _ (List.mem_append_left _ (List.mem_append_left _ (List.mem_of_getElem? (i := 6) rfl)))) (List.mem_cons_of_mem _ (List.mem_append_left _ (List.mem_append_left _ (List.mem_of_getElem? (i := 3) rfl)))) (by decide +kernel)) gg_x_multiply_loadB
theorem gg_x_multiply_signOf : GoodIn w_x_multiply w_x_signOf := goodIn_sub (fun w h => (List.mem_cons.mp h).elim (fun e => (List.mem_cons_of_mem _ (List.mem_append_left _ (List.mem_append_right _ (List.mem_append_right _ (List.mem_append_right _ (List.mem_append_left _ (List.mem_cons.mpr (Or.inl e))))))))) (fun h => (List.mem_append.mp h).elim (fun h => (List.mem_cons_of_mem _ (List.mem_append_left _ (List.mem_append_right _ (List.mem_append_right _ (List.mem_append_right _ (List.mem_append_left _ (List.mem_cons_of_mem _ h)))))))) (fun h => List.mem_cons_of_mem _ (List.mem_append_right _ h)))) w_x_signOf_good
theorem g_x_multiply_signOf_463 : GoodIn w_x_multiply (wsV RX12 463 RX12 yX12_signOf w_x_signOf) := goodIn_app (nb_g4 (List.mem_cons_of_mem _ (List.mem_append_left _ (List.mem_append_left _ (List.mem_of_getElem? (i := 14) rfl)))) (List.mem_cons_of_mem _ (List.mem_append_left _ (List.mem_append_left _ (List.mem_of_getElem? (i := 15) rfl)))) (List.mem_cons_of_mem _ (List.mem_append_left _ (List.mem_append_left _ (List.mem_of_getElem? (i := 16) rfl)))) (List.mem_cons_of_mem _ (List.mem_append_left _ (List.mem_append_left _ (List.mem_of_getElem? (i := 3) rfl)))) (by decide +kernel)) gg_x_multiply_signOf
theorem gg_x_multiply_wholeOf : GoodIn w_x_multiply w_x_wholeOf := goodIn_sub (fun w h => (List.mem_cons.mp h).elim (fun e => (List.mem_cons_of_mem _ (List.mem_append_left _ (List.mem_append_right _ (List.mem_append_right _ (List.mem_append_right _ (List.mem_append_right _ (List.mem_append_left _ (List.mem_cons.mpr (Or.inl e)))))))))) (fun h => (List.mem_append.mp h).elim (fun h => (List.mem_cons_of_mem _ (List.mem_append_left _ (List.mem_append_right _ (List.mem_append_right _ (List.mem_append_right _ (List.mem_append_right _ (List.mem_append_left _ (List.mem_cons_of_mem _ h))))))))) (fun h => List.mem_cons_of_mem _ (List.mem_append_right _ h)))) w_x_wholeOf_good
theorem g_x_multiply_wholeOf_485 : GoodIn w_x_multiply (wsV RX12 485 RX12 yX12_wholeOf w_x_wholeOf) := goodIn_app (nb_g4 (List.mem_cons_of_mem _ (List.mem_append_left _ (List.mem_append_left _ (List.mem_of_getElem? (i := 17) rfl)))) (List.mem_cons_of_mem _ (List.mem_append_left _ (List.mem_append_left _ (List.mem_of_getElem? (i := 18) rfl)))) (List.mem_cons_of_mem _ (List.mem_append_left _ (List.mem_append_left _ (List.mem_of_getElem? (i := 19) rfl)))) (List.mem_cons_of_mem _ (List.mem_append_left _ (List.mem_append_left _ (List.mem_of_getElem? (i := 3) rfl)))) (by decide +kernel)) gg_x_multiply_wholeOf
set_option maxHeartbeats 40000000 in
set_option maxRecDepth 100000 in
theorem c_x_multiply (l : Launch) (dC : Nat → ClassId) (dI : Nat → Nat → Nat) (cy : Nat → ClassId) (a : Nat → Nat) (k0 : Nat) (L0 : Nat → Int32) (J0 : Nat → Int64) (σ0 : MS) (r0 : Int32 × MS) (h0 : x_multiply k0 0 L0 J0 σ0 = some r0) (sz : Nat) : Met l yX12_multiply w_x_multiply ({ frames := 3, cells := 0, slots := 0, locals := 67 }) (va_Pc [.ref (a 0), .int (L0 1), .int (L0 2)] (nIn (dC, dI) cy sz (vM cy a σ0))) (va_Qi (fun (z : Int32) (_ : Unit) => z = r0.1) (fun _ t => nOut (dC, dI) cy (va_A (vM cy a σ0) sz) (vM cy a r0.2) t) (va_A (vM cy a σ0) sz)) 0 0 (va_A (vM cy a σ0) sz) := by
  refine Met.ofW (cc := cX12_multiply) (maxL := 7) (ret := (some .int)) (by decide) rfl ?_
  intro p e s m args below meth c s₁ B hml hv
  obtain ⟨rfl, hsz, hP, hK, hD0, hG⟩ := hv
  have hx := B.exec
  have hb := B.bytes
  have hr := B.returns
  have hts := atoms_spec (ws := w_x_multiply) B.pre
  have hown : s.vm.findClass RX12 = some m.cls := findClass_of_methodNamed B.named
  have hlocks := B.notSynchronized
  subst hsz
  have hD := hD0.self (sz := s.heap.size)
  generalize hAe : va_A (vM cy a σ0) s.heap.size = A at hD ⊢
  have hA : ∀ q : Nat, s.heap.size ≤ q → A q := fun q h => by rw [← hAe]; exact Or.inr h
  have hS : va_S A s.heap s.heap [] := va_S.rf
  have hl := lv_entry ([.ref (a 0), .int (L0 1), .int (L0 2)]) (n := 7) (Nat.le_of_ble_eq_true rfl)
  rw [lg_entry_eq]
  generalize (lg_sl ([.ref (a 0), .int (L0 1), .int (L0 2)]) ++ List.replicate (7 - (lg_sl ([.ref (a 0), .int (L0 1), .int (L0 2)])).length) Slot.unset).toArray = ls at hl ⊢
  have hl : lv_has ls 7 [(0, .ref (a 0)), (1, .int (L0 1)), (2, .int (L0 2))] := hl
  have blk : ∀ k : Nat, (bTJ p l e (headSpec w_x_multiply ({ frames := 3, cells := 0, slots := 0, locals := 67 })).room s m #[.ref (a 0), .int (L0 1), .int (L0 2)] below meth c dC dI cy a A (qI dC dI cy a A below #[.ref (a 0), .int (L0 1), .int (L0 2)] s) 7 (x_multiply k 0) (fun L J => [(0, .ref (a 0)), (1, .int (L 1)), (2, .int (L 2))]) 0 (fun L J => [])) ∧ (bTJ p l e (headSpec w_x_multiply ({ frames := 3, cells := 0, slots := 0, locals := 67 })).room s m #[.ref (a 0), .int (L0 1), .int (L0 2)] below meth c dC dI cy a A (qI dC dI cy a A below #[.ref (a 0), .int (L0 1), .int (L0 2)] s) 7 (x_multiply k 1) (fun L J => [(0, .ref (a 0)), (1, .int (L 1)), (2, .int (L 2))]) 23 (fun L J => [])) ∧ (bTJ p l e (headSpec w_x_multiply ({ frames := 3, cells := 0, slots := 0, locals := 67 })).room s m #[.ref (a 0), .int (L0 1), .int (L0 2)] below meth c dC dI cy a A (qI dC dI cy a A below #[.ref (a 0), .int (L0 1), .int (L0 2)] s) 7 (x_multiply k 2) (fun L J => [(0, .ref (a 0)), (1, .int (L 1)), (2, .int (L 2)), (3, .int (L 3))]) 25 (fun L J => [])) ∧ (bTJ p l e (headSpec w_x_multiply ({ frames := 3, cells := 0, slots := 0, locals := 67 })).room s m #[.ref (a 0), .int (L0 1), .int (L0 2)] below meth c dC dI cy a A (qI dC dI cy a A below #[.ref (a 0), .int (L0 1), .int (L0 2)] s) 7 (x_multiply k 3) (fun L J => [(0, .ref (a 0)), (1, .int (L 1)), (2, .int (L 2)), (3, .int (L 3))]) 40 (fun L J => [])) ∧ (bTJ p l e (headSpec w_x_multiply ({ frames := 3, cells := 0, slots := 0, locals := 67 })).room s m #[.ref (a 0), .int (L0 1), .int (L0 2)] below meth c dC dI cy a A (qI dC dI cy a A below #[.ref (a 0), .int (L0 1), .int (L0 2)] s) 7 (x_multiply k 4) (fun L J => [(0, .ref (a 0)), (1, .int (L 1)), (2, .int (L 2)), (3, .int (L 3))]) 46 (fun L J => [])) ∧ (bTJ p l e (headSpec w_x_multiply ({ frames := 3, cells := 0, slots := 0, locals := 67 })).room s m #[.ref (a 0), .int (L0 1), .int (L0 2)] below meth c dC dI cy a A (qI dC dI cy a A below #[.ref (a 0), .int (L0 1), .int (L0 2)] s) 7 (x_multiply k 5) (fun L J => [(0, .ref (a 0)), (1, .int (L 1)), (2, .int (L 2)), (3, .int (L 3))]) 48 (fun L J => [])) ∧ (bTJ p l e (headSpec w_x_multiply ({ frames := 3, cells := 0, slots := 0, locals := 67 })).room s m #[.ref (a 0), .int (L0 1), .int (L0 2)] below meth c dC dI cy a A (qI dC dI cy a A below #[.ref (a 0), .int (L0 1), .int (L0 2)] s) 7 (x_multiply k 6) (fun L J => [(0, .ref (a 0)), (1, .int (L 1)), (2, .int (L 2)), (3, .int (L 3)), (4, .long (J 4)), (6, .int (L 6))]) 62 (fun L J => [])) ∧ (bTJ p l e (headSpec w_x_multiply ({ frames := 3, cells := 0, slots := 0, locals := 67 })).room s m #[.ref (a 0), .int (L0 1), .int (L0 2)] below meth c dC dI cy a A (qI dC dI cy a A below #[.ref (a 0), .int (L0 1), .int (L0 2)] s) 7 (x_multiply k 7) (fun L J => [(0, .ref (a 0)), (1, .int (L 1)), (2, .int (L 2)), (3, .int (L 3)), (4, .long (J 4)), (6, .int (L 6))]) 119 (fun L J => [])) ∧ (bTJ p l e (headSpec w_x_multiply ({ frames := 3, cells := 0, slots := 0, locals := 67 })).room s m #[.ref (a 0), .int (L0 1), .int (L0 2)] below meth c dC dI cy a A (qI dC dI cy a A below #[.ref (a 0), .int (L0 1), .int (L0 2)] s) 7 (x_multiply k 8) (fun L J => [(0, .ref (a 0)), (1, .int (L 1)), (2, .int (L 2)), (3, .int (L 3)), (4, .long (J 4)), (6, .int (L 6))]) 132 (fun L J => [])) ∧ (bTJ p l e (headSpec w_x_multiply ({ frames := 3, cells := 0, slots := 0, locals := 67 })).room s m #[.ref (a 0), .int (L0 1), .int (L0 2)] below meth c dC dI cy a A (qI dC dI cy a A below #[.ref (a 0), .int (L0 1), .int (L0 2)] s) 7 (x_multiply k 9) (fun L J => [(0, .ref (a 0)), (1, .int (L 1)), (2, .int (L 2)), (3, .int (L 3)), (4, .long (J 4)), (6, .int (L 6))]) 146 (fun L J => [])) ∧ (bTJ p l e (headSpec w_x_multiply ({ frames := 3, cells := 0, slots := 0, locals := 67 })).room s m #[.ref (a 0), .int (L0 1), .int (L0 2)] below meth c dC dI cy a A (qI dC dI cy a A below #[.ref (a 0), .int (L0 1), .int (L0 2)] s) 7 (x_multiply k 10) (fun L J => [(0, .ref (a 0)), (1, .int (L 1)), (2, .int (L 2)), (3, .int (L 3))]) 152 (fun L J => [])) := by
    intro k
    induction k with
    | zero => exact ⟨fun L J σ r h => (by cases h), fun L J σ r h => (by cases h), fun L J σ r h => (by cases h), fun L J σ r h => (by cases h), fun L J σ r h => (by cases h), fun L J σ r h => (by cases h), fun L J σ r h => (by cases h), fun L J σ r h => (by cases h), fun L J σ r h => (by cases h), fun L J σ r h => (by cases h), fun L J σ r h => (by cases h)⟩
    | succ k ih =>
      refine ⟨?_, ?_, ?_, ?_, ?_, ?_, ?_, ?_, ?_, ?_, ?_⟩
      · intro L J σ r h H locs ls hP hD hS hl
        rw [x_multiply] at h
        refine lv_aload_n hx hb dX12_multiply_0 rfl (lv_at hl 0 rfl) ?_
        refine lv_iload_n hx hb dX12_multiply_1 rfl (lv_at hl 1 rfl) ?_
        obtain ⟨r1, hc1, h⟩ := ob_ex h
        refine nc_Vv (As := [.int (L 1)]) (rest := []) ⟨hx, hb, hml, hown, hts⟩ (c_x_loadA l dC dI cy a k (upd (fun _ => 0) 1 ((L 1))) σ r1 hc1 H.size) (cwV 1 hts g_x_multiply_loadA_488 rfl rfl rfl hd_x_loadA ⟨Nat.le_of_ble_eq_true rfl, Nat.le_of_ble_eq_true rfl⟩) hK hG hA hP hD hS rfl hl.1 rfl (Nat.le_of_ble_eq_true rfl) dX12_multiply_2 ⟨Nat.le_refl _, Nat.le_refl _⟩ (fun H locs hP hD hS => ?_)
        refine lv_aload_n hx hb dX12_multiply_5 rfl (lv_at hl 0 rfl) ?_
        refine lv_iload_n hx hb dX12_multiply_6 rfl (lv_at hl 2 rfl) ?_
        obtain ⟨r2, hc2, h⟩ := ob_ex h
        refine nc_Vv (As := [.int (L 2)]) (rest := []) ⟨hx, hb, hml, hown, hts⟩ (c_x_loadB l dC dI cy a k (upd (fun _ => 0) 1 ((L 2))) r1.2 r2 hc2 H.size) (cwV 1 hts g_x_multiply_loadB_491 rfl rfl rfl hd_x_loadB ⟨Nat.le_of_ble_eq_true rfl, Nat.le_of_ble_eq_true rfl⟩) hK hG hA hP hD hS rfl hl.1 rfl (Nat.le_of_ble_eq_true rfl) dX12_multiply_7 ⟨Nat.le_refl _, Nat.le_refl _⟩ (fun H locs hP hD hS => ?_)
        refine lv_aload_n hx hb dX12_multiply_10 rfl (lv_at hl 0 rfl) ?_
        refine lv_aload_n hx hb dX12_multiply_11 rfl (lv_at hl 0 rfl) ?_
        refine ng_84 hx hb hts in_x_multiply hown hK hP (hts _ (List.mem_cons_of_mem _ (List.mem_append_left _ (List.mem_append_left _ (List.mem_of_getElem? (i := 7) rfl))))) dX12_multiply_12 ?_
        refine lv_aload_n hx hb dX12_multiply_15 rfl (lv_at hl 0 rfl) ?_
        refine ng_85 hx hb hts in_x_multiply hown hK hP (hts _ (List.mem_cons_of_mem _ (List.mem_append_left _ (List.mem_append_left _ (List.mem_of_getElem? (i := 8) rfl))))) dX12_multiply_16 ?_
        refine lv_iadd hx hb dX12_multiply_19 ?_
        refine np_86 hx hb hts in_x_multiply hown hK hP hD hS (hts _ (List.mem_cons_of_mem _ (List.mem_append_left _ (List.mem_append_left _ (List.mem_of_getElem? (i := 9) rfl))))) dX12_multiply_20 (fun H locs hP hD hS => ?_)
        exact ih.2.1 L J (upd r2.2.1 86 ((((r2.2.1 84)) + ((r2.2.1 85)))), r2.2.2.1, r2.2.2.2) r h H locs ls hP hD hS (lv_sub hl [0, 1, 2] rfl)
      · intro L J σ r h H locs ls hP hD hS hl
        rw [x_multiply] at h
        refine lv_iconst (v := 0) hx hb dX12_multiply_23 (by decide) ?_
        refine lv_istore_n (lv' := [(3, .int 0), (0, .ref (a 0)), (1, .int (L 1)), (2, .int (L 2))]) hx hb dX12_multiply_24 rfl hl (by decide) rfl (fun ls hl => ?_)
        exact ih.2.2.1 (upd L 3 0) J σ r h H locs ls hP hD hS (lv_sub hl [1, 2, 3, 0] rfl)
      · intro L J σ r h H locs ls hP hD hS hl
        rw [x_multiply] at h
        refine lv_iload_n hx hb dX12_multiply_25 rfl (lv_at hl 3 rfl) ?_
        refine lv_aload_n hx hb dX12_multiply_26 rfl (lv_at hl 0 rfl) ?_
        refine ng_86 hx hb hts in_x_multiply hown hK hP (hts _ (List.mem_cons_of_mem _ (List.mem_append_left _ (List.mem_append_left _ (List.mem_of_getElem? (i := 9) rfl))))) dX12_multiply_27 ?_
        refine lv_icmp_ge (tgt := 46) hx hb dX12_multiply_30 (by decide) (fun c1 => ?_) (fun c1 => ?_)
        · rw [if_pos c1] at h
          exact ih.2.2.2.2.1 L J σ r h H locs ls hP hD hS (lv_sub hl [0, 1, 2, 3] rfl)
        · rw [if_neg c1] at h
          refine lv_aload_n hx hb dX12_multiply_33 rfl (lv_at hl 0 rfl) ?_
          refine ng_83 hx hb hts in_x_multiply hown hK hP (hts _ (List.mem_cons_of_mem _ (List.mem_append_left _ (List.mem_append_left _ (List.mem_of_getElem? (i := 10) rfl))))) dX12_multiply_34 ?_
          refine lv_iload_n hx hb dX12_multiply_37 rfl (lv_at hl 3 rfl) ?_
          refine lv_iconst (v := 0) hx hb dX12_multiply_38 (by decide) ?_
          obtain ⟨q2, h⟩ := nb_ite1 h
          refine ns_44 hx hb hK hP hD hS q2 dX12_multiply_39 (fun H locs hP hD hS => ?_)
          exact ih.2.2.2.1 L J (σ.1, σ.2.1, updG σ.2.2 44 (upd (σ.2.2 44) ((L 3)).toNatClampNeg 0)) r h H locs ls hP hD hS (lv_sub hl [0, 1, 2, 3] rfl)
      · intro L J σ r h H locs ls hP hD hS hl
        rw [x_multiply] at h
        refine lv_iinc (v := ((L 3)) + 1) (lv' := [(3, .int (((L 3)) + 1)), (0, .ref (a 0)), (1, .int (L 1)), (2, .int (L 2))]) hx hb dX12_multiply_40 hl (k := 3) rfl rfl (by decide) rfl (fun ls hl => ?_)
        refine lv_goto (tgt := 25) hx hb dX12_multiply_43 (by decide) ?_
        exact ih.2.2.1 (upd L 3 (((L 3)) + 1)) J σ r h H locs ls hP hD hS (lv_sub hl [1, 2, 3, 0] rfl)
      · intro L J σ r h H locs ls hP hD hS hl
        rw [x_multiply] at h
        refine lv_iconst (v := 0) hx hb dX12_multiply_46 (by decide) ?_
        refine lv_istore_n (lv' := [(3, .int 0), (0, .ref (a 0)), (1, .int (L 1)), (2, .int (L 2))]) hx hb dX12_multiply_47 rfl hl (by decide) rfl (fun ls hl => ?_)
        exact ih.2.2.2.2.2.1 (upd L 3 0) J σ r h H locs ls hP hD hS (lv_sub hl [1, 2, 3, 0] rfl)
      · intro L J σ r h H locs ls hP hD hS hl
        rw [x_multiply] at h
        refine lv_iload_n hx hb dX12_multiply_48 rfl (lv_at hl 3 rfl) ?_
        refine lv_aload_n hx hb dX12_multiply_49 rfl (lv_at hl 0 rfl) ?_
        refine ng_84 hx hb hts in_x_multiply hown hK hP (hts _ (List.mem_cons_of_mem _ (List.mem_append_left _ (List.mem_append_left _ (List.mem_of_getElem? (i := 7) rfl))))) dX12_multiply_50 ?_
        refine lv_icmp_ge (tgt := 152) hx hb dX12_multiply_53 (by decide) (fun c1 => ?_) (fun c1 => ?_)
        · rw [if_pos c1] at h
          exact ih.2.2.2.2.2.2.2.2.2.2 L J σ r h H locs ls hP hD hS (lv_sub hl [0, 1, 2, 3] rfl)
        · rw [if_neg c1] at h
          refine lv_lconst (v := 0) hx hb dX12_multiply_56 (by decide) ?_
          refine lv_lstore (lv' := [(4, .long 0), (0, .ref (a 0)), (1, .int (L 1)), (2, .int (L 2)), (3, .int (L 3))]) hx hb dX12_multiply_57 hl (by decide) rfl (fun ls hl => ?_)
          refine lv_iconst (v := 0) hx hb dX12_multiply_59 (by decide) ?_
          refine lv_istore (lv' := [(6, .int 0), (4, .long 0), (0, .ref (a 0)), (1, .int (L 1)), (2, .int (L 2)), (3, .int (L 3))]) hx hb dX12_multiply_60 hl (by decide) rfl (fun ls hl => ?_)
          exact ih.2.2.2.2.2.2.1 (upd L 6 0) (updW J 4 0) σ r h H locs ls hP hD hS (lv_sub hl [2, 3, 4, 5, 1, 0] rfl)
      · intro L J σ r h H locs ls hP hD hS hl
        rw [x_multiply] at h
        refine lv_iload hx hb dX12_multiply_62 (lv_at hl 5 rfl) ?_
        refine lv_aload_n hx hb dX12_multiply_64 rfl (lv_at hl 0 rfl) ?_
        refine ng_85 hx hb hts in_x_multiply hown hK hP (hts _ (List.mem_cons_of_mem _ (List.mem_append_left _ (List.mem_append_left _ (List.mem_of_getElem? (i := 8) rfl))))) dX12_multiply_65 ?_
        refine lv_icmp_ge (tgt := 132) hx hb dX12_multiply_68 (by decide) (fun c1 => ?_) (fun c1 => ?_)
        · rw [if_pos c1] at h
          exact ih.2.2.2.2.2.2.2.2.1 L J σ r h H locs ls hP hD hS (lv_sub hl [0, 1, 2, 3, 4, 5] rfl)
        · rw [if_neg c1] at h
          refine lv_lload hx hb dX12_multiply_71 (lv_at hl 4 rfl) ?_
          refine lv_aload_n hx hb dX12_multiply_73 rfl (lv_at hl 0 rfl) ?_
          refine ng_83 hx hb hts in_x_multiply hown hK hP (hts _ (List.mem_cons_of_mem _ (List.mem_append_left _ (List.mem_append_left _ (List.mem_of_getElem? (i := 10) rfl))))) dX12_multiply_74 ?_
          refine lv_iload_n hx hb dX12_multiply_77 rfl (lv_at hl 3 rfl) ?_
          refine lv_iload hx hb dX12_multiply_78 (lv_at hl 5 rfl) ?_
          refine lv_iadd hx hb dX12_multiply_80 ?_
          obtain ⟨q2, h⟩ := nb_ite1 h
          refine nl_44 hx hb hK hP q2 dX12_multiply_81 ?_
          refine lv_i2l (v := ((σ.2.2 44 ((((L 3)) + ((L 6)))).toNatClampNeg)).toInt64) hx hb dX12_multiply_82 rfl ?_
          refine lv_aload_n hx hb dX12_multiply_83 rfl (lv_at hl 0 rfl) ?_
          refine ng_81 hx hb hts in_x_multiply hown hK hP (hts _ (List.mem_cons_of_mem _ (List.mem_append_left _ (List.mem_append_left _ (List.mem_of_getElem? (i := 11) rfl))))) dX12_multiply_84 ?_
          refine lv_iload_n hx hb dX12_multiply_87 rfl (lv_at hl 3 rfl) ?_
          obtain ⟨q3, h⟩ := nb_ite1 h
          refine nl_42 hx hb hK hP q3 dX12_multiply_88 ?_
          refine lv_i2l (v := ((σ.2.2 42 ((L 3)).toNatClampNeg)).toInt64) hx hb dX12_multiply_89 rfl ?_
          refine lv_aload_n hx hb dX12_multiply_90 rfl (lv_at hl 0 rfl) ?_
          refine ng_82 hx hb hts in_x_multiply hown hK hP (hts _ (List.mem_cons_of_mem _ (List.mem_append_left _ (List.mem_append_left _ (List.mem_of_getElem? (i := 12) rfl))))) dX12_multiply_91 ?_
          refine lv_iload hx hb dX12_multiply_94 (lv_at hl 5 rfl) ?_
          obtain ⟨q4, h⟩ := nb_ite1 h
          refine nl_43 hx hb hK hP q4 dX12_multiply_96 ?_
          refine lv_i2l (v := ((σ.2.2 43 ((L 6)).toNatClampNeg)).toInt64) hx hb dX12_multiply_97 rfl ?_
          refine lv_lmul hx hb dX12_multiply_98 ?_
          refine lv_ladd hx hb dX12_multiply_99 ?_
          refine lv_ladd hx hb dX12_multiply_100 ?_
          refine lv_lstore (lv' := [(4, .long (((J 4)) + ((((((σ.2.2 44 ((((L 3)) + ((L 6)))).toNatClampNeg)).toInt64)) + ((((((σ.2.2 42 ((L 3)).toNatClampNeg)).toInt64)) * ((((σ.2.2 43 ((L 6)).toNatClampNeg)).toInt64)))))))), (0, .ref (a 0)), (1, .int (L 1)), (2, .int (L 2)), (3, .int (L 3)), (6, .int (L 6))]) hx hb dX12_multiply_101 hl (by decide) rfl (fun ls hl => ?_)
          refine lv_aload_n hx hb dX12_multiply_103 rfl (lv_at hl 1 rfl) ?_
          refine ng_83 hx hb hts in_x_multiply hown hK hP (hts _ (List.mem_cons_of_mem _ (List.mem_append_left _ (List.mem_append_left _ (List.mem_of_getElem? (i := 10) rfl))))) dX12_multiply_104 ?_
          refine lv_iload_n hx hb dX12_multiply_107 rfl (lv_at hl 4 rfl) ?_
          refine lv_iload hx hb dX12_multiply_108 (lv_at hl 5 rfl) ?_
          refine lv_iadd hx hb dX12_multiply_110 ?_
          refine lv_lload hx hb dX12_multiply_111 (lv_at hl 0 rfl) ?_
          refine lv_ldc2 (v := 65535) hx hb hown (hts _ (List.mem_cons_of_mem _ (List.mem_append_left _ (List.mem_append_left _ (List.mem_of_getElem? (i := 13) rfl))))) dX12_multiply_113 ?_
          refine lv_land hx hb dX12_multiply_116 ?_
          refine lv_l2i (v := ((((((J 4)) + ((((((σ.2.2 44 ((((L 3)) + ((L 6)))).toNatClampNeg)).toInt64)) + ((((((σ.2.2 42 ((L 3)).toNatClampNeg)).toInt64)) * ((((σ.2.2 43 ((L 6)).toNatClampNeg)).toInt64)))))))) &&& 65535)).toInt32) hx hb dX12_multiply_117 rfl ?_
          obtain ⟨q5, h⟩ := nb_ite1 h
          refine ns_44 hx hb hK hP hD hS q5 dX12_multiply_118 (fun H locs hP hD hS => ?_)
          exact ih.2.2.2.2.2.2.2.1 L (updW J 4 ((((J 4)) + ((((((σ.2.2 44 ((((L 3)) + ((L 6)))).toNatClampNeg)).toInt64)) + ((((((σ.2.2 42 ((L 3)).toNatClampNeg)).toInt64)) * ((((σ.2.2 43 ((L 6)).toNatClampNeg)).toInt64))))))))) (σ.1, σ.2.1, updG σ.2.2 44 (upd (σ.2.2 44) ((((L 3)) + ((L 6)))).toNatClampNeg ((((((((J 4)) + ((((((σ.2.2 44 ((((L 3)) + ((L 6)))).toNatClampNeg)).toInt64)) + ((((((σ.2.2 42 ((L 3)).toNatClampNeg)).toInt64)) * ((((σ.2.2 43 ((L 6)).toNatClampNeg)).toInt64)))))))) &&& 65535)).toInt32)))) r h H locs ls hP hD hS (lv_sub hl [1, 2, 3, 4, 0, 5] rfl)
      · intro L J σ r h H locs ls hP hD hS hl
        rw [x_multiply] at h
        refine lv_lload hx hb dX12_multiply_119 (lv_at hl 4 rfl) ?_
        refine lv_bipush (v := 16) hx hb dX12_multiply_121 (by decide) ?_
        refine lv_lshr (v := ((J 4)) >>> ((16 : Int32).toInt64 &&& 63)) hx hb dX12_multiply_123 rfl ?_
        refine lv_lstore (lv' := [(4, .long (((J 4)) >>> ((16 : Int32).toInt64 &&& 63))), (0, .ref (a 0)), (1, .int (L 1)), (2, .int (L 2)), (3, .int (L 3)), (6, .int (L 6))]) hx hb dX12_multiply_124 hl (by decide) rfl (fun ls hl => ?_)
        refine lv_iinc (v := ((L 6)) + 1) (lv' := [(6, .int (((L 6)) + 1)), (4, .long (((J 4)) >>> ((16 : Int32).toInt64 &&& 63))), (0, .ref (a 0)), (1, .int (L 1)), (2, .int (L 2)), (3, .int (L 3))]) hx hb dX12_multiply_126 hl (k := 5) rfl rfl (by decide) rfl (fun ls hl => ?_)
        refine lv_goto (tgt := 62) hx hb dX12_multiply_129 (by decide) ?_
        exact ih.2.2.2.2.2.2.1 (upd L 6 (((L 6)) + 1)) (updW J 4 ((((J 4)) >>> ((16 : Int32).toInt64 &&& 63)))) σ r h H locs ls hP hD hS (lv_sub hl [2, 3, 4, 5, 1, 0] rfl)
      · intro L J σ r h H locs ls hP hD hS hl
        rw [x_multiply] at h
        refine lv_aload_n hx hb dX12_multiply_132 rfl (lv_at hl 0 rfl) ?_
        refine ng_83 hx hb hts in_x_multiply hown hK hP (hts _ (List.mem_cons_of_mem _ (List.mem_append_left _ (List.mem_append_left _ (List.mem_of_getElem? (i := 10) rfl))))) dX12_multiply_133 ?_
        refine lv_iload_n hx hb dX12_multiply_136 rfl (lv_at hl 3 rfl) ?_
        refine lv_aload_n hx hb dX12_multiply_137 rfl (lv_at hl 0 rfl) ?_
        refine ng_85 hx hb hts in_x_multiply hown hK hP (hts _ (List.mem_cons_of_mem _ (List.mem_append_left _ (List.mem_append_left _ (List.mem_of_getElem? (i := 8) rfl))))) dX12_multiply_138 ?_
        refine lv_iadd hx hb dX12_multiply_141 ?_
        refine lv_lload hx hb dX12_multiply_142 (lv_at hl 4 rfl) ?_
        refine lv_l2i (v := ((J 4)).toInt32) hx hb dX12_multiply_144 rfl ?_
        obtain ⟨q1, h⟩ := nb_ite1 h
        refine ns_44 hx hb hK hP hD hS q1 dX12_multiply_145 (fun H locs hP hD hS => ?_)
        exact ih.2.2.2.2.2.2.2.2.2.1 L J (σ.1, σ.2.1, updG σ.2.2 44 (upd (σ.2.2 44) ((((L 3)) + ((σ.1 85)))).toNatClampNeg ((((J 4)).toInt32)))) r h H locs ls hP hD hS (lv_sub hl [0, 1, 2, 3, 4, 5] rfl)
      · intro L J σ r h H locs ls hP hD hS hl
        rw [x_multiply] at h
        refine lv_iinc (v := ((L 3)) + 1) (lv' := [(3, .int (((L 3)) + 1)), (0, .ref (a 0)), (1, .int (L 1)), (2, .int (L 2)), (4, .long (J 4)), (6, .int (L 6))]) hx hb dX12_multiply_146 hl (k := 3) rfl rfl (by decide) rfl (fun ls hl => ?_)
        refine lv_goto (tgt := 48) hx hb dX12_multiply_149 (by decide) ?_
        exact ih.2.2.2.2.2.1 (upd L 3 (((L 3)) + 1)) J σ r h H locs ls hP hD hS (lv_sub hl [1, 2, 3, 0] rfl)
      · intro L J σ r h H locs ls hP hD hS hl
        rw [x_multiply] at h
        refine lv_aload_n hx hb dX12_multiply_152 rfl (lv_at hl 0 rfl) ?_
        refine lv_aload_n hx hb dX12_multiply_153 rfl (lv_at hl 0 rfl) ?_
        refine lv_iload_n hx hb dX12_multiply_154 rfl (lv_at hl 1 rfl) ?_
        obtain ⟨r1, hc1, h⟩ := ob_ex h
        refine nc_Vi (As := [.int (L 1)]) (rest := [.ref (a 0)]) ⟨hx, hb, hml, hown, hts⟩ (c_x_signOf l dC dI cy a k (upd (fun _ => 0) 1 ((L 1))) σ r1 hc1 H.size) (cwV 1 hts g_x_multiply_signOf_463 rfl rfl rfl hd_x_signOf ⟨Nat.le_of_ble_eq_true rfl, Nat.le_of_ble_eq_true rfl⟩) hK hG hA hP hD hS rfl hl.1 rfl (Nat.le_of_ble_eq_true rfl) dX12_multiply_155 ⟨Nat.le_refl _, Nat.le_refl _⟩ (fun H locs hP hD hS => ?_)
        refine lv_aload_n hx hb dX12_multiply_158 rfl (lv_at hl 0 rfl) ?_
        refine lv_iload_n hx hb dX12_multiply_159 rfl (lv_at hl 2 rfl) ?_
        obtain ⟨r2, hc2, h⟩ := ob_ex h
        refine nc_Vi (As := [.int (L 2)]) (rest := [.int r1.1, .ref (a 0)]) ⟨hx, hb, hml, hown, hts⟩ (c_x_signOf l dC dI cy a k (upd (fun _ => 0) 1 ((L 2))) r1.2 r2 hc2 H.size) (cwV 1 hts g_x_multiply_signOf_463 rfl rfl rfl hd_x_signOf ⟨Nat.le_of_ble_eq_true rfl, Nat.le_of_ble_eq_true rfl⟩) hK hG hA hP hD hS rfl hl.1 rfl (Nat.le_of_ble_eq_true rfl) dX12_multiply_160 ⟨Nat.le_refl _, Nat.le_refl _⟩ (fun H locs hP hD hS => ?_)
        refine lv_imul hx hb dX12_multiply_163 ?_
        obtain ⟨r3, hc3, h⟩ := ob_ex h
        refine nc_Vi (As := [.int (r1.1 * r2.1)]) (rest := []) ⟨hx, hb, hml, hown, hts⟩ (c_x_wholeOf l dC dI cy a k (upd (fun _ => 0) 1 ((r1.1 * r2.1))) r2.2 r3 hc3 H.size) (cwV 1 hts g_x_multiply_wholeOf_485 rfl rfl rfl hd_x_wholeOf ⟨Nat.le_of_ble_eq_true rfl, Nat.le_of_ble_eq_true rfl⟩) hK hG hA hP hD hS rfl hl.1 rfl (Nat.le_of_ble_eq_true rfl) dX12_multiply_164 ⟨Nat.le_refl _, Nat.le_refl _⟩ (fun H locs hP hD hS => ?_)
        cases h
        exact W.iret (v := r3.1) hx hb hr (fun t ht hW => ⟨⟨r3.1, (), rfl, rfl, by rw [ht]; exact hP, va_K.moved hW.alike hK, hD⟩, hS.F ht⟩) hS.2.2 dX12_multiply_167
  exact (blk k0).1 L0 J0 σ0 r0 h0 s.heap [] ls hP hD hS hl
/-! compareRows__46__43 -/
def x_compareRows__46__43 : Nat → Nat → (Nat → Int32) → MS → Option (Int32 × MS)
  | 0, _, _, _ => none
  | k + 1, 0, L, σ => x_compareRows__46__43 k 1 (upd (upd L 4 ((((L 1)) - ((L 3))))) 5 ((((L 1)) - 1))) σ
  | k + 1, 1, L, σ => if ((L 5)) < 0 then (x_compareRows__46__43 k 2 L σ) else (if ((L 4)) = 0 then (if ¬ (((L 5)) < 0 ∨ 140 ≤ ((L 5)).toNatClampNeg) then (if ¬ (((L 5)) < 0 ∨ 140 ≤ ((L 5)).toNatClampNeg) then (x_compareRows__46__43 k 1 (upd (upd L 4 ((((σ.2.2 46 ((L 5)).toNatClampNeg)) - ((σ.2.2 43 ((L 5)).toNatClampNeg))))) 5 (((L 5)) + (-1))) σ) else none) else none) else (x_compareRows__46__43 k 2 L σ))
  | k + 1, 2, L, σ => some ((L 4), σ)
  | _ + 1, _ + 3, _, _ => none
def o_x_compareRows__46__43 : List Cond := []
theorem o_x_compareRows__46__43_good : o_x_compareRows__46__43.all goodWord = true := by decide +kernel
def p_x_compareRows__46__43 : List Cond := o_x_compareRows__46__43 ++ []
theorem p_x_compareRows__46__43_good : p_x_compareRows__46__43.all goodWord = true := nb_all2 o_x_compareRows__46__43_good rfl
def w_x_compareRows__46__43 : List Cond := .code yX12_compareRows cX12_compareRows 6 (some .int) :: (p_x_compareRows__46__43 ++ fM)
theorem w_x_compareRows__46__43_good : w_x_compareRows__46__43.all goodWord = true := nb_allc (by decide +kernel) (nb_all2 p_x_compareRows__46__43_good fM_good)
theorem in_x_compareRows__46__43 : ∀ w ∈ wsX120, w ∈ w_x_compareRows__46__43 := fun _ h => List.mem_cons_of_mem _ (List.mem_append_right _ h)
theorem hd_x_compareRows__46__43 : yX12_compareRows.cls ≠ "java/lang/invoke/MethodHandle" ∧ yX12_compareRows.cls ≠ "java/lang/invoke/VarHandle" ∧ (parseMethodDescriptor yX12_compareRows.desc).map (fun d => d.parameters.length) = some 4 := by decide +kernel
set_option maxHeartbeats 40000000 in
set_option maxRecDepth 100000 in
theorem c_x_compareRows__46__43 (l : Launch) (dC : Nat → ClassId) (dI : Nat → Nat → Nat) (cy : Nat → ClassId) (a : Nat → Nat) (k0 : Nat) (L0 : Nat → Int32) (σ0 : MS) (r0 : Int32 × MS) (h0 : x_compareRows__46__43 k0 0 L0 σ0 = some r0) (sz : Nat) : Met l yX12_compareRows w_x_compareRows__46__43 ({ frames := 0, cells := 0, slots := 0, locals := 0 }) (va_Pc [.ref (a 46), .int (L0 1), .ref (a 43), .int (L0 3)] (nIn (dC, dI) cy sz (vM cy a σ0))) (va_Qi (fun (z : Int32) (_ : Unit) => z = r0.1) (fun _ t => nOut (dC, dI) cy (va_A (vM cy a σ0) sz) (vM cy a r0.2) t) (va_A (vM cy a σ0) sz)) 0 0 (va_A (vM cy a σ0) sz) := by
  refine Met.ofW (cc := cX12_compareRows) (maxL := 6) (ret := (some .int)) (by decide) rfl ?_
  intro p e s m args below meth c s₁ B hml hv
  obtain ⟨rfl, hsz, hP, hK, hD0, hG⟩ := hv
  have hx := B.exec
  have hb := B.bytes
  have hr := B.returns
  have hts := atoms_spec (ws := w_x_compareRows__46__43) B.pre
  have hown : s.vm.findClass RX12 = some m.cls := findClass_of_methodNamed B.named
  have hlocks := B.notSynchronized
  subst hsz
  have hD := hD0.self (sz := s.heap.size)
  generalize hAe : va_A (vM cy a σ0) s.heap.size = A at hD ⊢
  have hA : ∀ q : Nat, s.heap.size ≤ q → A q := fun q h => by rw [← hAe]; exact Or.inr h
  have hS : va_S A s.heap s.heap [] := va_S.rf
  have hl := lv_entry ([.ref (a 46), .int (L0 1), .ref (a 43), .int (L0 3)]) (n := 6) (Nat.le_of_ble_eq_true rfl)
  rw [lg_entry_eq]
  generalize (lg_sl ([.ref (a 46), .int (L0 1), .ref (a 43), .int (L0 3)]) ++ List.replicate (6 - (lg_sl ([.ref (a 46), .int (L0 1), .ref (a 43), .int (L0 3)])).length) Slot.unset).toArray = ls at hl ⊢
  have hl : lv_has ls 6 [(0, .ref (a 46)), (1, .int (L0 1)), (2, .ref (a 43)), (3, .int (L0 3))] := hl
  have blk : ∀ k : Nat, (bT p l e (headSpec w_x_compareRows__46__43 ({ frames := 0, cells := 0, slots := 0, locals := 0 })).room s m #[.ref (a 46), .int (L0 1), .ref (a 43), .int (L0 3)] below meth c dC dI cy a A (qI dC dI cy a A below #[.ref (a 46), .int (L0 1), .ref (a 43), .int (L0 3)] s) 6 (x_compareRows__46__43 k 0) (fun L => [(0, .ref (a 46)), (1, .int (L 1)), (2, .ref (a 43)), (3, .int (L 3))]) 0 (fun L => [])) ∧ (bT p l e (headSpec w_x_compareRows__46__43 ({ frames := 0, cells := 0, slots := 0, locals := 0 })).room s m #[.ref (a 46), .int (L0 1), .ref (a 43), .int (L0 3)] below meth c dC dI cy a A (qI dC dI cy a A below #[.ref (a 46), .int (L0 1), .ref (a 43), .int (L0 3)] s) 6 (x_compareRows__46__43 k 1) (fun L => [(0, .ref (a 46)), (1, .int (L 1)), (2, .ref (a 43)), (3, .int (L 3)), (4, .int (L 4)), (5, .int (L 5))]) 10 (fun L => [])) ∧ (bT p l e (headSpec w_x_compareRows__46__43 ({ frames := 0, cells := 0, slots := 0, locals := 0 })).room s m #[.ref (a 46), .int (L0 1), .ref (a 43), .int (L0 3)] below meth c dC dI cy a A (qI dC dI cy a A below #[.ref (a 46), .int (L0 1), .ref (a 43), .int (L0 3)] s) 6 (x_compareRows__46__43 k 2) (fun L => [(0, .ref (a 46)), (1, .int (L 1)), (2, .ref (a 43)), (3, .int (L 3)), (4, .int (L 4)), (5, .int (L 5))]) 37 (fun L => [])) := by
    intro k
    induction k with
    | zero => exact ⟨fun L σ r h => (by cases h), fun L σ r h => (by cases h), fun L σ r h => (by cases h)⟩
    | succ k ih =>
      refine ⟨?_, ?_, ?_⟩
      · intro L σ r h H locs ls hP hD hS hl
        rw [x_compareRows__46__43] at h
        refine lv_iload_n hx hb dX12_compareRows_0 rfl (lv_at hl 1 rfl) ?_
        refine lv_iload_n hx hb dX12_compareRows_1 rfl (lv_at hl 3 rfl) ?_
        refine lv_isub hx hb dX12_compareRows_2 ?_
        refine lv_istore (lv' := [(4, .int (((L 1)) - ((L 3)))), (0, .ref (a 46)), (1, .int (L 1)), (2, .ref (a 43)), (3, .int (L 3))]) hx hb dX12_compareRows_3 hl (by decide) rfl (fun ls hl => ?_)
        refine lv_iload_n hx hb dX12_compareRows_5 rfl (lv_at hl 2 rfl) ?_
        refine lv_iconst (v := 1) hx hb dX12_compareRows_6 (by decide) ?_
        refine lv_isub hx hb dX12_compareRows_7 ?_
        refine lv_istore (lv' := [(5, .int (((L 1)) - 1)), (4, .int (((L 1)) - ((L 3)))), (0, .ref (a 46)), (1, .int (L 1)), (2, .ref (a 43)), (3, .int (L 3))]) hx hb dX12_compareRows_8 hl (by decide) rfl (fun ls hl => ?_)
        exact ih.2.1 (upd (upd L 4 ((((L 1)) - ((L 3))))) 5 ((((L 1)) - 1))) σ r h H locs ls hP hD hS (lv_sub hl [2, 3, 4, 5, 1, 0] rfl)
      · intro L σ r h H locs ls hP hD hS hl
        rw [x_compareRows__46__43] at h
        refine lv_iload hx hb dX12_compareRows_10 (lv_at hl 5 rfl) ?_
        refine lv_if_lt (tgt := 37) hx hb dX12_compareRows_12 (by decide) (fun c1 => ?_) (fun c1 => ?_)
        · rw [if_pos c1] at h
          exact ih.2.2 L σ r h H locs ls hP hD hS (lv_sub hl [0, 1, 2, 3, 4, 5] rfl)
        · rw [if_neg c1] at h
          refine lv_iload hx hb dX12_compareRows_15 (lv_at hl 4 rfl) ?_
          refine lv_if_ne (tgt := 37) hx hb dX12_compareRows_17 (by decide) (fun c2 => ?_) (fun c2 => ?_)
          · rw [if_neg c2] at h
            exact ih.2.2 L σ r h H locs ls hP hD hS (lv_sub hl [0, 1, 2, 3, 4, 5] rfl)
          · rw [if_pos c2] at h
            refine lv_aload_n hx hb dX12_compareRows_20 rfl (lv_at hl 0 rfl) ?_
            refine lv_iload hx hb dX12_compareRows_21 (lv_at hl 5 rfl) ?_
            obtain ⟨q3, h⟩ := nb_ite1 h
            refine nl_46 hx hb hK hP q3 dX12_compareRows_23 ?_
            refine lv_aload_n hx hb dX12_compareRows_24 rfl (lv_at hl 2 rfl) ?_
            refine lv_iload hx hb dX12_compareRows_25 (lv_at hl 5 rfl) ?_
            obtain ⟨q4, h⟩ := nb_ite1 h
            refine nl_43 hx hb hK hP q4 dX12_compareRows_27 ?_
            refine lv_isub hx hb dX12_compareRows_28 ?_
            refine lv_istore (lv' := [(4, .int (((σ.2.2 46 ((L 5)).toNatClampNeg)) - ((σ.2.2 43 ((L 5)).toNatClampNeg)))), (0, .ref (a 46)), (1, .int (L 1)), (2, .ref (a 43)), (3, .int (L 3)), (5, .int (L 5))]) hx hb dX12_compareRows_29 hl (by decide) rfl (fun ls hl => ?_)
            refine lv_iinc (v := ((L 5)) + (-1)) (lv' := [(5, .int (((L 5)) + (-1))), (4, .int (((σ.2.2 46 ((L 5)).toNatClampNeg)) - ((σ.2.2 43 ((L 5)).toNatClampNeg)))), (0, .ref (a 46)), (1, .int (L 1)), (2, .ref (a 43)), (3, .int (L 3))]) hx hb dX12_compareRows_31 hl (k := 5) rfl rfl (by decide) rfl (fun ls hl => ?_)
            refine lv_goto (tgt := 10) hx hb dX12_compareRows_34 (by decide) ?_
            exact ih.2.1 (upd (upd L 4 ((((σ.2.2 46 ((L 5)).toNatClampNeg)) - ((σ.2.2 43 ((L 5)).toNatClampNeg))))) 5 (((L 5)) + (-1))) σ r h H locs ls hP hD hS (lv_sub hl [2, 3, 4, 5, 1, 0] rfl)
      · intro L σ r h H locs ls hP hD hS hl
        rw [x_compareRows__46__43] at h
        refine lv_iload hx hb dX12_compareRows_37 (lv_at hl 4 rfl) ?_
        cases h
        exact W.iret (v := (L 4)) hx hb hr (fun t ht hW => ⟨⟨(L 4), (), rfl, rfl, by rw [ht]; exact hP, va_K.moved hW.alike hK, hD⟩, hS.F ht⟩) hS.2.2 dX12_compareRows_39
  exact (blk k0).1 L0 σ0 r0 h0 s.heap [] ls hP hD hS hl
/-! divideRows -/
def x_divideRows : Nat → Nat → (Nat → Int32) → MS → Option (Int32 × MS)
  | 0, _, _, _ => none
  | k + 1, 0, L, σ => x_divideRows k 1 L (upd σ.1 89 ((σ.1 84)), σ.2.1, σ.2.2)
  | k + 1, 1, L, σ => x_divideRows k 2 L (upd σ.1 90 0, σ.2.1, σ.2.2)
  | k + 1, 2, L, σ => x_divideRows k 3 (upd L 1 0) σ
  | k + 1, 3, L, σ => if ((σ.1 84)) ≤ ((L 1)) then (x_divideRows k 5 L σ) else (if ¬ (((L 1)) < 0 ∨ 140 ≤ ((L 1)).toNatClampNeg) then (x_divideRows k 4 L (σ.1, σ.2.1, updG σ.2.2 45 (upd (σ.2.2 45) ((L 1)).toNatClampNeg 0))) else none)
  | k + 1, 4, L, σ => x_divideRows k 3 (upd L 1 (((L 1)) + 1)) σ
  | k + 1, 5, L, σ => x_divideRows k 6 (upd L 1 ((((16 * ((σ.1 84)))) - 1))) σ
  | k + 1, 6, L, σ => if ((L 1)) < 0 then (x_divideRows k 21 L σ) else (if ¬ (((((L 1)) >>> ((4 : Int32) &&& 31))) < 0 ∨ 140 ≤ ((((L 1)) >>> ((4 : Int32) &&& 31))).toNatClampNeg) then (x_divideRows k 7 (upd (upd L 2 ((((((σ.2.2 42 ((((L 1)) >>> ((4 : Int32) &&& 31))).toNatClampNeg)) >>> (((((L 1)) &&& 15)) &&& 31))) &&& 1))) 3 0) σ) else none)
  | k + 1, 7, L, σ => if ((σ.1 90)) ≤ ((L 3)) then (x_divideRows k 9 L σ) else (if ¬ (((L 3)) < 0 ∨ 140 ≤ ((L 3)).toNatClampNeg) then (if ¬ (((L 3)) < 0 ∨ 140 ≤ ((L 3)).toNatClampNeg) then (x_divideRows k 8 (upd L 4 ((((((σ.2.2 46 ((L 3)).toNatClampNeg)) <<< ((1 : Int32) &&& 31))) ||| ((L 2))))) (σ.1, σ.2.1, updG σ.2.2 46 (upd (σ.2.2 46) ((L 3)).toNatClampNeg ((((((((σ.2.2 46 ((L 3)).toNatClampNeg)) <<< ((1 : Int32) &&& 31))) ||| ((L 2)))) &&& 65535))))) else none) else none)
  | k + 1, 8, L, σ => x_divideRows k 7 (upd (upd L 2 ((((L 4)) >>> ((16 : Int32) &&& 31)))) 3 (((L 3)) + 1)) σ
  | k + 1, 9, L, σ => if ((L 2)) ≤ 0 then (x_divideRows k 11 L σ) else (if ¬ (((σ.1 90)) < 0 ∨ 140 ≤ ((σ.1 90)).toNatClampNeg) then (x_divideRows k 10 L (σ.1, σ.2.1, updG σ.2.2 46 (upd (σ.2.2 46) ((σ.1 90)).toNatClampNeg ((L 2))))) else none)
  | k + 1, 10, L, σ => x_divideRows k 11 L (upd σ.1 90 ((((σ.1 90)) + 1)), σ.2.1, σ.2.2)
  | k + 1, 11, L, σ => ob (x_compareRows__46__43 k 0 (upd (upd (fun _ => 0) 1 ((σ.1 90))) 3 ((σ.1 85))) σ) (fun r1 => if r1.1 < 0 then (x_divideRows k 20 L r1.2) else (x_divideRows k 12 (upd (upd L 3 0) 4 0) r1.2))
  | k + 1, 12, L, σ => if ((σ.1 90)) ≤ ((L 4)) then (x_divideRows k 18 L σ) else (if ¬ (((L 4)) < 0 ∨ 140 ≤ ((L 4)).toNatClampNeg) then (if ((σ.1 85)) ≤ ((L 4)) then (x_divideRows k 13 (upd L 100 ((σ.2.2 46 ((L 4)).toNatClampNeg))) σ) else (if ¬ (((L 4)) < 0 ∨ 140 ≤ ((L 4)).toNatClampNeg) then (x_divideRows k 14 (upd (upd L 100 ((σ.2.2 43 ((L 4)).toNatClampNeg))) 101 ((σ.2.2 46 ((L 4)).toNatClampNeg))) σ) else none)) else none)
  | k + 1, 13, L, σ => x_divideRows k 14 (upd (upd L 100 0) 101 ((L 100))) σ
  | k + 1, 14, L, σ => if 0 ≤ ((((((L 101)) - ((L 100)))) - ((L 3)))) then (x_divideRows k 15 (upd L 5 ((((((L 101)) - ((L 100)))) - ((L 3))))) σ) else (x_divideRows k 16 (upd (upd L 5 ((((((L 101)) - ((L 100)))) - ((L 3))))) 100 1) σ)
  | k + 1, 15, L, σ => x_divideRows k 16 (upd L 100 0) σ
  | k + 1, 16, L, σ => if ¬ (((L 4)) < 0 ∨ 140 ≤ ((L 4)).toNatClampNeg) then (x_divideRows k 17 (upd L 3 ((L 100))) (σ.1, σ.2.1, updG σ.2.2 46 (upd (σ.2.2 46) ((L 4)).toNatClampNeg ((((L 5)) &&& 65535))))) else none
  | k + 1, 17, L, σ => x_divideRows k 12 (upd L 4 (((L 4)) + 1)) σ
  | k + 1, 18, L, σ => if ((σ.1 90)) ≤ 0 then (x_divideRows k 19 L σ) else (if ¬ (((((σ.1 90)) - 1)) < 0 ∨ 140 ≤ ((((σ.1 90)) - 1)).toNatClampNeg) then (if ((σ.2.2 46 ((((σ.1 90)) - 1)).toNatClampNeg)) = 0 then (x_divideRows k 18 L (upd σ.1 90 ((((σ.1 90)) - 1)), σ.2.1, σ.2.2)) else (x_divideRows k 19 L σ)) else none)
  | k + 1, 19, L, σ => if ¬ (((((L 1)) >>> ((4 : Int32) &&& 31))) < 0 ∨ 140 ≤ ((((L 1)) >>> ((4 : Int32) &&& 31))).toNatClampNeg) then (if ¬ (((((L 1)) >>> ((4 : Int32) &&& 31))) < 0 ∨ 140 ≤ ((((L 1)) >>> ((4 : Int32) &&& 31))).toNatClampNeg) then (x_divideRows k 20 L (σ.1, σ.2.1, updG σ.2.2 45 (upd (σ.2.2 45) ((((L 1)) >>> ((4 : Int32) &&& 31))).toNatClampNeg ((((σ.2.2 45 ((((L 1)) >>> ((4 : Int32) &&& 31))).toNatClampNeg)) ||| (((1 : Int32) <<< (((((L 1)) &&& 15)) &&& 31)))))))) else none) else none
  | k + 1, 20, L, σ => x_divideRows k 6 (upd L 1 (((L 1)) + (-1))) σ
  | k + 1, 21, L, σ => some (0, σ)
  | _ + 1, _ + 22, _, _ => none
def o_x_divideRows : List Cond := [.fieldLink RX12 466 "SetHouseModel" "na" "I", .fieldLink RX12 500 "SetHouseModel" "nq" "I", .fieldLink RX12 503 "SetHouseModel" "nr" "I", .fieldLink RX12 506 "SetHouseModel" "quotient" "[I", .fieldLink RX12 469 "SetHouseModel" "ra" "[I", .fieldLink RX12 509 "SetHouseModel" "rest" "[I", .constant RX12 484 (65535), .fieldLink RX12 475 "SetHouseModel" "rb" "[I", .fieldLink RX12 472 "SetHouseModel" "nb" "I", .methodLink RX12 494 yX12_compareRows, .static yX12_compareRows, .initialized RX12]
theorem o_x_divideRows_good : o_x_divideRows.all goodWord = true := by decide +kernel
def p_x_divideRows : List Cond := o_x_divideRows ++ ((.code yX12_compareRows cX12_compareRows 6 (some .int) :: p_x_compareRows__46__43) ++ [])
theorem p_x_divideRows_good : p_x_divideRows.all goodWord = true := nb_all2 o_x_divideRows_good (nb_all2 (nb_allc (by decide +kernel) p_x_compareRows__46__43_good) rfl)
def w_x_divideRows : List Cond := .code yX12_divideRows cX12_divideRows 6 none :: (p_x_divideRows ++ fM)
theorem w_x_divideRows_good : w_x_divideRows.all goodWord = true := nb_allc (by decide +kernel) (nb_all2 p_x_divideRows_good fM_good)
theorem in_x_divideRows : ∀ w ∈ wsX120, w ∈ w_x_divideRows := fun _ h => List.mem_cons_of_mem _ (List.mem_append_right _ h)
theorem hd_x_divideRows : yX12_divideRows.cls = RX12 ∧ yX12_divideRows.cls ≠ "java/lang/invoke/MethodHandle" ∧ yX12_divideRows.cls ≠ "java/lang/invoke/VarHandle" ∧ (parseMethodDescriptor yX12_divideRows.desc).map (fun d => d.parameters.length) = some 0 := by decide +kernel
theorem gg_x_divideRows_compareRows__46__43 : GoodIn w_x_divideRows w_x_compareRows__46__43 := goodIn_sub (fun w h => (List.mem_cons.mp h).elim (fun e => (List.mem_cons_of_mem _ (List.mem_append_left _ (List.mem_append_right _ (List.mem_append_left _ (List.mem_cons.mpr (Or.inl e))))))) (fun h => (List.mem_append.mp h).elim (fun h => (List.mem_cons_of_mem _ (List.mem_append_left _ (List.mem_append_right _ (List.mem_append_left _ (List.mem_cons_of_mem _ h)))))) (fun h => List.mem_cons_of_mem _ (List.mem_append_right _ h)))) w_x_compareRows__46__43_good
theorem g_x_divideRows_compareRows__46__43_494 : GoodIn w_x_divideRows (va_wsS RX12 494 yX12_compareRows w_x_compareRows__46__43) := goodIn_app (nb_g3 (List.mem_cons_of_mem _ (List.mem_append_left _ (List.mem_append_left _ (List.mem_of_getElem? (i := 9) rfl)))) (List.mem_cons_of_mem _ (List.mem_append_left _ (List.mem_append_left _ (List.mem_of_getElem? (i := 10) rfl)))) (List.mem_cons_of_mem _ (List.mem_append_left _ (List.mem_append_left _ (List.mem_of_getElem? (i := 11) rfl)))) (by decide +kernel)) gg_x_divideRows_compareRows__46__43
set_option maxHeartbeats 40000000 in
set_option maxRecDepth 100000 in
theorem c_x_divideRows (l : Launch) (dC : Nat → ClassId) (dI : Nat → Nat → Nat) (cy : Nat → ClassId) (a : Nat → Nat) (k0 : Nat) (L0 : Nat → Int32) (σ0 : MS) (r0 : Int32 × MS) (h0 : x_divideRows k0 0 L0 σ0 = some r0) (sz : Nat) : Met l yX12_divideRows w_x_divideRows ({ frames := 1, cells := 0, slots := 0, locals := 25 }) (va_Pc [.ref (a 0)] (nIn (dC, dI) cy sz (vM cy a σ0))) (va_Qv (fun _ : Unit => True) (fun _ t => nOut (dC, dI) cy (va_A (vM cy a σ0) sz) (vM cy a r0.2) t) (va_A (vM cy a σ0) sz)) 0 0 (va_A (vM cy a σ0) sz) := by
  refine Met.ofW (cc := cX12_divideRows) (maxL := 6) (ret := none) (by decide) rfl ?_
  intro p e s m args below meth c s₁ B hml hv
  obtain ⟨rfl, hsz, hP, hK, hD0, hG⟩ := hv
  have hx := B.exec
  have hb := B.bytes
  have hr := B.returns
  have hts := atoms_spec (ws := w_x_divideRows) B.pre
  have hown : s.vm.findClass RX12 = some m.cls := findClass_of_methodNamed B.named
  have hlocks := B.notSynchronized
  subst hsz
  have hD := hD0.self (sz := s.heap.size)
  generalize hAe : va_A (vM cy a σ0) s.heap.size = A at hD ⊢
  have hA : ∀ q : Nat, s.heap.size ≤ q → A q := fun q h => by rw [← hAe]; exact Or.inr h
  have hS : va_S A s.heap s.heap [] := va_S.rf
  have hl := lv_entry ([.ref (a 0)]) (n := 6) (Nat.le_of_ble_eq_true rfl)
  rw [lg_entry_eq]
  generalize (lg_sl ([.ref (a 0)]) ++ List.replicate (6 - (lg_sl ([.ref (a 0)])).length) Slot.unset).toArray = ls at hl ⊢
  have hl : lv_has ls 6 [(0, .ref (a 0))] := hl
  have blk : ∀ k : Nat, (bT p l e (headSpec w_x_divideRows ({ frames := 1, cells := 0, slots := 0, locals := 25 })).room s m #[.ref (a 0)] below meth c dC dI cy a A (qV dC dI cy a A below #[.ref (a 0)] s) 6 (x_divideRows k 0) (fun L => [(0, .ref (a 0))]) 0 (fun L => [])) ∧ (bT p l e (headSpec w_x_divideRows ({ frames := 1, cells := 0, slots := 0, locals := 25 })).room s m #[.ref (a 0)] below meth c dC dI cy a A (qV dC dI cy a A below #[.ref (a 0)] s) 6 (x_divideRows k 1) (fun L => [(0, .ref (a 0))]) 8 (fun L => [])) ∧ (bT p l e (headSpec w_x_divideRows ({ frames := 1, cells := 0, slots := 0, locals := 25 })).room s m #[.ref (a 0)] below meth c dC dI cy a A (qV dC dI cy a A below #[.ref (a 0)] s) 6 (x_divideRows k 2) (fun L => [(0, .ref (a 0))]) 13 (fun L => [])) ∧ (bT p l e (headSpec w_x_divideRows ({ frames := 1, cells := 0, slots := 0, locals := 25 })).room s m #[.ref (a 0)] below meth c dC dI cy a A (qV dC dI cy a A below #[.ref (a 0)] s) 6 (x_divideRows k 3) (fun L => [(0, .ref (a 0)), (1, .int (L 1))]) 15 (fun L => [])) ∧ (bT p l e (headSpec w_x_divideRows ({ frames := 1, cells := 0, slots := 0, locals := 25 })).room s m #[.ref (a 0)] below meth c dC dI cy a A (qV dC dI cy a A below #[.ref (a 0)] s) 6 (x_divideRows k 4) (fun L => [(0, .ref (a 0)), (1, .int (L 1))]) 30 (fun L => [])) ∧ (bT p l e (headSpec w_x_divideRows ({ frames := 1, cells := 0, slots := 0, locals := 25 })).room s m #[.ref (a 0)] below meth c dC dI cy a A (qV dC dI cy a A below #[.ref (a 0)] s) 6 (x_divideRows k 5) (fun L => [(0, .ref (a 0)), (1, .int (L 1))]) 36 (fun L => [])) ∧ (bT p l e (headSpec w_x_divideRows ({ frames := 1, cells := 0, slots := 0, locals := 25 })).room s m #[.ref (a 0)] below meth c dC dI cy a A (qV dC dI cy a A below #[.ref (a 0)] s) 6 (x_divideRows k 6) (fun L => [(0, .ref (a 0)), (1, .int (L 1))]) 46 (fun L => [])) ∧ (bT p l e (headSpec w_x_divideRows ({ frames := 1, cells := 0, slots := 0, locals := 25 })).room s m #[.ref (a 0)] below meth c dC dI cy a A (qV dC dI cy a A below #[.ref (a 0)] s) 6 (x_divideRows k 7) (fun L => [(0, .ref (a 0)), (1, .int (L 1)), (2, .int (L 2)), (3, .int (L 3))]) 68 (fun L => [])) ∧ (bT p l e (headSpec w_x_divideRows ({ frames := 1, cells := 0, slots := 0, locals := 25 })).room s m #[.ref (a 0)] below meth c dC dI cy a A (qV dC dI cy a A below #[.ref (a 0)] s) 6 (x_divideRows k 8) (fun L => [(0, .ref (a 0)), (1, .int (L 1)), (2, .int (L 2)), (3, .int (L 3)), (4, .int (L 4))]) 100 (fun L => [])) ∧ (bT p l e (headSpec w_x_divideRows ({ frames := 1, cells := 0, slots := 0, locals := 25 })).room s m #[.ref (a 0)] below meth c dC dI cy a A (qV dC dI cy a A below #[.ref (a 0)] s) 6 (x_divideRows k 9) (fun L => [(0, .ref (a 0)), (1, .int (L 1)), (2, .int (L 2)), (3, .int (L 3))]) 112 (fun L => [])) ∧ (bT p l e (headSpec w_x_divideRows ({ frames := 1, cells := 0, slots := 0, locals := 25 })).room s m #[.ref (a 0)] below meth c dC dI cy a A (qV dC dI cy a A below #[.ref (a 0)] s) 6 (x_divideRows k 10) (fun L => [(0, .ref (a 0)), (1, .int (L 1)), (2, .int (L 2)), (3, .int (L 3))]) 126 (fun L => [])) ∧ (bT p l e (headSpec w_x_divideRows ({ frames := 1, cells := 0, slots := 0, locals := 25 })).room s m #[.ref (a 0)] below meth c dC dI cy a A (qV dC dI cy a A below #[.ref (a 0)] s) 6 (x_divideRows k 11) (fun L => [(0, .ref (a 0)), (1, .int (L 1)), (2, .int (L 2)), (3, .int (L 3))]) 136 (fun L => [])) ∧ (bT p l e (headSpec w_x_divideRows ({ frames := 1, cells := 0, slots := 0, locals := 25 })).room s m #[.ref (a 0)] below meth c dC dI cy a A (qV dC dI cy a A below #[.ref (a 0)] s) 6 (x_divideRows k 12) (fun L => [(0, .ref (a 0)), (1, .int (L 1)), (2, .int (L 2)), (3, .int (L 3)), (4, .int (L 4))]) 163 (fun L => [])) ∧ (bT p l e (headSpec w_x_divideRows ({ frames := 1, cells := 0, slots := 0, locals := 25 })).room s m #[.ref (a 0)] below meth c dC dI cy a A (qV dC dI cy a A below #[.ref (a 0)] s) 6 (x_divideRows k 13) (fun L => [(0, .ref (a 0)), (1, .int (L 1)), (2, .int (L 2)), (3, .int (L 3)), (4, .int (L 4))]) 198 (fun L => [.int (L 100)])) ∧ (bT p l e (headSpec w_x_divideRows ({ frames := 1, cells := 0, slots := 0, locals := 25 })).room s m #[.ref (a 0)] below meth c dC dI cy a A (qV dC dI cy a A below #[.ref (a 0)] s) 6 (x_divideRows k 14) (fun L => [(0, .ref (a 0)), (1, .int (L 1)), (2, .int (L 2)), (3, .int (L 3)), (4, .int (L 4))]) 199 (fun L => [.int (L 100), .int (L 101)])) ∧ (bT p l e (headSpec w_x_divideRows ({ frames := 1, cells := 0, slots := 0, locals := 25 })).room s m #[.ref (a 0)] below meth c dC dI cy a A (qV dC dI cy a A below #[.ref (a 0)] s) 6 (x_divideRows k 15) (fun L => [(0, .ref (a 0)), (1, .int (L 1)), (2, .int (L 2)), (3, .int (L 3)), (4, .int (L 4)), (5, .int (L 5))]) 213 (fun L => [])) ∧ (bT p l e (headSpec w_x_divideRows ({ frames := 1, cells := 0, slots := 0, locals := 25 })).room s m #[.ref (a 0)] below meth c dC dI cy a A (qV dC dI cy a A below #[.ref (a 0)] s) 6 (x_divideRows k 16) (fun L => [(0, .ref (a 0)), (1, .int (L 1)), (2, .int (L 2)), (3, .int (L 3)), (4, .int (L 4)), (5, .int (L 5))]) 214 (fun L => [.int (L 100)])) ∧ (bT p l e (headSpec w_x_divideRows ({ frames := 1, cells := 0, slots := 0, locals := 25 })).room s m #[.ref (a 0)] below meth c dC dI cy a A (qV dC dI cy a A below #[.ref (a 0)] s) 6 (x_divideRows k 17) (fun L => [(0, .ref (a 0)), (1, .int (L 1)), (2, .int (L 2)), (3, .int (L 3)), (4, .int (L 4)), (5, .int (L 5))]) 228 (fun L => [])) ∧ (bT p l e (headSpec w_x_divideRows ({ frames := 1, cells := 0, slots := 0, locals := 25 })).room s m #[.ref (a 0)] below meth c dC dI cy a A (qV dC dI cy a A below #[.ref (a 0)] s) 6 (x_divideRows k 18) (fun L => [(0, .ref (a 0)), (1, .int (L 1)), (2, .int (L 2)), (3, .int (L 3)), (4, .int (L 4))]) 234 (fun L => [])) ∧ (bT p l e (headSpec w_x_divideRows ({ frames := 1, cells := 0, slots := 0, locals := 25 })).room s m #[.ref (a 0)] below meth c dC dI cy a A (qV dC dI cy a A below #[.ref (a 0)] s) 6 (x_divideRows k 19) (fun L => [(0, .ref (a 0)), (1, .int (L 1)), (2, .int (L 2)), (3, .int (L 3)), (4, .int (L 4))]) 268 (fun L => [])) ∧ (bT p l e (headSpec w_x_divideRows ({ frames := 1, cells := 0, slots := 0, locals := 25 })).room s m #[.ref (a 0)] below meth c dC dI cy a A (qV dC dI cy a A below #[.ref (a 0)] s) 6 (x_divideRows k 20) (fun L => [(0, .ref (a 0)), (1, .int (L 1)), (2, .int (L 2)), (3, .int (L 3))]) 285 (fun L => [])) ∧ (bT p l e (headSpec w_x_divideRows ({ frames := 1, cells := 0, slots := 0, locals := 25 })).room s m #[.ref (a 0)] below meth c dC dI cy a A (qV dC dI cy a A below #[.ref (a 0)] s) 6 (x_divideRows k 21) (fun L => [(0, .ref (a 0)), (1, .int (L 1))]) 291 (fun L => [])) := by
    intro k
    induction k with
    | zero => exact ⟨fun L σ r h => (by cases h), fun L σ r h => (by cases h), fun L σ r h => (by cases h), fun L σ r h => (by cases h), fun L σ r h => (by cases h), fun L σ r h => (by cases h), fun L σ r h => (by cases h), fun L σ r h => (by cases h), fun L σ r h => (by cases h), fun L σ r h => (by cases h), fun L σ r h => (by cases h), fun L σ r h => (by cases h), fun L σ r h => (by cases h), fun L σ r h => (by cases h), fun L σ r h => (by cases h), fun L σ r h => (by cases h), fun L σ r h => (by cases h), fun L σ r h => (by cases h), fun L σ r h => (by cases h), fun L σ r h => (by cases h), fun L σ r h => (by cases h), fun L σ r h => (by cases h)⟩
    | succ k ih =>
      refine ⟨?_, ?_, ?_, ?_, ?_, ?_, ?_, ?_, ?_, ?_, ?_, ?_, ?_, ?_, ?_, ?_, ?_, ?_, ?_, ?_, ?_, ?_⟩
      · intro L σ r h H locs ls hP hD hS hl
        rw [x_divideRows] at h
        refine lv_aload_n hx hb dX12_divideRows_0 rfl (lv_at hl 0 rfl) ?_
        refine lv_aload_n hx hb dX12_divideRows_1 rfl (lv_at hl 0 rfl) ?_
        refine ng_84 hx hb hts in_x_divideRows hown hK hP (hts _ (List.mem_cons_of_mem _ (List.mem_append_left _ (List.mem_append_left _ (List.mem_of_getElem? (i := 0) rfl))))) dX12_divideRows_2 ?_
        refine np_89 hx hb hts in_x_divideRows hown hK hP hD hS (hts _ (List.mem_cons_of_mem _ (List.mem_append_left _ (List.mem_append_left _ (List.mem_of_getElem? (i := 1) rfl))))) dX12_divideRows_5 (fun H locs hP hD hS => ?_)
        exact ih.2.1 L (upd σ.1 89 ((σ.1 84)), σ.2.1, σ.2.2) r h H locs ls hP hD hS (lv_sub hl [0] rfl)
      · intro L σ r h H locs ls hP hD hS hl
        rw [x_divideRows] at h
        refine lv_aload_n hx hb dX12_divideRows_8 rfl (lv_at hl 0 rfl) ?_
        refine lv_iconst (v := 0) hx hb dX12_divideRows_9 (by decide) ?_
        refine np_90 hx hb hts in_x_divideRows hown hK hP hD hS (hts _ (List.mem_cons_of_mem _ (List.mem_append_left _ (List.mem_append_left _ (List.mem_of_getElem? (i := 2) rfl))))) dX12_divideRows_10 (fun H locs hP hD hS => ?_)
        exact ih.2.2.1 L (upd σ.1 90 0, σ.2.1, σ.2.2) r h H locs ls hP hD hS (lv_sub hl [0] rfl)
      · intro L σ r h H locs ls hP hD hS hl
        rw [x_divideRows] at h
        refine lv_iconst (v := 0) hx hb dX12_divideRows_13 (by decide) ?_
        refine lv_istore_n (lv' := [(1, .int 0), (0, .ref (a 0))]) hx hb dX12_divideRows_14 rfl hl (by decide) rfl (fun ls hl => ?_)
        exact ih.2.2.2.1 (upd L 1 0) σ r h H locs ls hP hD hS (lv_sub hl [1, 0] rfl)
      · intro L σ r h H locs ls hP hD hS hl
        rw [x_divideRows] at h
        refine lv_iload_n hx hb dX12_divideRows_15 rfl (lv_at hl 1 rfl) ?_
        refine lv_aload_n hx hb dX12_divideRows_16 rfl (lv_at hl 0 rfl) ?_
        refine ng_84 hx hb hts in_x_divideRows hown hK hP (hts _ (List.mem_cons_of_mem _ (List.mem_append_left _ (List.mem_append_left _ (List.mem_of_getElem? (i := 0) rfl))))) dX12_divideRows_17 ?_
        refine lv_icmp_ge (tgt := 36) hx hb dX12_divideRows_20 (by decide) (fun c1 => ?_) (fun c1 => ?_)
        · rw [if_pos c1] at h
          exact ih.2.2.2.2.2.1 L σ r h H locs ls hP hD hS (lv_sub hl [0, 1] rfl)
        · rw [if_neg c1] at h
          refine lv_aload_n hx hb dX12_divideRows_23 rfl (lv_at hl 0 rfl) ?_
          refine ng_87 hx hb hts in_x_divideRows hown hK hP (hts _ (List.mem_cons_of_mem _ (List.mem_append_left _ (List.mem_append_left _ (List.mem_of_getElem? (i := 3) rfl))))) dX12_divideRows_24 ?_
          refine lv_iload_n hx hb dX12_divideRows_27 rfl (lv_at hl 1 rfl) ?_
          refine lv_iconst (v := 0) hx hb dX12_divideRows_28 (by decide) ?_
          obtain ⟨q2, h⟩ := nb_ite1 h
          refine ns_45 hx hb hK hP hD hS q2 dX12_divideRows_29 (fun H locs hP hD hS => ?_)
          exact ih.2.2.2.2.1 L (σ.1, σ.2.1, updG σ.2.2 45 (upd (σ.2.2 45) ((L 1)).toNatClampNeg 0)) r h H locs ls hP hD hS (lv_sub hl [0, 1] rfl)
      · intro L σ r h H locs ls hP hD hS hl
        rw [x_divideRows] at h
        refine lv_iinc (v := ((L 1)) + 1) (lv' := [(1, .int (((L 1)) + 1)), (0, .ref (a 0))]) hx hb dX12_divideRows_30 hl (k := 1) rfl rfl (by decide) rfl (fun ls hl => ?_)
        refine lv_goto (tgt := 15) hx hb dX12_divideRows_33 (by decide) ?_
        exact ih.2.2.2.1 (upd L 1 (((L 1)) + 1)) σ r h H locs ls hP hD hS (lv_sub hl [1, 0] rfl)
      · intro L σ r h H locs ls hP hD hS hl
        rw [x_divideRows] at h
        refine lv_bipush (v := 16) hx hb dX12_divideRows_36 (by decide) ?_
        refine lv_aload_n hx hb dX12_divideRows_38 rfl (lv_at hl 0 rfl) ?_
        refine ng_84 hx hb hts in_x_divideRows hown hK hP (hts _ (List.mem_cons_of_mem _ (List.mem_append_left _ (List.mem_append_left _ (List.mem_of_getElem? (i := 0) rfl))))) dX12_divideRows_39 ?_
        refine lv_imul hx hb dX12_divideRows_42 ?_
        refine lv_iconst (v := 1) hx hb dX12_divideRows_43 (by decide) ?_
        refine lv_isub hx hb dX12_divideRows_44 ?_
        refine lv_istore_n (lv' := [(1, .int (((16 * ((σ.1 84)))) - 1)), (0, .ref (a 0))]) hx hb dX12_divideRows_45 rfl hl (by decide) rfl (fun ls hl => ?_)
        exact ih.2.2.2.2.2.2.1 (upd L 1 ((((16 * ((σ.1 84)))) - 1))) σ r h H locs ls hP hD hS (lv_sub hl [1, 0] rfl)
      · intro L σ r h H locs ls hP hD hS hl
        rw [x_divideRows] at h
        refine lv_iload_n hx hb dX12_divideRows_46 rfl (lv_at hl 1 rfl) ?_
        refine lv_if_lt (tgt := 291) hx hb dX12_divideRows_47 (by decide) (fun c1 => ?_) (fun c1 => ?_)
        · rw [if_pos c1] at h
          exact ih.2.2.2.2.2.2.2.2.2.2.2.2.2.2.2.2.2.2.2.2.2 L σ r h H locs ls hP hD hS (lv_sub hl [0, 1] rfl)
        · rw [if_neg c1] at h
          refine lv_aload_n hx hb dX12_divideRows_50 rfl (lv_at hl 0 rfl) ?_
          refine ng_81 hx hb hts in_x_divideRows hown hK hP (hts _ (List.mem_cons_of_mem _ (List.mem_append_left _ (List.mem_append_left _ (List.mem_of_getElem? (i := 4) rfl))))) dX12_divideRows_51 ?_
          refine lv_iload_n hx hb dX12_divideRows_54 rfl (lv_at hl 1 rfl) ?_
          refine lv_iconst (v := 4) hx hb dX12_divideRows_55 (by decide) ?_
          refine lv_ishr hx hb dX12_divideRows_56 ?_
          obtain ⟨q2, h⟩ := nb_ite1 h
          refine nl_42 hx hb hK hP q2 dX12_divideRows_57 ?_
          refine lv_iload_n hx hb dX12_divideRows_58 rfl (lv_at hl 1 rfl) ?_
          refine lv_bipush (v := 15) hx hb dX12_divideRows_59 (by decide) ?_
          refine lv_iand hx hb dX12_divideRows_61 ?_
          refine lv_ishr hx hb dX12_divideRows_62 ?_
          refine lv_iconst (v := 1) hx hb dX12_divideRows_63 (by decide) ?_
          refine lv_iand hx hb dX12_divideRows_64 ?_
          refine lv_istore_n (lv' := [(2, .int (((((σ.2.2 42 ((((L 1)) >>> ((4 : Int32) &&& 31))).toNatClampNeg)) >>> (((((L 1)) &&& 15)) &&& 31))) &&& 1)), (0, .ref (a 0)), (1, .int (L 1))]) hx hb dX12_divideRows_65 rfl hl (by decide) rfl (fun ls hl => ?_)
          refine lv_iconst (v := 0) hx hb dX12_divideRows_66 (by decide) ?_
          refine lv_istore_n (lv' := [(3, .int 0), (2, .int (((((σ.2.2 42 ((((L 1)) >>> ((4 : Int32) &&& 31))).toNatClampNeg)) >>> (((((L 1)) &&& 15)) &&& 31))) &&& 1)), (0, .ref (a 0)), (1, .int (L 1))]) hx hb dX12_divideRows_67 rfl hl (by decide) rfl (fun ls hl => ?_)
          exact ih.2.2.2.2.2.2.2.1 (upd (upd L 2 ((((((σ.2.2 42 ((((L 1)) >>> ((4 : Int32) &&& 31))).toNatClampNeg)) >>> (((((L 1)) &&& 15)) &&& 31))) &&& 1))) 3 0) σ r h H locs ls hP hD hS (lv_sub hl [2, 3, 1, 0] rfl)
      · intro L σ r h H locs ls hP hD hS hl
        rw [x_divideRows] at h
        refine lv_iload_n hx hb dX12_divideRows_68 rfl (lv_at hl 3 rfl) ?_
        refine lv_aload_n hx hb dX12_divideRows_69 rfl (lv_at hl 0 rfl) ?_
        refine ng_90 hx hb hts in_x_divideRows hown hK hP (hts _ (List.mem_cons_of_mem _ (List.mem_append_left _ (List.mem_append_left _ (List.mem_of_getElem? (i := 2) rfl))))) dX12_divideRows_70 ?_
        refine lv_icmp_ge (tgt := 112) hx hb dX12_divideRows_73 (by decide) (fun c1 => ?_) (fun c1 => ?_)
        · rw [if_pos c1] at h
          exact ih.2.2.2.2.2.2.2.2.2.1 L σ r h H locs ls hP hD hS (lv_sub hl [0, 1, 2, 3] rfl)
        · rw [if_neg c1] at h
          refine lv_aload_n hx hb dX12_divideRows_76 rfl (lv_at hl 0 rfl) ?_
          refine ng_88 hx hb hts in_x_divideRows hown hK hP (hts _ (List.mem_cons_of_mem _ (List.mem_append_left _ (List.mem_append_left _ (List.mem_of_getElem? (i := 5) rfl))))) dX12_divideRows_77 ?_
          refine lv_iload_n hx hb dX12_divideRows_80 rfl (lv_at hl 3 rfl) ?_
          obtain ⟨q2, h⟩ := nb_ite1 h
          refine nl_46 hx hb hK hP q2 dX12_divideRows_81 ?_
          refine lv_iconst (v := 1) hx hb dX12_divideRows_82 (by decide) ?_
          refine lv_ishl hx hb dX12_divideRows_83 ?_
          refine lv_iload_n hx hb dX12_divideRows_84 rfl (lv_at hl 2 rfl) ?_
          refine lv_ior hx hb dX12_divideRows_85 ?_
          refine lv_istore (lv' := [(4, .int (((((σ.2.2 46 ((L 3)).toNatClampNeg)) <<< ((1 : Int32) &&& 31))) ||| ((L 2)))), (0, .ref (a 0)), (1, .int (L 1)), (2, .int (L 2)), (3, .int (L 3))]) hx hb dX12_divideRows_86 hl (by decide) rfl (fun ls hl => ?_)
          refine lv_aload_n hx hb dX12_divideRows_88 rfl (lv_at hl 1 rfl) ?_
          refine ng_88 hx hb hts in_x_divideRows hown hK hP (hts _ (List.mem_cons_of_mem _ (List.mem_append_left _ (List.mem_append_left _ (List.mem_of_getElem? (i := 5) rfl))))) dX12_divideRows_89 ?_
          refine lv_iload_n hx hb dX12_divideRows_92 rfl (lv_at hl 4 rfl) ?_
          refine lv_iload hx hb dX12_divideRows_93 (lv_at hl 0 rfl) ?_
          refine lv_ldcw (v := 65535) hx hb hown (hts _ (List.mem_cons_of_mem _ (List.mem_append_left _ (List.mem_append_left _ (List.mem_of_getElem? (i := 6) rfl))))) dX12_divideRows_95 ?_
          refine lv_iand hx hb dX12_divideRows_98 ?_
          obtain ⟨q3, h⟩ := nb_ite1 h
          refine ns_46 hx hb hK hP hD hS q3 dX12_divideRows_99 (fun H locs hP hD hS => ?_)
          exact ih.2.2.2.2.2.2.2.2.1 (upd L 4 ((((((σ.2.2 46 ((L 3)).toNatClampNeg)) <<< ((1 : Int32) &&& 31))) ||| ((L 2))))) (σ.1, σ.2.1, updG σ.2.2 46 (upd (σ.2.2 46) ((L 3)).toNatClampNeg ((((((((σ.2.2 46 ((L 3)).toNatClampNeg)) <<< ((1 : Int32) &&& 31))) ||| ((L 2)))) &&& 65535)))) r h H locs ls hP hD hS (lv_sub hl [1, 2, 3, 4, 0] rfl)
      · intro L σ r h H locs ls hP hD hS hl
        rw [x_divideRows] at h
        refine lv_iload hx hb dX12_divideRows_100 (lv_at hl 4 rfl) ?_
        refine lv_bipush (v := 16) hx hb dX12_divideRows_102 (by decide) ?_
        refine lv_ishr hx hb dX12_divideRows_104 ?_
        refine lv_istore_n (lv' := [(2, .int (((L 4)) >>> ((16 : Int32) &&& 31))), (0, .ref (a 0)), (1, .int (L 1)), (3, .int (L 3)), (4, .int (L 4))]) hx hb dX12_divideRows_105 rfl hl (by decide) rfl (fun ls hl => ?_)
        refine lv_iinc (v := ((L 3)) + 1) (lv' := [(3, .int (((L 3)) + 1)), (2, .int (((L 4)) >>> ((16 : Int32) &&& 31))), (0, .ref (a 0)), (1, .int (L 1)), (4, .int (L 4))]) hx hb dX12_divideRows_106 hl (k := 3) rfl rfl (by decide) rfl (fun ls hl => ?_)
        refine lv_goto (tgt := 68) hx hb dX12_divideRows_109 (by decide) ?_
        exact ih.2.2.2.2.2.2.2.1 (upd (upd L 2 ((((L 4)) >>> ((16 : Int32) &&& 31)))) 3 (((L 3)) + 1)) σ r h H locs ls hP hD hS (lv_sub hl [2, 3, 1, 0] rfl)
      · intro L σ r h H locs ls hP hD hS hl
        rw [x_divideRows] at h
        refine lv_iload_n hx hb dX12_divideRows_112 rfl (lv_at hl 2 rfl) ?_
        refine lv_if_le (tgt := 136) hx hb dX12_divideRows_113 (by decide) (fun c1 => ?_) (fun c1 => ?_)
        · rw [if_pos c1] at h
          exact ih.2.2.2.2.2.2.2.2.2.2.2.1 L σ r h H locs ls hP hD hS (lv_sub hl [0, 1, 2, 3] rfl)
        · rw [if_neg c1] at h
          refine lv_aload_n hx hb dX12_divideRows_116 rfl (lv_at hl 0 rfl) ?_
          refine ng_88 hx hb hts in_x_divideRows hown hK hP (hts _ (List.mem_cons_of_mem _ (List.mem_append_left _ (List.mem_append_left _ (List.mem_of_getElem? (i := 5) rfl))))) dX12_divideRows_117 ?_
          refine lv_aload_n hx hb dX12_divideRows_120 rfl (lv_at hl 0 rfl) ?_
          refine ng_90 hx hb hts in_x_divideRows hown hK hP (hts _ (List.mem_cons_of_mem _ (List.mem_append_left _ (List.mem_append_left _ (List.mem_of_getElem? (i := 2) rfl))))) dX12_divideRows_121 ?_
          refine lv_iload_n hx hb dX12_divideRows_124 rfl (lv_at hl 2 rfl) ?_
          obtain ⟨q2, h⟩ := nb_ite1 h
          refine ns_46 hx hb hK hP hD hS q2 dX12_divideRows_125 (fun H locs hP hD hS => ?_)
          exact ih.2.2.2.2.2.2.2.2.2.2.1 L (σ.1, σ.2.1, updG σ.2.2 46 (upd (σ.2.2 46) ((σ.1 90)).toNatClampNeg ((L 2)))) r h H locs ls hP hD hS (lv_sub hl [0, 1, 2, 3] rfl)
      · intro L σ r h H locs ls hP hD hS hl
        rw [x_divideRows] at h
        refine lv_aload_n hx hb dX12_divideRows_126 rfl (lv_at hl 0 rfl) ?_
        refine lv_dup hx hb dX12_divideRows_127 rfl ?_
        refine ng_90 hx hb hts in_x_divideRows hown hK hP (hts _ (List.mem_cons_of_mem _ (List.mem_append_left _ (List.mem_append_left _ (List.mem_of_getElem? (i := 2) rfl))))) dX12_divideRows_128 ?_
        refine lv_iconst (v := 1) hx hb dX12_divideRows_131 (by decide) ?_
        refine lv_iadd hx hb dX12_divideRows_132 ?_
        refine np_90 hx hb hts in_x_divideRows hown hK hP hD hS (hts _ (List.mem_cons_of_mem _ (List.mem_append_left _ (List.mem_append_left _ (List.mem_of_getElem? (i := 2) rfl))))) dX12_divideRows_133 (fun H locs hP hD hS => ?_)
        exact ih.2.2.2.2.2.2.2.2.2.2.2.1 L (upd σ.1 90 ((((σ.1 90)) + 1)), σ.2.1, σ.2.2) r h H locs ls hP hD hS (lv_sub hl [0, 1, 2, 3] rfl)
      · intro L σ r h H locs ls hP hD hS hl
        rw [x_divideRows] at h
        refine lv_aload_n hx hb dX12_divideRows_136 rfl (lv_at hl 0 rfl) ?_
        refine ng_88 hx hb hts in_x_divideRows hown hK hP (hts _ (List.mem_cons_of_mem _ (List.mem_append_left _ (List.mem_append_left _ (List.mem_of_getElem? (i := 5) rfl))))) dX12_divideRows_137 ?_
        refine lv_aload_n hx hb dX12_divideRows_140 rfl (lv_at hl 0 rfl) ?_
        refine ng_90 hx hb hts in_x_divideRows hown hK hP (hts _ (List.mem_cons_of_mem _ (List.mem_append_left _ (List.mem_append_left _ (List.mem_of_getElem? (i := 2) rfl))))) dX12_divideRows_141 ?_
        refine lv_aload_n hx hb dX12_divideRows_144 rfl (lv_at hl 0 rfl) ?_
        refine ng_82 hx hb hts in_x_divideRows hown hK hP (hts _ (List.mem_cons_of_mem _ (List.mem_append_left _ (List.mem_append_left _ (List.mem_of_getElem? (i := 7) rfl))))) dX12_divideRows_145 ?_
        refine lv_aload_n hx hb dX12_divideRows_148 rfl (lv_at hl 0 rfl) ?_
        refine ng_85 hx hb hts in_x_divideRows hown hK hP (hts _ (List.mem_cons_of_mem _ (List.mem_append_left _ (List.mem_append_left _ (List.mem_of_getElem? (i := 8) rfl))))) dX12_divideRows_149 ?_
        obtain ⟨r1, hc1, h⟩ := ob_ex h
        refine nc_Si (As := [.ref (a 46), .int (σ.1 90), .ref (a 43), .int (σ.1 85)]) (rest := []) ⟨hx, hb, hml, hown, hts⟩ (c_x_compareRows__46__43 l dC dI cy a k (upd (upd (fun _ => 0) 1 ((σ.1 90))) 3 ((σ.1 85))) σ r1 hc1 H.size) (va_cwS 4 hts g_x_divideRows_compareRows__46__43_494 rfl rfl rfl hd_x_compareRows__46__43 ⟨Nat.le_of_ble_eq_true rfl, Nat.le_of_ble_eq_true rfl⟩) hK hG hA hP hD hS rfl hl.1 rfl (Nat.le_of_ble_eq_true rfl) dX12_divideRows_152 ⟨Nat.le_refl _, Nat.le_refl _⟩ (fun H locs hP hD hS => ?_)
        refine lv_if_lt (tgt := 285) hx hb dX12_divideRows_155 (by decide) (fun c2 => ?_) (fun c2 => ?_)
        · rw [if_pos c2] at h
          exact ih.2.2.2.2.2.2.2.2.2.2.2.2.2.2.2.2.2.2.2.2.1 L r1.2 r h H locs ls hP hD hS (lv_sub hl [0, 1, 2, 3] rfl)
        · rw [if_neg c2] at h
          refine lv_iconst (v := 0) hx hb dX12_divideRows_158 (by decide) ?_
          refine lv_istore_n (lv' := [(3, .int 0), (0, .ref (a 0)), (1, .int (L 1)), (2, .int (L 2))]) hx hb dX12_divideRows_159 rfl hl (by decide) rfl (fun ls hl => ?_)
          refine lv_iconst (v := 0) hx hb dX12_divideRows_160 (by decide) ?_
          refine lv_istore (lv' := [(4, .int 0), (3, .int 0), (0, .ref (a 0)), (1, .int (L 1)), (2, .int (L 2))]) hx hb dX12_divideRows_161 hl (by decide) rfl (fun ls hl => ?_)
          exact ih.2.2.2.2.2.2.2.2.2.2.2.2.1 (upd (upd L 3 0) 4 0) r1.2 r h H locs ls hP hD hS (lv_sub hl [2, 3, 4, 1, 0] rfl)
      · intro L σ r h H locs ls hP hD hS hl
        rw [x_divideRows] at h
        refine lv_iload hx hb dX12_divideRows_163 (lv_at hl 4 rfl) ?_
        refine lv_aload_n hx hb dX12_divideRows_165 rfl (lv_at hl 0 rfl) ?_
        refine ng_90 hx hb hts in_x_divideRows hown hK hP (hts _ (List.mem_cons_of_mem _ (List.mem_append_left _ (List.mem_append_left _ (List.mem_of_getElem? (i := 2) rfl))))) dX12_divideRows_166 ?_
        refine lv_icmp_ge (tgt := 234) hx hb dX12_divideRows_169 (by decide) (fun c1 => ?_) (fun c1 => ?_)
        · rw [if_pos c1] at h
          exact ih.2.2.2.2.2.2.2.2.2.2.2.2.2.2.2.2.2.2.1 L σ r h H locs ls hP hD hS (lv_sub hl [0, 1, 2, 3, 4] rfl)
        · rw [if_neg c1] at h
          refine lv_aload_n hx hb dX12_divideRows_172 rfl (lv_at hl 0 rfl) ?_
          refine ng_88 hx hb hts in_x_divideRows hown hK hP (hts _ (List.mem_cons_of_mem _ (List.mem_append_left _ (List.mem_append_left _ (List.mem_of_getElem? (i := 5) rfl))))) dX12_divideRows_173 ?_
          refine lv_iload hx hb dX12_divideRows_176 (lv_at hl 4 rfl) ?_
          obtain ⟨q2, h⟩ := nb_ite1 h
          refine nl_46 hx hb hK hP q2 dX12_divideRows_178 ?_
          refine lv_iload hx hb dX12_divideRows_179 (lv_at hl 4 rfl) ?_
          refine lv_aload_n hx hb dX12_divideRows_181 rfl (lv_at hl 0 rfl) ?_
          refine ng_85 hx hb hts in_x_divideRows hown hK hP (hts _ (List.mem_cons_of_mem _ (List.mem_append_left _ (List.mem_append_left _ (List.mem_of_getElem? (i := 8) rfl))))) dX12_divideRows_182 ?_
          refine lv_icmp_ge (tgt := 198) hx hb dX12_divideRows_185 (by decide) (fun c3 => ?_) (fun c3 => ?_)
          · rw [if_pos c3] at h
            exact ih.2.2.2.2.2.2.2.2.2.2.2.2.2.1 (upd L 100 ((σ.2.2 46 ((L 4)).toNatClampNeg))) σ r h H locs ls hP hD hS (lv_sub hl [0, 1, 2, 3, 4] rfl)
          · rw [if_neg c3] at h
            refine lv_aload_n hx hb dX12_divideRows_188 rfl (lv_at hl 0 rfl) ?_
            refine ng_82 hx hb hts in_x_divideRows hown hK hP (hts _ (List.mem_cons_of_mem _ (List.mem_append_left _ (List.mem_append_left _ (List.mem_of_getElem? (i := 7) rfl))))) dX12_divideRows_189 ?_
            refine lv_iload hx hb dX12_divideRows_192 (lv_at hl 4 rfl) ?_
            obtain ⟨q4, h⟩ := nb_ite1 h
            refine nl_43 hx hb hK hP q4 dX12_divideRows_194 ?_
            refine lv_goto (tgt := 199) hx hb dX12_divideRows_195 (by decide) ?_
            exact ih.2.2.2.2.2.2.2.2.2.2.2.2.2.2.1 (upd (upd L 100 ((σ.2.2 43 ((L 4)).toNatClampNeg))) 101 ((σ.2.2 46 ((L 4)).toNatClampNeg))) σ r h H locs ls hP hD hS (lv_sub hl [0, 1, 2, 3, 4] rfl)
      · intro L σ r h H locs ls hP hD hS hl
        rw [x_divideRows] at h
        refine lv_iconst (v := 0) hx hb dX12_divideRows_198 (by decide) ?_
        exact ih.2.2.2.2.2.2.2.2.2.2.2.2.2.2.1 (upd (upd L 100 0) 101 ((L 100))) σ r h H locs ls hP hD hS (lv_sub hl [0, 1, 2, 3, 4] rfl)
      · intro L σ r h H locs ls hP hD hS hl
        rw [x_divideRows] at h
        refine lv_isub hx hb dX12_divideRows_199 ?_
        refine lv_iload_n hx hb dX12_divideRows_200 rfl (lv_at hl 3 rfl) ?_
        refine lv_isub hx hb dX12_divideRows_201 ?_
        refine lv_istore (lv' := [(5, .int (((((L 101)) - ((L 100)))) - ((L 3)))), (0, .ref (a 0)), (1, .int (L 1)), (2, .int (L 2)), (3, .int (L 3)), (4, .int (L 4))]) hx hb dX12_divideRows_202 hl (by decide) rfl (fun ls hl => ?_)
        refine lv_iload hx hb dX12_divideRows_204 (lv_at hl 0 rfl) ?_
        refine lv_if_ge (tgt := 213) hx hb dX12_divideRows_206 (by decide) (fun c1 => ?_) (fun c1 => ?_)
        · rw [if_pos c1] at h
          exact ih.2.2.2.2.2.2.2.2.2.2.2.2.2.2.2.1 (upd L 5 ((((((L 101)) - ((L 100)))) - ((L 3))))) σ r h H locs ls hP hD hS (lv_sub hl [1, 2, 3, 4, 5, 0] rfl)
        · rw [if_neg c1] at h
          refine lv_iconst (v := 1) hx hb dX12_divideRows_209 (by decide) ?_
          refine lv_goto (tgt := 214) hx hb dX12_divideRows_210 (by decide) ?_
          exact ih.2.2.2.2.2.2.2.2.2.2.2.2.2.2.2.2.1 (upd (upd L 5 ((((((L 101)) - ((L 100)))) - ((L 3))))) 100 1) σ r h H locs ls hP hD hS (lv_sub hl [1, 2, 3, 4, 5, 0] rfl)
      · intro L σ r h H locs ls hP hD hS hl
        rw [x_divideRows] at h
        refine lv_iconst (v := 0) hx hb dX12_divideRows_213 (by decide) ?_
        exact ih.2.2.2.2.2.2.2.2.2.2.2.2.2.2.2.2.1 (upd L 100 0) σ r h H locs ls hP hD hS (lv_sub hl [0, 1, 2, 3, 4, 5] rfl)
      · intro L σ r h H locs ls hP hD hS hl
        rw [x_divideRows] at h
        refine lv_istore_n (lv' := [(3, .int (L 100)), (0, .ref (a 0)), (1, .int (L 1)), (2, .int (L 2)), (4, .int (L 4)), (5, .int (L 5))]) hx hb dX12_divideRows_214 rfl hl (by decide) rfl (fun ls hl => ?_)
        refine lv_aload_n hx hb dX12_divideRows_215 rfl (lv_at hl 1 rfl) ?_
        refine ng_88 hx hb hts in_x_divideRows hown hK hP (hts _ (List.mem_cons_of_mem _ (List.mem_append_left _ (List.mem_append_left _ (List.mem_of_getElem? (i := 5) rfl))))) dX12_divideRows_216 ?_
        refine lv_iload hx hb dX12_divideRows_219 (lv_at hl 4 rfl) ?_
        refine lv_iload hx hb dX12_divideRows_221 (lv_at hl 5 rfl) ?_
        refine lv_ldcw (v := 65535) hx hb hown (hts _ (List.mem_cons_of_mem _ (List.mem_append_left _ (List.mem_append_left _ (List.mem_of_getElem? (i := 6) rfl))))) dX12_divideRows_223 ?_
        refine lv_iand hx hb dX12_divideRows_226 ?_
        obtain ⟨q1, h⟩ := nb_ite1 h
        refine ns_46 hx hb hK hP hD hS q1 dX12_divideRows_227 (fun H locs hP hD hS => ?_)
        exact ih.2.2.2.2.2.2.2.2.2.2.2.2.2.2.2.2.2.1 (upd L 3 ((L 100))) (σ.1, σ.2.1, updG σ.2.2 46 (upd (σ.2.2 46) ((L 4)).toNatClampNeg ((((L 5)) &&& 65535)))) r h H locs ls hP hD hS (lv_sub hl [1, 2, 3, 0, 4, 5] rfl)
      · intro L σ r h H locs ls hP hD hS hl
        rw [x_divideRows] at h
        refine lv_iinc (v := ((L 4)) + 1) (lv' := [(4, .int (((L 4)) + 1)), (0, .ref (a 0)), (1, .int (L 1)), (2, .int (L 2)), (3, .int (L 3)), (5, .int (L 5))]) hx hb dX12_divideRows_228 hl (k := 4) rfl rfl (by decide) rfl (fun ls hl => ?_)
        refine lv_goto (tgt := 163) hx hb dX12_divideRows_231 (by decide) ?_
        exact ih.2.2.2.2.2.2.2.2.2.2.2.2.1 (upd L 4 (((L 4)) + 1)) σ r h H locs ls hP hD hS (lv_sub hl [1, 2, 3, 4, 0] rfl)
      · intro L σ r h H locs ls hP hD hS hl
        rw [x_divideRows] at h
        refine lv_aload_n hx hb dX12_divideRows_234 rfl (lv_at hl 0 rfl) ?_
        refine ng_90 hx hb hts in_x_divideRows hown hK hP (hts _ (List.mem_cons_of_mem _ (List.mem_append_left _ (List.mem_append_left _ (List.mem_of_getElem? (i := 2) rfl))))) dX12_divideRows_235 ?_
        refine lv_if_le (tgt := 268) hx hb dX12_divideRows_238 (by decide) (fun c1 => ?_) (fun c1 => ?_)
        · rw [if_pos c1] at h
          exact ih.2.2.2.2.2.2.2.2.2.2.2.2.2.2.2.2.2.2.2.1 L σ r h H locs ls hP hD hS (lv_sub hl [0, 1, 2, 3, 4] rfl)
        · rw [if_neg c1] at h
          refine lv_aload_n hx hb dX12_divideRows_241 rfl (lv_at hl 0 rfl) ?_
          refine ng_88 hx hb hts in_x_divideRows hown hK hP (hts _ (List.mem_cons_of_mem _ (List.mem_append_left _ (List.mem_append_left _ (List.mem_of_getElem? (i := 5) rfl))))) dX12_divideRows_242 ?_
          refine lv_aload_n hx hb dX12_divideRows_245 rfl (lv_at hl 0 rfl) ?_
          refine ng_90 hx hb hts in_x_divideRows hown hK hP (hts _ (List.mem_cons_of_mem _ (List.mem_append_left _ (List.mem_append_left _ (List.mem_of_getElem? (i := 2) rfl))))) dX12_divideRows_246 ?_
          refine lv_iconst (v := 1) hx hb dX12_divideRows_249 (by decide) ?_
          refine lv_isub hx hb dX12_divideRows_250 ?_
          obtain ⟨q2, h⟩ := nb_ite1 h
          refine nl_46 hx hb hK hP q2 dX12_divideRows_251 ?_
          refine lv_if_ne (tgt := 268) hx hb dX12_divideRows_252 (by decide) (fun c3 => ?_) (fun c3 => ?_)
          · rw [if_neg c3] at h
            exact ih.2.2.2.2.2.2.2.2.2.2.2.2.2.2.2.2.2.2.2.1 L σ r h H locs ls hP hD hS (lv_sub hl [0, 1, 2, 3, 4] rfl)
          · rw [if_pos c3] at h
            refine lv_aload_n hx hb dX12_divideRows_255 rfl (lv_at hl 0 rfl) ?_
            refine lv_dup hx hb dX12_divideRows_256 rfl ?_
            refine ng_90 hx hb hts in_x_divideRows hown hK hP (hts _ (List.mem_cons_of_mem _ (List.mem_append_left _ (List.mem_append_left _ (List.mem_of_getElem? (i := 2) rfl))))) dX12_divideRows_257 ?_
            refine lv_iconst (v := 1) hx hb dX12_divideRows_260 (by decide) ?_
            refine lv_isub hx hb dX12_divideRows_261 ?_
            refine np_90 hx hb hts in_x_divideRows hown hK hP hD hS (hts _ (List.mem_cons_of_mem _ (List.mem_append_left _ (List.mem_append_left _ (List.mem_of_getElem? (i := 2) rfl))))) dX12_divideRows_262 (fun H locs hP hD hS => ?_)
            refine lv_goto (tgt := 234) hx hb dX12_divideRows_265 (by decide) ?_
            exact ih.2.2.2.2.2.2.2.2.2.2.2.2.2.2.2.2.2.2.1 L (upd σ.1 90 ((((σ.1 90)) - 1)), σ.2.1, σ.2.2) r h H locs ls hP hD hS (lv_sub hl [0, 1, 2, 3, 4] rfl)
      · intro L σ r h H locs ls hP hD hS hl
        rw [x_divideRows] at h
        refine lv_aload_n hx hb dX12_divideRows_268 rfl (lv_at hl 0 rfl) ?_
        refine ng_87 hx hb hts in_x_divideRows hown hK hP (hts _ (List.mem_cons_of_mem _ (List.mem_append_left _ (List.mem_append_left _ (List.mem_of_getElem? (i := 3) rfl))))) dX12_divideRows_269 ?_
        refine lv_iload_n hx hb dX12_divideRows_272 rfl (lv_at hl 1 rfl) ?_
        refine lv_iconst (v := 4) hx hb dX12_divideRows_273 (by decide) ?_
        refine lv_ishr hx hb dX12_divideRows_274 ?_
        refine lv_dup2_11 hx hb dX12_divideRows_275 rfl rfl ?_
        obtain ⟨q1, h⟩ := nb_ite1 h
        refine nl_45 hx hb hK hP q1 dX12_divideRows_276 ?_
        refine lv_iconst (v := 1) hx hb dX12_divideRows_277 (by decide) ?_
        refine lv_iload_n hx hb dX12_divideRows_278 rfl (lv_at hl 1 rfl) ?_
        refine lv_bipush (v := 15) hx hb dX12_divideRows_279 (by decide) ?_
        refine lv_iand hx hb dX12_divideRows_281 ?_
        refine lv_ishl hx hb dX12_divideRows_282 ?_
        refine lv_ior hx hb dX12_divideRows_283 ?_
        obtain ⟨q2, h⟩ := nb_ite1 h
        refine ns_45 hx hb hK hP hD hS q2 dX12_divideRows_284 (fun H locs hP hD hS => ?_)
        exact ih.2.2.2.2.2.2.2.2.2.2.2.2.2.2.2.2.2.2.2.2.1 L (σ.1, σ.2.1, updG σ.2.2 45 (upd (σ.2.2 45) ((((L 1)) >>> ((4 : Int32) &&& 31))).toNatClampNeg ((((σ.2.2 45 ((((L 1)) >>> ((4 : Int32) &&& 31))).toNatClampNeg)) ||| (((1 : Int32) <<< (((((L 1)) &&& 15)) &&& 31))))))) r h H locs ls hP hD hS (lv_sub hl [0, 1, 2, 3] rfl)
      · intro L σ r h H locs ls hP hD hS hl
        rw [x_divideRows] at h
        refine lv_iinc (v := ((L 1)) + (-1)) (lv' := [(1, .int (((L 1)) + (-1))), (0, .ref (a 0)), (2, .int (L 2)), (3, .int (L 3))]) hx hb dX12_divideRows_285 hl (k := 1) rfl rfl (by decide) rfl (fun ls hl => ?_)
        refine lv_goto (tgt := 46) hx hb dX12_divideRows_288 (by decide) ?_
        exact ih.2.2.2.2.2.2.1 (upd L 1 (((L 1)) + (-1))) σ r h H locs ls hP hD hS (lv_sub hl [1, 0] rfl)
      · intro L σ r h H locs ls hP hD hS hl
        rw [x_divideRows] at h
        cases h
        exact W.vret hx hb hr (fun t ht hW => ⟨⟨(), rfl, trivial, by rw [ht]; exact hP, va_K.moved hW.alike hK, hD⟩, hS.F ht⟩) hS.2.2 dX12_divideRows_291
  exact (blk k0).1 L0 σ0 r0 h0 s.heap [] ls hP hD hS hl

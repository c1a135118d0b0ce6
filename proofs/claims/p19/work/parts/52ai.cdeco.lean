/-! X1_size -/
def y_X1_size : Nat → Nat → LV → CS → Option (Int32 × CS)
  | 0, _, _, _ => none
  | k + 1, 0, L, σ => if ((L.1 1)) < 0 then (y_X1_size k 1 L σ) else (if ¬ (((L.1 1)) < 0 ∨ (sN σ 3) ≤ ((L.1 1)).toNatClampNeg) then (some (((((((σ.2.2.1 3 ((L.1 1)).toNatClampNeg)).toUInt32 >>> ((16 : Int32).toUInt32 &&& Int32.toUInt32 31)).toInt32)) &&& 1023), σ)) else none)
  | k + 1, 1, L, σ => if ((((L.1 1)) &&& ((-268435456)))) = ((-1073741824)) then (y_X1_size k 2 L σ) else (if ((((L.1 1)) &&& ((-268435456)))) = ((-1610612736)) then (if ((L.1 1)) = ((-1610612736)) then (y_X1_size k 3 L σ) else (y_X1_size k 2 L σ)) else (y_X1_size k 3 L σ))
  | k + 1, 2, L, σ => y_X1_size k 4 (lI L 100 2) σ
  | k + 1, 3, L, σ => y_X1_size k 4 (lI L 100 1) σ
  | k + 1, 4, L, σ => some ((L.1 100), σ)
  | _ + 1, _ + 5, _, _ => none
def o_y_X1_size : List Cond := [.fieldLink RX1 11 "SetHouse$Heap" "mem" "[I", .constant RX1 33 (-268435456), .constant RX1 34 (-1073741824), .constant RX1 35 (-1610612736)]
theorem o_y_X1_size_good : o_y_X1_size.all goodWord = true := by decide +kernel
def p_y_X1_size : List Cond := o_y_X1_size ++ []
theorem p_y_X1_size_good : p_y_X1_size.all goodWord = true := nb_all2 o_y_X1_size_good rfl
def w_y_X1_size : List Cond := .code yX1_size cX1_size 3 (some .int) :: (p_y_X1_size ++ fC)
theorem w_y_X1_size_good : w_y_X1_size.all goodWord = true := nb_allc (by decide +kernel) (nb_all2 p_y_X1_size_good fC_good)
theorem in_y_X1_size_X1 : ∀ w ∈ wsX10, w ∈ w_y_X1_size := fun _ h => List.mem_cons_of_mem _ (List.mem_append_right _ (List.mem_append_right _ (List.mem_append_left _ h)))
theorem hd_y_X1_size : yX1_size.cls = RX1 ∧ yX1_size.cls ≠ "java/lang/invoke/MethodHandle" ∧ yX1_size.cls ≠ "java/lang/invoke/VarHandle" ∧ (parseMethodDescriptor yX1_size.desc).map (fun d => d.parameters.length) = some 1 := by decide +kernel
set_option maxHeartbeats 40000000 in
set_option maxRecDepth 100000 in
theorem c_y_X1_size (l : Launch) (dC : Nat → ClassId) (dI : Nat → Nat → Nat) (cy : Nat → ClassId) (a z : Nat → Nat) (k0 : Nat) (L0 : LV) (σ0 : CS) (r0 : Int32 × CS) (h0 : y_X1_size k0 0 L0 σ0 = some r0) (sz : Nat) : Met l yX1_size w_y_X1_size ({ frames := 0, cells := 0, slots := 0, locals := 0 }) (va_Pc [.ref (a 0), .int (L0.1 1)] (nIn (dC, dI) cy sz (vC cy a z σ0))) (va_Qi (fun (x : Int32) (_ : Unit) => x = r0.1) (fun _ t => nOut (dC, dI) cy (va_A (vC cy a z σ0) sz) (vC cy a z r0.2) t) (va_A (vC cy a z σ0) sz)) 0 0 (va_A (vC cy a z σ0) sz) := by
  refine Met.ofW (cc := cX1_size) (maxL := 3) (ret := (some .int)) (by decide) rfl ?_
  intro p e s m args below meth c s₁ B hml hv
  obtain ⟨rfl, hsz, hP, hK, hD0, hG⟩ := hv
  have hx := B.exec
  have hb := B.bytes
  have hr := B.returns
  have hts := atoms_spec (ws := w_y_X1_size) B.pre
  have hown : s.vm.findClass RX1 = some m.cls := findClass_of_methodNamed B.named
  have hlocks := B.notSynchronized
  subst hsz
  have hD := hD0.self (sz := s.heap.size)
  generalize hAe : va_A (vC cy a z σ0) s.heap.size = A at hD ⊢
  have hA : ∀ q : Nat, s.heap.size ≤ q → A q := fun q h => by rw [← hAe]; exact Or.inr h
  have hS : va_S A s.heap s.heap [] := va_S.rf
  have hl := lv_entry ([.ref (a 0), .int (L0.1 1)]) (n := 3) (Nat.le_of_ble_eq_true rfl)
  rw [lg_entry_eq]
  generalize (lg_sl ([.ref (a 0), .int (L0.1 1)]) ++ List.replicate (3 - (lg_sl ([.ref (a 0), .int (L0.1 1)])).length) Slot.unset).toArray = ls at hl ⊢
  have hl : lv_has ls 3 [(0, .ref (a 0)), (1, .int (L0.1 1))] := hl
  have blk : ∀ k : Nat, (bC p l e (headSpec w_y_X1_size ({ frames := 0, cells := 0, slots := 0, locals := 0 })).room s m #[.ref (a 0), .int (L0.1 1)] below meth c dC dI cy a z A (kI dC dI cy a z A below #[.ref (a 0), .int (L0.1 1)] s) 3 (y_X1_size k 0) (fun L => [(0, .ref (a 0)), (1, .int (L.1 1))]) 0 (fun L => [])) ∧ (bC p l e (headSpec w_y_X1_size ({ frames := 0, cells := 0, slots := 0, locals := 0 })).room s m #[.ref (a 0), .int (L0.1 1)] below meth c dC dI cy a z A (kI dC dI cy a z A below #[.ref (a 0), .int (L0.1 1)] s) 3 (y_X1_size k 1) (fun L => [(1, .int (L.1 1))]) 18 (fun L => [])) ∧ (bC p l e (headSpec w_y_X1_size ({ frames := 0, cells := 0, slots := 0, locals := 0 })).room s m #[.ref (a 0), .int (L0.1 1)] below meth c dC dI cy a z A (kI dC dI cy a z A below #[.ref (a 0), .int (L0.1 1)] s) 3 (y_X1_size k 2) (fun L => []) 41 (fun L => [])) ∧ (bC p l e (headSpec w_y_X1_size ({ frames := 0, cells := 0, slots := 0, locals := 0 })).room s m #[.ref (a 0), .int (L0.1 1)] below meth c dC dI cy a z A (kI dC dI cy a z A below #[.ref (a 0), .int (L0.1 1)] s) 3 (y_X1_size k 3) (fun L => []) 45 (fun L => [])) ∧ (bC p l e (headSpec w_y_X1_size ({ frames := 0, cells := 0, slots := 0, locals := 0 })).room s m #[.ref (a 0), .int (L0.1 1)] below meth c dC dI cy a z A (kI dC dI cy a z A below #[.ref (a 0), .int (L0.1 1)] s) 3 (y_X1_size k 4) (fun L => []) 46 (fun L => [.int (L.1 100)])) := by
    intro k
    induction k with
    | zero => exact ⟨fun L σ r h => (by cases h), fun L σ r h => (by cases h), fun L σ r h => (by cases h), fun L σ r h => (by cases h), fun L σ r h => (by cases h)⟩
    | succ k ih =>
      refine ⟨?_, ?_, ?_, ?_, ?_⟩
      · intro L σ r h H locs ls hP hD hS hl
        rw [y_X1_size] at h
        refine lv_iload_n hx hb dX1_size_0 rfl (lv_at hl 1 rfl) ?_
        refine lv_if_lt (tgt := 18) hx hb dX1_size_1 (by decide) (fun c1 => ?_) (fun c1 => ?_)
        · rw [if_pos c1] at h
          exact ih.2.1 L σ r h H locs ls hP hD hS (lv_sub hl [1] rfl)
        · rw [if_neg c1] at h
          refine lv_aload_n hx hb dX1_size_4 rfl (lv_at hl 0 rfl) ?_
          refine hg_0_0 hx hb hts in_y_X1_size_X1 hown hK hP (hts _ (List.mem_cons_of_mem _ (List.mem_append_left _ (List.mem_append_left _ (List.mem_of_getElem? (i := 0) rfl))))) dX1_size_5 ?_
          refine lv_iload_n hx hb dX1_size_8 rfl (lv_at hl 1 rfl) ?_
          obtain ⟨q2, h⟩ := kb_ite1 h
          refine hl_3 hx hb hK hP q2 dX1_size_9 ?_
          refine lv_bipush (v := 16) hx hb dX1_size_10 (by decide) ?_
          refine lv_iushr (v := (((σ.2.2.1 3 ((L.1 1)).toNatClampNeg)).toUInt32 >>> ((16 : Int32).toUInt32 &&& Int32.toUInt32 31)).toInt32) hx hb dX1_size_12 rfl ?_
          refine lv_sipush (v := 1023) hx hb dX1_size_13 (by decide) ?_
          refine lv_iand hx hb dX1_size_16 ?_
          obtain rfl := Option.some.inj h
          exact W.iret (v := ((((((σ.2.2.1 3 ((L.1 1)).toNatClampNeg)).toUInt32 >>> ((16 : Int32).toUInt32 &&& Int32.toUInt32 31)).toInt32)) &&& 1023)) hx hb hr (fun t ht hW => ⟨⟨((((((σ.2.2.1 3 ((L.1 1)).toNatClampNeg)).toUInt32 >>> ((16 : Int32).toUInt32 &&& Int32.toUInt32 31)).toInt32)) &&& 1023), (), rfl, rfl, by rw [ht]; exact hP, va_K.moved hW.alike hK, hD⟩, hS.F ht⟩) hS.2.2 dX1_size_17
      · intro L σ r h H locs ls hP hD hS hl
        rw [y_X1_size] at h
        refine lv_iload_n hx hb dX1_size_18 rfl (lv_at hl 0 rfl) ?_
        refine lv_ldc (v := (-268435456)) hx hb hown (hts _ (List.mem_cons_of_mem _ (List.mem_append_left _ (List.mem_append_left _ (List.mem_of_getElem? (i := 1) rfl))))) dX1_size_19 ?_
        refine lv_iand hx hb dX1_size_21 ?_
        refine lv_istore_n (lv' := [(2, .int (((L.1 1)) &&& ((-268435456)))), (1, .int (L.1 1))]) hx hb dX1_size_22 rfl hl (by decide) rfl (fun ls hl => ?_)
        refine lv_iload_n hx hb dX1_size_23 rfl (lv_at hl 0 rfl) ?_
        refine lv_ldc (v := (-1073741824)) hx hb hown (hts _ (List.mem_cons_of_mem _ (List.mem_append_left _ (List.mem_append_left _ (List.mem_of_getElem? (i := 2) rfl))))) dX1_size_24 ?_
        refine lv_icmp_eq (tgt := 41) hx hb dX1_size_26 (by decide) (fun c1 => ?_) (fun c1 => ?_)
        · rw [if_pos c1] at h
          exact ih.2.2.1 L σ r h H locs ls hP hD hS (lv_sub hl [] rfl)
        · rw [if_neg c1] at h
          refine lv_iload_n hx hb dX1_size_29 rfl (lv_at hl 0 rfl) ?_
          refine lv_ldc (v := (-1610612736)) hx hb hown (hts _ (List.mem_cons_of_mem _ (List.mem_append_left _ (List.mem_append_left _ (List.mem_of_getElem? (i := 3) rfl))))) dX1_size_30 ?_
          refine lv_icmp_ne (tgt := 45) hx hb dX1_size_32 (by decide) (fun c2 => ?_) (fun c2 => ?_)
          · rw [if_neg c2] at h
            exact ih.2.2.2.1 L σ r h H locs ls hP hD hS (lv_sub hl [] rfl)
          · rw [if_pos c2] at h
            refine lv_iload_n hx hb dX1_size_35 rfl (lv_at hl 1 rfl) ?_
            refine lv_ldc (v := (-1610612736)) hx hb hown (hts _ (List.mem_cons_of_mem _ (List.mem_append_left _ (List.mem_append_left _ (List.mem_of_getElem? (i := 3) rfl))))) dX1_size_36 ?_
            refine lv_icmp_eq (tgt := 45) hx hb dX1_size_38 (by decide) (fun c3 => ?_) (fun c3 => ?_)
            · rw [if_pos c3] at h
              exact ih.2.2.2.1 L σ r h H locs ls hP hD hS (lv_sub hl [] rfl)
            · rw [if_neg c3] at h
              exact ih.2.2.1 L σ r h H locs ls hP hD hS (lv_sub hl [] rfl)
      · intro L σ r h H locs ls hP hD hS hl
        rw [y_X1_size] at h
        refine lv_iconst (v := 2) hx hb dX1_size_41 (by decide) ?_
        refine lv_goto (tgt := 46) hx hb dX1_size_42 (by decide) ?_
        exact ih.2.2.2.2 (lI L 100 2) σ r h H locs ls hP hD hS (lv_sub hl [] rfl)
      · intro L σ r h H locs ls hP hD hS hl
        rw [y_X1_size] at h
        refine lv_iconst (v := 1) hx hb dX1_size_45 (by decide) ?_
        exact ih.2.2.2.2 (lI L 100 1) σ r h H locs ls hP hD hS (lv_sub hl [] rfl)
      · intro L σ r h H locs ls hP hD hS hl
        rw [y_X1_size] at h
        obtain rfl := Option.some.inj h
        exact W.iret (v := (L.1 100)) hx hb hr (fun t ht hW => ⟨⟨(L.1 100), (), rfl, rfl, by rw [ht]; exact hP, va_K.moved hW.alike hK, hD⟩, hS.F ht⟩) hS.2.2 dX1_size_46
  exact (blk k0).1 L0 σ0 r0 h0 s.heap [] ls hP hD hS hl
/-! X0_charOf -/
def y_X0_charOf : Nat → Nat → LV → CS → Option (Int32 × CS)
  | 0, _, _, _ => none
  | k + 1, 0, L, σ => oc (y_X10_clamped k 0 (lI lZ 1 ((L.1 1))) σ) (fun r1 => if r1.1 < 0 then (y_X0_charOf k 1 L r1.2) else (if 255 < r1.1 then (y_X0_charOf k 1 L r1.2) else (y_X0_charOf k 2 (lI L 100 ((((-1073741824)) ||| r1.1))) r1.2)))
  | k + 1, 1, L, σ => y_X0_charOf k 2 (lI L 100 ((-268435452))) σ
  | k + 1, 2, L, σ => some ((L.1 100), σ)
  | _ + 1, _ + 3, _, _ => none
def o_y_X0_charOf : List Cond := [.fieldLink RX0 26 "SetHouse$Algebra" "wholes" "LSetHouse$Wholes;", .methodLink RX0 133 yX10_clamped, .instanceMethod yX10_clamped, .selects RX10 yX10_clamped yX10_clamped, .initialized RX10, .constant RX0 243 (-1073741824), .constant RX0 132 (-268435452)]
theorem o_y_X0_charOf_good : o_y_X0_charOf.all goodWord = true := by decide +kernel
def p_y_X0_charOf : List Cond := o_y_X0_charOf ++ ((.code yX10_clamped cX10_clamped 2 (some .int) :: p_y_X10_clamped) ++ [])
theorem p_y_X0_charOf_good : p_y_X0_charOf.all goodWord = true := nb_all2 o_y_X0_charOf_good (nb_all2 (nb_allc (by decide +kernel) p_y_X10_clamped_good) rfl)
def w_y_X0_charOf : List Cond := .code yX0_charOf cX0_charOf 3 (some .int) :: (p_y_X0_charOf ++ fC)
theorem w_y_X0_charOf_good : w_y_X0_charOf.all goodWord = true := nb_allc (by decide +kernel) (nb_all2 p_y_X0_charOf_good fC_good)
theorem in_y_X0_charOf_X0 : ∀ w ∈ wsX00, w ∈ w_y_X0_charOf := fun _ h => List.mem_cons_of_mem _ (List.mem_append_right _ (List.mem_append_left _ h))
theorem hd_y_X0_charOf : yX0_charOf.cls = RX0 ∧ yX0_charOf.cls ≠ "java/lang/invoke/MethodHandle" ∧ yX0_charOf.cls ≠ "java/lang/invoke/VarHandle" ∧ (parseMethodDescriptor yX0_charOf.desc).map (fun d => d.parameters.length) = some 1 := by decide +kernel
theorem gg_y_X0_charOf_X10_clamped : GoodIn w_y_X0_charOf w_y_X10_clamped := goodIn_sub (fun w h => (List.mem_cons.mp h).elim (fun e => (List.mem_cons_of_mem _ (List.mem_append_left _ (List.mem_append_right _ (List.mem_append_left _ (List.mem_cons.mpr (Or.inl e))))))) (fun h => (List.mem_append.mp h).elim (fun h => (List.mem_cons_of_mem _ (List.mem_append_left _ (List.mem_append_right _ (List.mem_append_left _ (List.mem_cons_of_mem _ h)))))) (fun h => List.mem_cons_of_mem _ (List.mem_append_right _ h)))) w_y_X10_clamped_good
theorem g_y_X0_charOf_X10_clamped_V133 : GoodIn w_y_X0_charOf (wsV RX0 133 RX10 yX10_clamped w_y_X10_clamped) := goodIn_app (nb_g4 (List.mem_cons_of_mem _ (List.mem_append_left _ (List.mem_append_left _ (List.mem_of_getElem? (i := 1) rfl)))) (List.mem_cons_of_mem _ (List.mem_append_left _ (List.mem_append_left _ (List.mem_of_getElem? (i := 2) rfl)))) (List.mem_cons_of_mem _ (List.mem_append_left _ (List.mem_append_left _ (List.mem_of_getElem? (i := 3) rfl)))) (List.mem_cons_of_mem _ (List.mem_append_left _ (List.mem_append_left _ (List.mem_of_getElem? (i := 4) rfl)))) (by decide +kernel)) gg_y_X0_charOf_X10_clamped
set_option maxHeartbeats 40000000 in
set_option maxRecDepth 100000 in
theorem c_y_X0_charOf (l : Launch) (dC : Nat → ClassId) (dI : Nat → Nat → Nat) (cy : Nat → ClassId) (a z : Nat → Nat) (k0 : Nat) (L0 : LV) (σ0 : CS) (r0 : Int32 × CS) (h0 : y_X0_charOf k0 0 L0 σ0 = some r0) (sz : Nat) : Met l yX0_charOf w_y_X0_charOf ({ frames := 1, cells := 0, slots := 0, locals := 21 }) (va_Pc [.ref (a 14), .int (L0.1 1)] (nIn (dC, dI) cy sz (vC cy a z σ0))) (va_Qi (fun (x : Int32) (_ : Unit) => x = r0.1) (fun _ t => nOut (dC, dI) cy (va_A (vC cy a z σ0) sz) (vC cy a z r0.2) t) (va_A (vC cy a z σ0) sz)) 0 0 (va_A (vC cy a z σ0) sz) := by
  refine Met.ofW (cc := cX0_charOf) (maxL := 3) (ret := (some .int)) (by decide) rfl ?_
  intro p e s m args below meth c s₁ B hml hv
  obtain ⟨rfl, hsz, hP, hK, hD0, hG⟩ := hv
  have hx := B.exec
  have hb := B.bytes
  have hr := B.returns
  have hts := atoms_spec (ws := w_y_X0_charOf) B.pre
  have hown : s.vm.findClass RX0 = some m.cls := findClass_of_methodNamed B.named
  have hlocks := B.notSynchronized
  subst hsz
  have hD := hD0.self (sz := s.heap.size)
  generalize hAe : va_A (vC cy a z σ0) s.heap.size = A at hD ⊢
  have hA : ∀ q : Nat, s.heap.size ≤ q → A q := fun q h => by rw [← hAe]; exact Or.inr h
  have hS : va_S A s.heap s.heap [] := va_S.rf
  have hl := lv_entry ([.ref (a 14), .int (L0.1 1)]) (n := 3) (Nat.le_of_ble_eq_true rfl)
  rw [lg_entry_eq]
  generalize (lg_sl ([.ref (a 14), .int (L0.1 1)]) ++ List.replicate (3 - (lg_sl ([.ref (a 14), .int (L0.1 1)])).length) Slot.unset).toArray = ls at hl ⊢
  have hl : lv_has ls 3 [(0, .ref (a 14)), (1, .int (L0.1 1))] := hl
  have blk : ∀ k : Nat, (bC p l e (headSpec w_y_X0_charOf ({ frames := 1, cells := 0, slots := 0, locals := 21 })).room s m #[.ref (a 14), .int (L0.1 1)] below meth c dC dI cy a z A (kI dC dI cy a z A below #[.ref (a 14), .int (L0.1 1)] s) 3 (y_X0_charOf k 0) (fun L => [(0, .ref (a 14)), (1, .int (L.1 1))]) 0 (fun L => [])) ∧ (bC p l e (headSpec w_y_X0_charOf ({ frames := 1, cells := 0, slots := 0, locals := 21 })).room s m #[.ref (a 14), .int (L0.1 1)] below meth c dC dI cy a z A (kI dC dI cy a z A below #[.ref (a 14), .int (L0.1 1)] s) 3 (y_X0_charOf k 1) (fun L => []) 27 (fun L => [])) ∧ (bC p l e (headSpec w_y_X0_charOf ({ frames := 1, cells := 0, slots := 0, locals := 21 })).room s m #[.ref (a 14), .int (L0.1 1)] below meth c dC dI cy a z A (kI dC dI cy a z A below #[.ref (a 14), .int (L0.1 1)] s) 3 (y_X0_charOf k 2) (fun L => []) 29 (fun L => [.int (L.1 100)])) := by
    intro k
    induction k with
    | zero => exact ⟨fun L σ r h => (by cases h), fun L σ r h => (by cases h), fun L σ r h => (by cases h)⟩
    | succ k ih =>
      refine ⟨?_, ?_, ?_⟩
      · intro L σ r h H locs ls hP hD hS hl
        rw [y_X0_charOf] at h
        refine lv_aload_n hx hb dX0_charOf_0 rfl (lv_at hl 0 rfl) ?_
        refine hg_14_1 hx hb hts in_y_X0_charOf_X0 hown hK hP (hts _ (List.mem_cons_of_mem _ (List.mem_append_left _ (List.mem_append_left _ (List.mem_of_getElem? (i := 0) rfl))))) dX0_charOf_1 ?_
        refine lv_iload_n hx hb dX0_charOf_4 rfl (lv_at hl 1 rfl) ?_
        obtain ⟨r1, hc1, h⟩ := oc_ex h
        refine kc_i (va_runV (As := [.int (L.1 1)]) (rest := []) ⟨hx, hb, hml, hown, hts⟩ (c_y_X10_clamped l dC dI cy a z k (lI lZ 1 ((L.1 1))) σ r1 hc1 H.size) (cwV 1 hts g_y_X0_charOf_X10_clamped_V133 rfl rfl rfl hd_y_X10_clamped ⟨Nat.le_of_ble_eq_true rfl, Nat.le_of_ble_eq_true rfl⟩) ⟨nb_blind, va_recv hK hP (ci := 9) (q0 := 4) rfl rfl, (kb_pre hK hG hP hD)⟩ rfl rfl hl.1 rfl (lv_room (Nat.le_of_ble_eq_true rfl)) dX0_charOf_5 ⟨Nat.le_refl _, Nat.le_refl _⟩) hA hP hD hS (fun H locs hP hD hS => ?_)
        refine lv_istore_n (lv' := [(2, .int r1.1), (0, .ref (a 14)), (1, .int (L.1 1))]) hx hb dX0_charOf_8 rfl hl (by decide) rfl (fun ls hl => ?_)
        refine lv_iload_n hx hb dX0_charOf_9 rfl (lv_at hl 0 rfl) ?_
        refine lv_if_lt (tgt := 27) hx hb dX0_charOf_10 (by decide) (fun c2 => ?_) (fun c2 => ?_)
        · rw [if_pos c2] at h
          exact ih.2.1 L r1.2 r h H locs ls hP hD hS (lv_sub hl [] rfl)
        · rw [if_neg c2] at h
          refine lv_iload_n hx hb dX0_charOf_13 rfl (lv_at hl 0 rfl) ?_
          refine lv_sipush (v := 255) hx hb dX0_charOf_14 (by decide) ?_
          refine lv_icmp_gt (tgt := 27) hx hb dX0_charOf_17 (by decide) (fun c3 => ?_) (fun c3 => ?_)
          · rw [if_pos c3] at h
            exact ih.2.1 L r1.2 r h H locs ls hP hD hS (lv_sub hl [] rfl)
          · rw [if_neg c3] at h
            refine lv_ldc (v := (-1073741824)) hx hb hown (hts _ (List.mem_cons_of_mem _ (List.mem_append_left _ (List.mem_append_left _ (List.mem_of_getElem? (i := 5) rfl))))) dX0_charOf_20 ?_
            refine lv_iload_n hx hb dX0_charOf_22 rfl (lv_at hl 0 rfl) ?_
            refine lv_ior hx hb dX0_charOf_23 ?_
            refine lv_goto (tgt := 29) hx hb dX0_charOf_24 (by decide) ?_
            exact ih.2.2 (lI L 100 ((((-1073741824)) ||| r1.1))) r1.2 r h H locs ls hP hD hS (lv_sub hl [] rfl)
      · intro L σ r h H locs ls hP hD hS hl
        rw [y_X0_charOf] at h
        refine lv_ldc (v := (-268435452)) hx hb hown (hts _ (List.mem_cons_of_mem _ (List.mem_append_left _ (List.mem_append_left _ (List.mem_of_getElem? (i := 6) rfl))))) dX0_charOf_27 ?_
        exact ih.2.2 (lI L 100 ((-268435452))) σ r h H locs ls hP hD hS (lv_sub hl [] rfl)
      · intro L σ r h H locs ls hP hD hS hl
        rw [y_X0_charOf] at h
        obtain rfl := Option.some.inj h
        exact W.iret (v := (L.1 100)) hx hb hr (fun t ht hW => ⟨⟨(L.1 100), (), rfl, rfl, by rw [ht]; exact hP, va_K.moved hW.alike hK, hD⟩, hS.F ht⟩) hS.2.2 dX0_charOf_29
  exact (blk k0).1 L0 σ0 r0 h0 s.heap [] ls hP hD hS hl
/-! X0_codeOf -/
def y_X0_codeOf : Nat → Nat → LV → CS → Option (Int32 × CS)
  | 0, _, _, _ => none
  | k + 1, 0, L, σ => oc (y_X1_length k 0 (lI lZ 1 ((L.1 1))) σ) (fun r1 => if r1.1 = 1 then (oc (y_X1_byteAt k 0 (lI (lI lZ 1 ((L.1 1))) 2 0) r1.2) (fun r3 => oc (y_X10_small k 0 (lI lZ 0 r3.1) r3.2) (fun r4 => y_X0_codeOf k 2 (lI L 100 r4.1) r4.2))) else (y_X0_codeOf k 1 L r1.2))
  | k + 1, 1, L, σ => y_X0_codeOf k 2 (lI L 100 ((-268435452))) σ
  | k + 1, 2, L, σ => some ((L.1 100), σ)
  | _ + 1, _ + 3, _, _ => none
def o_y_X0_codeOf : List Cond := [.fieldLink RX0 22 "SetHouse$Algebra" "heap" "LSetHouse$Heap;", .methodLink RX0 100 yX1_length, .instanceMethod yX1_length, .selects RX1 yX1_length yX1_length, .initialized RX1, .methodLink RX0 171 yX1_byteAt, .instanceMethod yX1_byteAt, .selects RX1 yX1_byteAt yX1_byteAt, .methodLink RX0 188 yX10_small, .static yX10_small, .initialized RX10, .constant RX0 132 (-268435452)]
theorem o_y_X0_codeOf_good : o_y_X0_codeOf.all goodWord = true := by decide +kernel
def p_y_X0_codeOf : List Cond := o_y_X0_codeOf ++ ((.code yX1_length cX1_length 2 (some .int) :: p_y_X1_length) ++ ((.code yX1_byteAt cX1_byteAt 3 (some .int) :: p_y_X1_byteAt) ++ ((.code yX10_small cX10_small 1 (some .int) :: p_y_X10_small) ++ [])))
theorem p_y_X0_codeOf_good : p_y_X0_codeOf.all goodWord = true := nb_all2 o_y_X0_codeOf_good (nb_all2 (nb_allc (by decide +kernel) p_y_X1_length_good) (nb_all2 (nb_allc (by decide +kernel) p_y_X1_byteAt_good) (nb_all2 (nb_allc (by decide +kernel) p_y_X10_small_good) rfl)))
def w_y_X0_codeOf : List Cond := .code yX0_codeOf cX0_codeOf 2 (some .int) :: (p_y_X0_codeOf ++ fC)
theorem w_y_X0_codeOf_good : w_y_X0_codeOf.all goodWord = true := nb_allc (by decide +kernel) (nb_all2 p_y_X0_codeOf_good fC_good)
theorem in_y_X0_codeOf_X0 : ∀ w ∈ wsX00, w ∈ w_y_X0_codeOf := fun _ h => List.mem_cons_of_mem _ (List.mem_append_right _ (List.mem_append_left _ h))
theorem hd_y_X0_codeOf : yX0_codeOf.cls = RX0 ∧ yX0_codeOf.cls ≠ "java/lang/invoke/MethodHandle" ∧ yX0_codeOf.cls ≠ "java/lang/invoke/VarHandle" ∧ (parseMethodDescriptor yX0_codeOf.desc).map (fun d => d.parameters.length) = some 1 := by decide +kernel
theorem gg_y_X0_codeOf_X10_small : GoodIn w_y_X0_codeOf w_y_X10_small := goodIn_sub (fun w h => (List.mem_cons.mp h).elim (fun e => (List.mem_cons_of_mem _ (List.mem_append_left _ (List.mem_append_right _ (List.mem_append_right _ (List.mem_append_right _ (List.mem_append_left _ (List.mem_cons.mpr (Or.inl e))))))))) (fun h => (List.mem_append.mp h).elim (fun h => (List.mem_cons_of_mem _ (List.mem_append_left _ (List.mem_append_right _ (List.mem_append_right _ (List.mem_append_right _ (List.mem_append_left _ (List.mem_cons_of_mem _ h)))))))) (fun h => List.mem_cons_of_mem _ (List.mem_append_right _ h)))) w_y_X10_small_good
theorem g_y_X0_codeOf_X10_small_S188 : GoodIn w_y_X0_codeOf (va_wsS RX0 188 yX10_small w_y_X10_small) := goodIn_app (nb_g3 (List.mem_cons_of_mem _ (List.mem_append_left _ (List.mem_append_left _ (List.mem_of_getElem? (i := 8) rfl)))) (List.mem_cons_of_mem _ (List.mem_append_left _ (List.mem_append_left _ (List.mem_of_getElem? (i := 9) rfl)))) (List.mem_cons_of_mem _ (List.mem_append_left _ (List.mem_append_left _ (List.mem_of_getElem? (i := 10) rfl)))) (by decide +kernel)) gg_y_X0_codeOf_X10_small
theorem gg_y_X0_codeOf_X1_byteAt : GoodIn w_y_X0_codeOf w_y_X1_byteAt := goodIn_sub (fun w h => (List.mem_cons.mp h).elim (fun e => (List.mem_cons_of_mem _ (List.mem_append_left _ (List.mem_append_right _ (List.mem_append_right _ (List.mem_append_left _ (List.mem_cons.mpr (Or.inl e)))))))) (fun h => (List.mem_append.mp h).elim (fun h => (List.mem_cons_of_mem _ (List.mem_append_left _ (List.mem_append_right _ (List.mem_append_right _ (List.mem_append_left _ (List.mem_cons_of_mem _ h))))))) (fun h => List.mem_cons_of_mem _ (List.mem_append_right _ h)))) w_y_X1_byteAt_good
theorem g_y_X0_codeOf_X1_byteAt_V171 : GoodIn w_y_X0_codeOf (wsV RX0 171 RX1 yX1_byteAt w_y_X1_byteAt) := goodIn_app (nb_g4 (List.mem_cons_of_mem _ (List.mem_append_left _ (List.mem_append_left _ (List.mem_of_getElem? (i := 5) rfl)))) (List.mem_cons_of_mem _ (List.mem_append_left _ (List.mem_append_left _ (List.mem_of_getElem? (i := 6) rfl)))) (List.mem_cons_of_mem _ (List.mem_append_left _ (List.mem_append_left _ (List.mem_of_getElem? (i := 7) rfl)))) (List.mem_cons_of_mem _ (List.mem_append_left _ (List.mem_append_left _ (List.mem_of_getElem? (i := 4) rfl)))) (by decide +kernel)) gg_y_X0_codeOf_X1_byteAt
theorem gg_y_X0_codeOf_X1_length : GoodIn w_y_X0_codeOf w_y_X1_length := goodIn_sub (fun w h => (List.mem_cons.mp h).elim (fun e => (List.mem_cons_of_mem _ (List.mem_append_left _ (List.mem_append_right _ (List.mem_append_left _ (List.mem_cons.mpr (Or.inl e))))))) (fun h => (List.mem_append.mp h).elim (fun h => (List.mem_cons_of_mem _ (List.mem_append_left _ (List.mem_append_right _ (List.mem_append_left _ (List.mem_cons_of_mem _ h)))))) (fun h => List.mem_cons_of_mem _ (List.mem_append_right _ h)))) w_y_X1_length_good
theorem g_y_X0_codeOf_X1_length_V100 : GoodIn w_y_X0_codeOf (wsV RX0 100 RX1 yX1_length w_y_X1_length) := goodIn_app (nb_g4 (List.mem_cons_of_mem _ (List.mem_append_left _ (List.mem_append_left _ (List.mem_of_getElem? (i := 1) rfl)))) (List.mem_cons_of_mem _ (List.mem_append_left _ (List.mem_append_left _ (List.mem_of_getElem? (i := 2) rfl)))) (List.mem_cons_of_mem _ (List.mem_append_left _ (List.mem_append_left _ (List.mem_of_getElem? (i := 3) rfl)))) (List.mem_cons_of_mem _ (List.mem_append_left _ (List.mem_append_left _ (List.mem_of_getElem? (i := 4) rfl)))) (by decide +kernel)) gg_y_X0_codeOf_X1_length
set_option maxHeartbeats 40000000 in
set_option maxRecDepth 100000 in
theorem c_y_X0_codeOf (l : Launch) (dC : Nat → ClassId) (dI : Nat → Nat → Nat) (cy : Nat → ClassId) (a z : Nat → Nat) (k0 : Nat) (L0 : LV) (σ0 : CS) (r0 : Int32 × CS) (h0 : y_X0_codeOf k0 0 L0 σ0 = some r0) (sz : Nat) : Met l yX0_codeOf w_y_X0_codeOf ({ frames := 1, cells := 0, slots := 0, locals := 22 }) (va_Pc [.ref (a 14), .int (L0.1 1)] (nIn (dC, dI) cy sz (vC cy a z σ0))) (va_Qi (fun (x : Int32) (_ : Unit) => x = r0.1) (fun _ t => nOut (dC, dI) cy (va_A (vC cy a z σ0) sz) (vC cy a z r0.2) t) (va_A (vC cy a z σ0) sz)) 0 0 (va_A (vC cy a z σ0) sz) := by
  refine Met.ofW (cc := cX0_codeOf) (maxL := 2) (ret := (some .int)) (by decide) rfl ?_
  intro p e s m args below meth c s₁ B hml hv
  obtain ⟨rfl, hsz, hP, hK, hD0, hG⟩ := hv
  have hx := B.exec
  have hb := B.bytes
  have hr := B.returns
  have hts := atoms_spec (ws := w_y_X0_codeOf) B.pre
  have hown : s.vm.findClass RX0 = some m.cls := findClass_of_methodNamed B.named
  have hlocks := B.notSynchronized
  subst hsz
  have hD := hD0.self (sz := s.heap.size)
  generalize hAe : va_A (vC cy a z σ0) s.heap.size = A at hD ⊢
  have hA : ∀ q : Nat, s.heap.size ≤ q → A q := fun q h => by rw [← hAe]; exact Or.inr h
  have hS : va_S A s.heap s.heap [] := va_S.rf
  have hl := lv_entry ([.ref (a 14), .int (L0.1 1)]) (n := 2) (Nat.le_of_ble_eq_true rfl)
  rw [lg_entry_eq]
  generalize (lg_sl ([.ref (a 14), .int (L0.1 1)]) ++ List.replicate (2 - (lg_sl ([.ref (a 14), .int (L0.1 1)])).length) Slot.unset).toArray = ls at hl ⊢
  have hl : lv_has ls 2 [(0, .ref (a 14)), (1, .int (L0.1 1))] := hl
  have blk : ∀ k : Nat, (bC p l e (headSpec w_y_X0_codeOf ({ frames := 1, cells := 0, slots := 0, locals := 22 })).room s m #[.ref (a 14), .int (L0.1 1)] below meth c dC dI cy a z A (kI dC dI cy a z A below #[.ref (a 14), .int (L0.1 1)] s) 2 (y_X0_codeOf k 0) (fun L => [(0, .ref (a 14)), (1, .int (L.1 1))]) 0 (fun L => [])) ∧ (bC p l e (headSpec w_y_X0_codeOf ({ frames := 1, cells := 0, slots := 0, locals := 22 })).room s m #[.ref (a 14), .int (L0.1 1)] below meth c dC dI cy a z A (kI dC dI cy a z A below #[.ref (a 14), .int (L0.1 1)] s) 2 (y_X0_codeOf k 1) (fun L => []) 27 (fun L => [])) ∧ (bC p l e (headSpec w_y_X0_codeOf ({ frames := 1, cells := 0, slots := 0, locals := 22 })).room s m #[.ref (a 14), .int (L0.1 1)] below meth c dC dI cy a z A (kI dC dI cy a z A below #[.ref (a 14), .int (L0.1 1)] s) 2 (y_X0_codeOf k 2) (fun L => []) 29 (fun L => [.int (L.1 100)])) := by
    intro k
    induction k with
    | zero => exact ⟨fun L σ r h => (by cases h), fun L σ r h => (by cases h), fun L σ r h => (by cases h)⟩
    | succ k ih =>
      refine ⟨?_, ?_, ?_⟩
      · intro L σ r h H locs ls hP hD hS hl
        rw [y_X0_codeOf] at h
        refine lv_aload_n hx hb dX0_codeOf_0 rfl (lv_at hl 0 rfl) ?_
        refine hg_14_0 hx hb hts in_y_X0_codeOf_X0 hown hK hP (hts _ (List.mem_cons_of_mem _ (List.mem_append_left _ (List.mem_append_left _ (List.mem_of_getElem? (i := 0) rfl))))) dX0_codeOf_1 ?_
        refine lv_iload_n hx hb dX0_codeOf_4 rfl (lv_at hl 1 rfl) ?_
        obtain ⟨r1, hc1, h⟩ := oc_ex h
        refine kc_i (va_runV (As := [.int (L.1 1)]) (rest := []) ⟨hx, hb, hml, hown, hts⟩ (c_y_X1_length l dC dI cy a z k (lI lZ 1 ((L.1 1))) σ r1 hc1 H.size) (cwV 1 hts g_y_X0_codeOf_X1_length_V100 rfl rfl rfl hd_y_X1_length ⟨Nat.le_of_ble_eq_true rfl, Nat.le_of_ble_eq_true rfl⟩) ⟨nb_blind, va_recv hK hP (ci := 1) (q0 := 0) rfl rfl, (kb_pre hK hG hP hD)⟩ rfl rfl hl.1 rfl (lv_room (Nat.le_of_ble_eq_true rfl)) dX0_codeOf_5 ⟨Nat.le_refl _, Nat.le_refl _⟩) hA hP hD hS (fun H locs hP hD hS => ?_)
        refine lv_iconst (v := 1) hx hb dX0_codeOf_8 (by decide) ?_
        refine lv_icmp_ne (tgt := 27) hx hb dX0_codeOf_9 (by decide) (fun c2 => ?_) (fun c2 => ?_)
        · rw [if_neg c2] at h
          exact ih.2.1 L r1.2 r h H locs ls hP hD hS (lv_sub hl [] rfl)
        · rw [if_pos c2] at h
          refine lv_aload_n hx hb dX0_codeOf_12 rfl (lv_at hl 0 rfl) ?_
          refine hg_14_0 hx hb hts in_y_X0_codeOf_X0 hown hK hP (hts _ (List.mem_cons_of_mem _ (List.mem_append_left _ (List.mem_append_left _ (List.mem_of_getElem? (i := 0) rfl))))) dX0_codeOf_13 ?_
          refine lv_iload_n hx hb dX0_codeOf_16 rfl (lv_at hl 1 rfl) ?_
          refine lv_iconst (v := 0) hx hb dX0_codeOf_17 (by decide) ?_
          obtain ⟨r3, hc3, h⟩ := oc_ex h
          refine kc_i (va_runV (As := [.int (L.1 1), .int 0]) (rest := []) ⟨hx, hb, hml, hown, hts⟩ (c_y_X1_byteAt l dC dI cy a z k (lI (lI lZ 1 ((L.1 1))) 2 0) r1.2 r3 hc3 H.size) (cwV 2 hts g_y_X0_codeOf_X1_byteAt_V171 rfl rfl rfl hd_y_X1_byteAt ⟨Nat.le_of_ble_eq_true rfl, Nat.le_of_ble_eq_true rfl⟩) ⟨nb_blind, va_recv hK hP (ci := 1) (q0 := 0) rfl rfl, (kb_pre hK hG hP hD)⟩ rfl rfl hl.1 rfl (lv_room (Nat.le_of_ble_eq_true rfl)) dX0_codeOf_18 ⟨Nat.le_refl _, Nat.le_refl _⟩) hA hP hD hS (fun H locs hP hD hS => ?_)
          obtain ⟨r4, hc4, h⟩ := oc_ex h
          refine kc_i (va_runS (As := [.int r3.1]) (rest := []) ⟨hx, hb, hml, hown, hts⟩ (c_y_X10_small l dC dI cy a z k (lI lZ 0 r3.1) r3.2 r4 hc4 H.size) (va_cwS 1 hts g_y_X0_codeOf_X10_small_S188 rfl rfl rfl hd_y_X10_small ⟨Nat.le_of_ble_eq_true rfl, Nat.le_of_ble_eq_true rfl⟩) ⟨nb_blind, (kb_pre hK hG hP hD)⟩ rfl rfl hl.1 rfl (lv_room (Nat.le_of_ble_eq_true rfl)) dX0_codeOf_21 ⟨Nat.le_refl _, Nat.le_refl _⟩) hA hP hD hS (fun H locs hP hD hS => ?_)
          refine lv_goto (tgt := 29) hx hb dX0_codeOf_24 (by decide) ?_
          exact ih.2.2 (lI L 100 r4.1) r4.2 r h H locs ls hP hD hS (lv_sub hl [] rfl)
      · intro L σ r h H locs ls hP hD hS hl
        rw [y_X0_codeOf] at h
        refine lv_ldc (v := (-268435452)) hx hb hown (hts _ (List.mem_cons_of_mem _ (List.mem_append_left _ (List.mem_append_left _ (List.mem_of_getElem? (i := 11) rfl))))) dX0_codeOf_27 ?_
        exact ih.2.2 (lI L 100 ((-268435452))) σ r h H locs ls hP hD hS (lv_sub hl [] rfl)
      · intro L σ r h H locs ls hP hD hS hl
        rw [y_X0_codeOf] at h
        obtain rfl := Option.some.inj h
        exact W.iret (v := (L.1 100)) hx hb hr (fun t ht hW => ⟨⟨(L.1 100), (), rfl, rfl, by rw [ht]; exact hP, va_K.moved hW.alike hK, hD⟩, hS.F ht⟩) hS.2.2 dX0_codeOf_29
  exact (blk k0).1 L0 σ0 r0 h0 s.heap [] ls hP hD hS hl
/-! X0_reversed -/
def y_X0_reversed : Nat → Nat → LV → CS → Option (Int32 × CS)
  | 0, _, _, _ => none
  | k + 1, 0, L, σ => oc (y_X1_length k 0 (lI lZ 1 ((L.1 1))) σ) (fun r1 => if ((L.1 2)) = 4 then (y_X0_reversed k 2 (lI (lI L 3 r1.1) 4 0) r1.2) else (y_X0_reversed k 1 (lI L 3 r1.1) r1.2))
  | k + 1, 1, L, σ => y_X0_reversed k 3 (lI L 4 0) σ
  | k + 1, 2, L, σ => if ((L.1 3)) ≤ ((L.1 4)) then (y_X0_reversed k 4 L σ) else (if ((Int32.ofNat 8192)) ≤ ((L.1 4)) then (y_X0_reversed k 4 L σ) else (oc (y_X1_byteAt k 0 (lI (lI lZ 1 ((L.1 1))) 2 ((((((L.1 3)) - 1)) - ((L.1 4))))) σ) (fun r3 => if ¬ (((L.1 4)) < 0 ∨ 8192 ≤ ((L.1 4)).toNatClampNeg) then (y_X0_reversed k 2 (lI L 4 ((((L.1 4)) + 1))) (uA r3.2 15 ((L.1 4)).toNatClampNeg (vp_nar .byte ((r3.1.toInt8.toInt32))))) else none)))
  | k + 1, 3, L, σ => if ((L.1 3)) ≤ ((L.1 4)) then (y_X0_reversed k 5 L σ) else (if ((Int32.ofNat 2048)) ≤ ((L.1 4)) then (y_X0_reversed k 5 L σ) else (oc (y_X1_member k 0 (lI (lI lZ 1 ((L.1 1))) 2 ((((((L.1 3)) - 1)) - ((L.1 4))))) σ) (fun r3 => if ¬ (((L.1 4)) < 0 ∨ 2048 ≤ ((L.1 4)).toNatClampNeg) then (y_X0_reversed k 3 (lI L 4 ((((L.1 4)) + 1))) (uA r3.2 16 ((L.1 4)).toNatClampNeg r3.1)) else none)))
  | k + 1, 4, L, σ => oc (y_X1_makeString__a15 k 0 (lI (lI lZ 2 0) 3 ((L.1 3))) σ) (fun r1 => some (r1.1, r1.2))
  | k + 1, 5, L, σ => oc (y_X1_makeTuple__a16 k 0 (lI (lI lZ 2 0) 3 ((L.1 3))) σ) (fun r1 => some (r1.1, r1.2))
  | _ + 1, _ + 6, _, _ => none
def o_y_X0_reversed : List Cond := [.fieldLink RX0 22 "SetHouse$Algebra" "heap" "LSetHouse$Heap;", .methodLink RX0 100 yX1_length, .instanceMethod yX1_length, .selects RX1 yX1_length yX1_length, .initialized RX1, .fieldLink RX0 9 "SetHouse$Algebra" "bytes" "[B", .methodLink RX0 171 yX1_byteAt, .instanceMethod yX1_byteAt, .selects RX1 yX1_byteAt yX1_byteAt, .fieldLink RX0 15 "SetHouse$Algebra" "row" "[I", .methodLink RX0 154 yX1_member, .instanceMethod yX1_member, .selects RX1 yX1_member yX1_member, .methodLink RX0 118 yX1_makeString, .instanceMethod yX1_makeString, .selects RX1 yX1_makeString yX1_makeString, .methodLink RX0 107 yX1_makeTuple, .instanceMethod yX1_makeTuple, .selects RX1 yX1_makeTuple yX1_makeTuple]
theorem o_y_X0_reversed_good : o_y_X0_reversed.all goodWord = true := by decide +kernel
def p_y_X0_reversed : List Cond := o_y_X0_reversed ++ ((.code yX1_length cX1_length 2 (some .int) :: p_y_X1_length) ++ ((.code yX1_byteAt cX1_byteAt 3 (some .int) :: p_y_X1_byteAt) ++ ((.code yX1_member cX1_member 3 (some .int) :: p_y_X1_member) ++ ((.code yX1_makeString cX1_makeString 9 (some .int) :: p_y_X1_makeString__a15) ++ ((.code yX1_makeTuple cX1_makeTuple 6 (some .int) :: p_y_X1_makeTuple__a16) ++ [])))))
theorem p_y_X0_reversed_good : p_y_X0_reversed.all goodWord = true := nb_all2 o_y_X0_reversed_good (nb_all2 (nb_allc (by decide +kernel) p_y_X1_length_good) (nb_all2 (nb_allc (by decide +kernel) p_y_X1_byteAt_good) (nb_all2 (nb_allc (by decide +kernel) p_y_X1_member_good) (nb_all2 (nb_allc (by decide +kernel) p_y_X1_makeString__a15_good) (nb_all2 (nb_allc (by decide +kernel) p_y_X1_makeTuple__a16_good) rfl)))))
def w_y_X0_reversed : List Cond := .code yX0_reversed cX0_reversed 5 (some .int) :: (p_y_X0_reversed ++ fC)
theorem w_y_X0_reversed_good : w_y_X0_reversed.all goodWord = true := nb_allc (by decide +kernel) (nb_all2 p_y_X0_reversed_good fC_good)
theorem in_y_X0_reversed_X0 : ∀ w ∈ wsX00, w ∈ w_y_X0_reversed := fun _ h => List.mem_cons_of_mem _ (List.mem_append_right _ (List.mem_append_left _ h))
theorem hd_y_X0_reversed : yX0_reversed.cls = RX0 ∧ yX0_reversed.cls ≠ "java/lang/invoke/MethodHandle" ∧ yX0_reversed.cls ≠ "java/lang/invoke/VarHandle" ∧ (parseMethodDescriptor yX0_reversed.desc).map (fun d => d.parameters.length) = some 2 := by decide +kernel
theorem gg_y_X0_reversed_X1_byteAt : GoodIn w_y_X0_reversed w_y_X1_byteAt := goodIn_sub (fun w h => (List.mem_cons.mp h).elim (fun e => (List.mem_cons_of_mem _ (List.mem_append_left _ (List.mem_append_right _ (List.mem_append_right _ (List.mem_append_left _ (List.mem_cons.mpr (Or.inl e)))))))) (fun h => (List.mem_append.mp h).elim (fun h => (List.mem_cons_of_mem _ (List.mem_append_left _ (List.mem_append_right _ (List.mem_append_right _ (List.mem_append_left _ (List.mem_cons_of_mem _ h))))))) (fun h => List.mem_cons_of_mem _ (List.mem_append_right _ h)))) w_y_X1_byteAt_good
theorem g_y_X0_reversed_X1_byteAt_V171 : GoodIn w_y_X0_reversed (wsV RX0 171 RX1 yX1_byteAt w_y_X1_byteAt) := goodIn_app (nb_g4 (List.mem_cons_of_mem _ (List.mem_append_left _ (List.mem_append_left _ (List.mem_of_getElem? (i := 6) rfl)))) (List.mem_cons_of_mem _ (List.mem_append_left _ (List.mem_append_left _ (List.mem_of_getElem? (i := 7) rfl)))) (List.mem_cons_of_mem _ (List.mem_append_left _ (List.mem_append_left _ (List.mem_of_getElem? (i := 8) rfl)))) (List.mem_cons_of_mem _ (List.mem_append_left _ (List.mem_append_left _ (List.mem_of_getElem? (i := 4) rfl)))) (by decide +kernel)) gg_y_X0_reversed_X1_byteAt
theorem gg_y_X0_reversed_X1_length : GoodIn w_y_X0_reversed w_y_X1_length := goodIn_sub (fun w h => (List.mem_cons.mp h).elim (fun e => (List.mem_cons_of_mem _ (List.mem_append_left _ (List.mem_append_right _ (List.mem_append_left _ (List.mem_cons.mpr (Or.inl e))))))) (fun h => (List.mem_append.mp h).elim (fun h => (List.mem_cons_of_mem _ (List.mem_append_left _ (List.mem_append_right _ (List.mem_append_left _ (List.mem_cons_of_mem _ h)))))) (fun h => List.mem_cons_of_mem _ (List.mem_append_right _ h)))) w_y_X1_length_good
theorem g_y_X0_reversed_X1_length_V100 : GoodIn w_y_X0_reversed (wsV RX0 100 RX1 yX1_length w_y_X1_length) := goodIn_app (nb_g4 (List.mem_cons_of_mem _ (List.mem_append_left _ (List.mem_append_left _ (List.mem_of_getElem? (i := 1) rfl)))) (List.mem_cons_of_mem _ (List.mem_append_left _ (List.mem_append_left _ (List.mem_of_getElem? (i := 2) rfl)))) (List.mem_cons_of_mem _ (List.mem_append_left _ (List.mem_append_left _ (List.mem_of_getElem? (i := 3) rfl)))) (List.mem_cons_of_mem _ (List.mem_append_left _ (List.mem_append_left _ (List.mem_of_getElem? (i := 4) rfl)))) (by decide +kernel)) gg_y_X0_reversed_X1_length
theorem gg_y_X0_reversed_X1_makeString__a15 : GoodIn w_y_X0_reversed w_y_X1_makeString__a15 := goodIn_sub (fun w h => (List.mem_cons.mp h).elim (fun e => (List.mem_cons_of_mem _ (List.mem_append_left _ (List.mem_append_right _ (List.mem_append_right _ (List.mem_append_right _ (List.mem_append_right _ (List.mem_append_left _ (List.mem_cons.mpr (Or.inl e)))))))))) (fun h => (List.mem_append.mp h).elim (fun h => (List.mem_cons_of_mem _ (List.mem_append_left _ (List.mem_append_right _ (List.mem_append_right _ (List.mem_append_right _ (List.mem_append_right _ (List.mem_append_left _ (List.mem_cons_of_mem _ h))))))))) (fun h => List.mem_cons_of_mem _ (List.mem_append_right _ h)))) w_y_X1_makeString__a15_good
theorem g_y_X0_reversed_X1_makeString__a15_V118 : GoodIn w_y_X0_reversed (wsV RX0 118 RX1 yX1_makeString w_y_X1_makeString__a15) := goodIn_app (nb_g4 (List.mem_cons_of_mem _ (List.mem_append_left _ (List.mem_append_left _ (List.mem_of_getElem? (i := 13) rfl)))) (List.mem_cons_of_mem _ (List.mem_append_left _ (List.mem_append_left _ (List.mem_of_getElem? (i := 14) rfl)))) (List.mem_cons_of_mem _ (List.mem_append_left _ (List.mem_append_left _ (List.mem_of_getElem? (i := 15) rfl)))) (List.mem_cons_of_mem _ (List.mem_append_left _ (List.mem_append_left _ (List.mem_of_getElem? (i := 4) rfl)))) (by decide +kernel)) gg_y_X0_reversed_X1_makeString__a15
theorem gg_y_X0_reversed_X1_makeTuple__a16 : GoodIn w_y_X0_reversed w_y_X1_makeTuple__a16 := goodIn_sub (fun w h => (List.mem_cons.mp h).elim (fun e => (List.mem_cons_of_mem _ (List.mem_append_left _ (List.mem_append_right _ (List.mem_append_right _ (List.mem_append_right _ (List.mem_append_right _ (List.mem_append_right _ (List.mem_append_left _ (List.mem_cons.mpr (Or.inl e))))))))))) (fun h => (List.mem_append.mp h).elim (fun h => (List.mem_cons_of_mem _ (List.mem_append_left _ (List.mem_append_right _ (List.mem_append_right _ (List.mem_append_right _ (List.mem_append_right _ (List.mem_append_right _ (List.mem_append_left _ (List.mem_cons_of_mem _ h)))))))))) (fun h => List.mem_cons_of_mem _ (List.mem_append_right _ h)))) w_y_X1_makeTuple__a16_good
theorem g_y_X0_reversed_X1_makeTuple__a16_V107 : GoodIn w_y_X0_reversed (wsV RX0 107 RX1 yX1_makeTuple w_y_X1_makeTuple__a16) := goodIn_app (nb_g4 (List.mem_cons_of_mem _ (List.mem_append_left _ (List.mem_append_left _ (List.mem_of_getElem? (i := 16) rfl)))) (List.mem_cons_of_mem _ (List.mem_append_left _ (List.mem_append_left _ (List.mem_of_getElem? (i := 17) rfl)))) (List.mem_cons_of_mem _ (List.mem_append_left _ (List.mem_append_left _ (List.mem_of_getElem? (i := 18) rfl)))) (List.mem_cons_of_mem _ (List.mem_append_left _ (List.mem_append_left _ (List.mem_of_getElem? (i := 4) rfl)))) (by decide +kernel)) gg_y_X0_reversed_X1_makeTuple__a16
theorem gg_y_X0_reversed_X1_member : GoodIn w_y_X0_reversed w_y_X1_member := goodIn_sub (fun w h => (List.mem_cons.mp h).elim (fun e => (List.mem_cons_of_mem _ (List.mem_append_left _ (List.mem_append_right _ (List.mem_append_right _ (List.mem_append_right _ (List.mem_append_left _ (List.mem_cons.mpr (Or.inl e))))))))) (fun h => (List.mem_append.mp h).elim (fun h => (List.mem_cons_of_mem _ (List.mem_append_left _ (List.mem_append_right _ (List.mem_append_right _ (List.mem_append_right _ (List.mem_append_left _ (List.mem_cons_of_mem _ h)))))))) (fun h => List.mem_cons_of_mem _ (List.mem_append_right _ h)))) w_y_X1_member_good
theorem g_y_X0_reversed_X1_member_V154 : GoodIn w_y_X0_reversed (wsV RX0 154 RX1 yX1_member w_y_X1_member) := goodIn_app (nb_g4 (List.mem_cons_of_mem _ (List.mem_append_left _ (List.mem_append_left _ (List.mem_of_getElem? (i := 10) rfl)))) (List.mem_cons_of_mem _ (List.mem_append_left _ (List.mem_append_left _ (List.mem_of_getElem? (i := 11) rfl)))) (List.mem_cons_of_mem _ (List.mem_append_left _ (List.mem_append_left _ (List.mem_of_getElem? (i := 12) rfl)))) (List.mem_cons_of_mem _ (List.mem_append_left _ (List.mem_append_left _ (List.mem_of_getElem? (i := 4) rfl)))) (by decide +kernel)) gg_y_X0_reversed_X1_member
set_option maxHeartbeats 40000000 in
set_option maxRecDepth 100000 in
theorem c_y_X0_reversed (l : Launch) (dC : Nat → ClassId) (dI : Nat → Nat → Nat) (cy : Nat → ClassId) (a z : Nat → Nat) (k0 : Nat) (L0 : LV) (σ0 : CS) (r0 : Int32 × CS) (h0 : y_X0_reversed k0 0 L0 σ0 = some r0) (sz : Nat) : Met l yX0_reversed w_y_X0_reversed ({ frames := 3, cells := 0, slots := 0, locals := 115 }) (va_Pc [.ref (a 14), .int (L0.1 1), .int (L0.1 2)] (nIn (dC, dI) cy sz (vC cy a z σ0))) (va_Qi (fun (x : Int32) (_ : Unit) => x = r0.1) (fun _ t => nOut (dC, dI) cy (va_A (vC cy a z σ0) sz) (vC cy a z r0.2) t) (va_A (vC cy a z σ0) sz)) 0 0 (va_A (vC cy a z σ0) sz) := by
  refine Met.ofW (cc := cX0_reversed) (maxL := 5) (ret := (some .int)) (by decide) rfl ?_
  intro p e s m args below meth c s₁ B hml hv
  obtain ⟨rfl, hsz, hP, hK, hD0, hG⟩ := hv
  have hx := B.exec
  have hb := B.bytes
  have hr := B.returns
  have hts := atoms_spec (ws := w_y_X0_reversed) B.pre
  have hown : s.vm.findClass RX0 = some m.cls := findClass_of_methodNamed B.named
  have hlocks := B.notSynchronized
  subst hsz
  have hD := hD0.self (sz := s.heap.size)
  generalize hAe : va_A (vC cy a z σ0) s.heap.size = A at hD ⊢
  have hA : ∀ q : Nat, s.heap.size ≤ q → A q := fun q h => by rw [← hAe]; exact Or.inr h
  have hS : va_S A s.heap s.heap [] := va_S.rf
  have hl := lv_entry ([.ref (a 14), .int (L0.1 1), .int (L0.1 2)]) (n := 5) (Nat.le_of_ble_eq_true rfl)
  rw [lg_entry_eq]
  generalize (lg_sl ([.ref (a 14), .int (L0.1 1), .int (L0.1 2)]) ++ List.replicate (5 - (lg_sl ([.ref (a 14), .int (L0.1 1), .int (L0.1 2)])).length) Slot.unset).toArray = ls at hl ⊢
  have hl : lv_has ls 5 [(0, .ref (a 14)), (1, .int (L0.1 1)), (2, .int (L0.1 2))] := hl
  have blk : ∀ k : Nat, (bC p l e (headSpec w_y_X0_reversed ({ frames := 3, cells := 0, slots := 0, locals := 115 })).room s m #[.ref (a 14), .int (L0.1 1), .int (L0.1 2)] below meth c dC dI cy a z A (kI dC dI cy a z A below #[.ref (a 14), .int (L0.1 1), .int (L0.1 2)] s) 5 (y_X0_reversed k 0) (fun L => [(0, .ref (a 14)), (1, .int (L.1 1)), (2, .int (L.1 2))]) 0 (fun L => [])) ∧ (bC p l e (headSpec w_y_X0_reversed ({ frames := 3, cells := 0, slots := 0, locals := 115 })).room s m #[.ref (a 14), .int (L0.1 1), .int (L0.1 2)] below meth c dC dI cy a z A (kI dC dI cy a z A below #[.ref (a 14), .int (L0.1 1), .int (L0.1 2)] s) 5 (y_X0_reversed k 1) (fun L => [(0, .ref (a 14)), (1, .int (L.1 1)), (3, .int (L.1 3))]) 75 (fun L => [])) ∧ (bC p l e (headSpec w_y_X0_reversed ({ frames := 3, cells := 0, slots := 0, locals := 115 })).room s m #[.ref (a 14), .int (L0.1 1), .int (L0.1 2)] below meth c dC dI cy a z A (kI dC dI cy a z A below #[.ref (a 14), .int (L0.1 1), .int (L0.1 2)] s) 5 (y_X0_reversed k 2) (fun L => [(0, .ref (a 14)), (1, .int (L.1 1)), (3, .int (L.1 3)), (4, .int (L.1 4))]) 17 (fun L => [])) ∧ (bC p l e (headSpec w_y_X0_reversed ({ frames := 3, cells := 0, slots := 0, locals := 115 })).room s m #[.ref (a 14), .int (L0.1 1), .int (L0.1 2)] below meth c dC dI cy a z A (kI dC dI cy a z A below #[.ref (a 14), .int (L0.1 1), .int (L0.1 2)] s) 5 (y_X0_reversed k 3) (fun L => [(0, .ref (a 14)), (1, .int (L.1 1)), (3, .int (L.1 3)), (4, .int (L.1 4))]) 78 (fun L => [])) ∧ (bC p l e (headSpec w_y_X0_reversed ({ frames := 3, cells := 0, slots := 0, locals := 115 })).room s m #[.ref (a 14), .int (L0.1 1), .int (L0.1 2)] below meth c dC dI cy a z A (kI dC dI cy a z A below #[.ref (a 14), .int (L0.1 1), .int (L0.1 2)] s) 5 (y_X0_reversed k 4) (fun L => [(0, .ref (a 14)), (3, .int (L.1 3))]) 61 (fun L => [])) ∧ (bC p l e (headSpec w_y_X0_reversed ({ frames := 3, cells := 0, slots := 0, locals := 115 })).room s m #[.ref (a 14), .int (L0.1 1), .int (L0.1 2)] below meth c dC dI cy a z A (kI dC dI cy a z A below #[.ref (a 14), .int (L0.1 1), .int (L0.1 2)] s) 5 (y_X0_reversed k 5) (fun L => [(0, .ref (a 14)), (3, .int (L.1 3))]) 121 (fun L => [])) := by
    intro k
    induction k with
    | zero => exact ⟨fun L σ r h => (by cases h), fun L σ r h => (by cases h), fun L σ r h => (by cases h), fun L σ r h => (by cases h), fun L σ r h => (by cases h), fun L σ r h => (by cases h)⟩
    | succ k ih =>
      refine ⟨?_, ?_, ?_, ?_, ?_, ?_⟩
      · intro L σ r h H locs ls hP hD hS hl
        rw [y_X0_reversed] at h
        refine lv_aload_n hx hb dX0_reversed_0 rfl (lv_at hl 0 rfl) ?_
        refine hg_14_0 hx hb hts in_y_X0_reversed_X0 hown hK hP (hts _ (List.mem_cons_of_mem _ (List.mem_append_left _ (List.mem_append_left _ (List.mem_of_getElem? (i := 0) rfl))))) dX0_reversed_1 ?_
        refine lv_iload_n hx hb dX0_reversed_4 rfl (lv_at hl 1 rfl) ?_
        obtain ⟨r1, hc1, h⟩ := oc_ex h
        refine kc_i (va_runV (As := [.int (L.1 1)]) (rest := []) ⟨hx, hb, hml, hown, hts⟩ (c_y_X1_length l dC dI cy a z k (lI lZ 1 ((L.1 1))) σ r1 hc1 H.size) (cwV 1 hts g_y_X0_reversed_X1_length_V100 rfl rfl rfl hd_y_X1_length ⟨Nat.le_of_ble_eq_true rfl, Nat.le_of_ble_eq_true rfl⟩) ⟨nb_blind, va_recv hK hP (ci := 1) (q0 := 0) rfl rfl, (kb_pre hK hG hP hD)⟩ rfl rfl hl.1 rfl (lv_room (Nat.le_of_ble_eq_true rfl)) dX0_reversed_5 ⟨Nat.le_refl _, Nat.le_refl _⟩) hA hP hD hS (fun H locs hP hD hS => ?_)
        refine lv_istore_n (lv' := [(3, .int r1.1), (0, .ref (a 14)), (1, .int (L.1 1)), (2, .int (L.1 2))]) hx hb dX0_reversed_8 rfl hl (by decide) rfl (fun ls hl => ?_)
        refine lv_iload_n hx hb dX0_reversed_9 rfl (lv_at hl 3 rfl) ?_
        refine lv_iconst (v := 4) hx hb dX0_reversed_10 (by decide) ?_
        refine lv_icmp_ne (tgt := 75) hx hb dX0_reversed_11 (by decide) (fun c2 => ?_) (fun c2 => ?_)
        · rw [if_neg c2] at h
          exact ih.2.1 (lI L 3 r1.1) r1.2 r h H locs ls hP hD hS (lv_sub hl [1, 2, 0] rfl)
        · rw [if_pos c2] at h
          refine lv_iconst (v := 0) hx hb dX0_reversed_14 (by decide) ?_
          refine lv_istore (lv' := [(4, .int 0), (3, .int r1.1), (0, .ref (a 14)), (1, .int (L.1 1)), (2, .int (L.1 2))]) hx hb dX0_reversed_15 hl (by decide) rfl (fun ls hl => ?_)
          exact ih.2.2.1 (lI (lI L 3 r1.1) 4 0) r1.2 r h H locs ls hP hD hS (lv_sub hl [2, 3, 1, 0] rfl)
      · intro L σ r h H locs ls hP hD hS hl
        rw [y_X0_reversed] at h
        refine lv_iconst (v := 0) hx hb dX0_reversed_75 (by decide) ?_
        refine lv_istore (lv' := [(4, .int 0), (0, .ref (a 14)), (1, .int (L.1 1)), (3, .int (L.1 3))]) hx hb dX0_reversed_76 hl (by decide) rfl (fun ls hl => ?_)
        exact ih.2.2.2.1 (lI L 4 0) σ r h H locs ls hP hD hS (lv_sub hl [1, 2, 3, 0] rfl)
      · intro L σ r h H locs ls hP hD hS hl
        rw [y_X0_reversed] at h
        refine lv_iload hx hb dX0_reversed_17 (lv_at hl 3 rfl) ?_
        refine lv_iload_n hx hb dX0_reversed_19 rfl (lv_at hl 2 rfl) ?_
        refine lv_icmp_ge (tgt := 61) hx hb dX0_reversed_20 (by decide) (fun c1 => ?_) (fun c1 => ?_)
        · rw [if_pos c1] at h
          exact ih.2.2.2.2.1 L σ r h H locs ls hP hD hS (lv_sub hl [0, 2] rfl)
        · rw [if_neg c1] at h
          refine lv_iload hx hb dX0_reversed_23 (lv_at hl 3 rfl) ?_
          refine lv_aload_n hx hb dX0_reversed_25 rfl (lv_at hl 0 rfl) ?_
          refine hg_14_3 hx hb hts in_y_X0_reversed_X0 hown hK hP (hts _ (List.mem_cons_of_mem _ (List.mem_append_left _ (List.mem_append_left _ (List.mem_of_getElem? (i := 5) rfl))))) dX0_reversed_26 ?_
          refine hn_15 hx hb hK hP dX0_reversed_29 ?_
          refine lv_icmp_ge (tgt := 61) hx hb dX0_reversed_30 (by decide) (fun c2 => ?_) (fun c2 => ?_)
          · rw [if_pos c2] at h
            exact ih.2.2.2.2.1 L σ r h H locs ls hP hD hS (lv_sub hl [0, 2] rfl)
          · rw [if_neg c2] at h
            refine lv_aload_n hx hb dX0_reversed_33 rfl (lv_at hl 0 rfl) ?_
            refine hg_14_3 hx hb hts in_y_X0_reversed_X0 hown hK hP (hts _ (List.mem_cons_of_mem _ (List.mem_append_left _ (List.mem_append_left _ (List.mem_of_getElem? (i := 5) rfl))))) dX0_reversed_34 ?_
            refine lv_iload hx hb dX0_reversed_37 (lv_at hl 3 rfl) ?_
            refine lv_aload_n hx hb dX0_reversed_39 rfl (lv_at hl 0 rfl) ?_
            refine hg_14_0 hx hb hts in_y_X0_reversed_X0 hown hK hP (hts _ (List.mem_cons_of_mem _ (List.mem_append_left _ (List.mem_append_left _ (List.mem_of_getElem? (i := 0) rfl))))) dX0_reversed_40 ?_
            refine lv_iload_n hx hb dX0_reversed_43 rfl (lv_at hl 1 rfl) ?_
            refine lv_iload_n hx hb dX0_reversed_44 rfl (lv_at hl 2 rfl) ?_
            refine lv_iconst (v := 1) hx hb dX0_reversed_45 (by decide) ?_
            refine lv_isub hx hb dX0_reversed_46 ?_
            refine lv_iload hx hb dX0_reversed_47 (lv_at hl 3 rfl) ?_
            refine lv_isub hx hb dX0_reversed_49 ?_
            obtain ⟨r3, hc3, h⟩ := oc_ex h
            refine kc_i (va_runV (As := [.int (L.1 1), .int (((((L.1 3)) - 1)) - ((L.1 4)))]) (rest := [.int (L.1 4), .ref (a 15)]) ⟨hx, hb, hml, hown, hts⟩ (c_y_X1_byteAt l dC dI cy a z k (lI (lI lZ 1 ((L.1 1))) 2 ((((((L.1 3)) - 1)) - ((L.1 4))))) σ r3 hc3 H.size) (cwV 2 hts g_y_X0_reversed_X1_byteAt_V171 rfl rfl rfl hd_y_X1_byteAt ⟨Nat.le_of_ble_eq_true rfl, Nat.le_of_ble_eq_true rfl⟩) ⟨nb_blind, va_recv hK hP (ci := 1) (q0 := 0) rfl rfl, (kb_pre hK hG hP hD)⟩ rfl rfl hl.1 rfl (lv_room (Nat.le_of_ble_eq_true rfl)) dX0_reversed_50 ⟨Nat.le_refl _, Nat.le_refl _⟩) hA hP hD hS (fun H locs hP hD hS => ?_)
            refine lv_i2b (v := r3.1.toInt8.toInt32) hx hb dX0_reversed_53 rfl ?_
            obtain ⟨q4, h⟩ := kb_ite1 h
            refine hs_15 hx hb hK hP hD hS q4 dX0_reversed_54 (fun H locs hP hD hS => ?_)
            refine lv_iinc (v := ((L.1 4)) + 1) (lv' := [(4, .int (((L.1 4)) + 1)), (0, .ref (a 14)), (1, .int (L.1 1)), (3, .int (L.1 3))]) hx hb dX0_reversed_55 hl (k := 3) rfl rfl (by decide) rfl (fun ls hl => ?_)
            refine lv_goto (tgt := 17) hx hb dX0_reversed_58 (by decide) ?_
            exact ih.2.2.1 (lI L 4 ((((L.1 4)) + 1))) (uA r3.2 15 ((L.1 4)).toNatClampNeg (vp_nar .byte ((r3.1.toInt8.toInt32)))) r h H locs ls hP hD hS (lv_sub hl [1, 2, 3, 0] rfl)
      · intro L σ r h H locs ls hP hD hS hl
        rw [y_X0_reversed] at h
        refine lv_iload hx hb dX0_reversed_78 (lv_at hl 3 rfl) ?_
        refine lv_iload_n hx hb dX0_reversed_80 rfl (lv_at hl 2 rfl) ?_
        refine lv_icmp_ge (tgt := 121) hx hb dX0_reversed_81 (by decide) (fun c1 => ?_) (fun c1 => ?_)
        · rw [if_pos c1] at h
          exact ih.2.2.2.2.2 L σ r h H locs ls hP hD hS (lv_sub hl [0, 2] rfl)
        · rw [if_neg c1] at h
          refine lv_iload hx hb dX0_reversed_84 (lv_at hl 3 rfl) ?_
          refine lv_aload_n hx hb dX0_reversed_86 rfl (lv_at hl 0 rfl) ?_
          refine hg_14_4 hx hb hts in_y_X0_reversed_X0 hown hK hP (hts _ (List.mem_cons_of_mem _ (List.mem_append_left _ (List.mem_append_left _ (List.mem_of_getElem? (i := 9) rfl))))) dX0_reversed_87 ?_
          refine hn_16 hx hb hK hP dX0_reversed_90 ?_
          refine lv_icmp_ge (tgt := 121) hx hb dX0_reversed_91 (by decide) (fun c2 => ?_) (fun c2 => ?_)
          · rw [if_pos c2] at h
            exact ih.2.2.2.2.2 L σ r h H locs ls hP hD hS (lv_sub hl [0, 2] rfl)
          · rw [if_neg c2] at h
            refine lv_aload_n hx hb dX0_reversed_94 rfl (lv_at hl 0 rfl) ?_
            refine hg_14_4 hx hb hts in_y_X0_reversed_X0 hown hK hP (hts _ (List.mem_cons_of_mem _ (List.mem_append_left _ (List.mem_append_left _ (List.mem_of_getElem? (i := 9) rfl))))) dX0_reversed_95 ?_
            refine lv_iload hx hb dX0_reversed_98 (lv_at hl 3 rfl) ?_
            refine lv_aload_n hx hb dX0_reversed_100 rfl (lv_at hl 0 rfl) ?_
            refine hg_14_0 hx hb hts in_y_X0_reversed_X0 hown hK hP (hts _ (List.mem_cons_of_mem _ (List.mem_append_left _ (List.mem_append_left _ (List.mem_of_getElem? (i := 0) rfl))))) dX0_reversed_101 ?_
            refine lv_iload_n hx hb dX0_reversed_104 rfl (lv_at hl 1 rfl) ?_
            refine lv_iload_n hx hb dX0_reversed_105 rfl (lv_at hl 2 rfl) ?_
            refine lv_iconst (v := 1) hx hb dX0_reversed_106 (by decide) ?_
            refine lv_isub hx hb dX0_reversed_107 ?_
            refine lv_iload hx hb dX0_reversed_108 (lv_at hl 3 rfl) ?_
            refine lv_isub hx hb dX0_reversed_110 ?_
            obtain ⟨r3, hc3, h⟩ := oc_ex h
            refine kc_i (va_runV (As := [.int (L.1 1), .int (((((L.1 3)) - 1)) - ((L.1 4)))]) (rest := [.int (L.1 4), .ref (a 16)]) ⟨hx, hb, hml, hown, hts⟩ (c_y_X1_member l dC dI cy a z k (lI (lI lZ 1 ((L.1 1))) 2 ((((((L.1 3)) - 1)) - ((L.1 4))))) σ r3 hc3 H.size) (cwV 2 hts g_y_X0_reversed_X1_member_V154 rfl rfl rfl hd_y_X1_member ⟨Nat.le_of_ble_eq_true rfl, Nat.le_of_ble_eq_true rfl⟩) ⟨nb_blind, va_recv hK hP (ci := 1) (q0 := 0) rfl rfl, (kb_pre hK hG hP hD)⟩ rfl rfl hl.1 rfl (lv_room (Nat.le_of_ble_eq_true rfl)) dX0_reversed_111 ⟨Nat.le_refl _, Nat.le_refl _⟩) hA hP hD hS (fun H locs hP hD hS => ?_)
            obtain ⟨q4, h⟩ := kb_ite1 h
            refine hs_16 hx hb hK hP hD hS q4 dX0_reversed_114 (fun H locs hP hD hS => ?_)
            refine lv_iinc (v := ((L.1 4)) + 1) (lv' := [(4, .int (((L.1 4)) + 1)), (0, .ref (a 14)), (1, .int (L.1 1)), (3, .int (L.1 3))]) hx hb dX0_reversed_115 hl (k := 3) rfl rfl (by decide) rfl (fun ls hl => ?_)
            refine lv_goto (tgt := 78) hx hb dX0_reversed_118 (by decide) ?_
            exact ih.2.2.2.1 (lI L 4 ((((L.1 4)) + 1))) (uA r3.2 16 ((L.1 4)).toNatClampNeg r3.1) r h H locs ls hP hD hS (lv_sub hl [1, 2, 3, 0] rfl)
      · intro L σ r h H locs ls hP hD hS hl
        rw [y_X0_reversed] at h
        refine lv_aload_n hx hb dX0_reversed_61 rfl (lv_at hl 0 rfl) ?_
        refine hg_14_0 hx hb hts in_y_X0_reversed_X0 hown hK hP (hts _ (List.mem_cons_of_mem _ (List.mem_append_left _ (List.mem_append_left _ (List.mem_of_getElem? (i := 0) rfl))))) dX0_reversed_62 ?_
        refine lv_aload_n hx hb dX0_reversed_65 rfl (lv_at hl 0 rfl) ?_
        refine hg_14_3 hx hb hts in_y_X0_reversed_X0 hown hK hP (hts _ (List.mem_cons_of_mem _ (List.mem_append_left _ (List.mem_append_left _ (List.mem_of_getElem? (i := 5) rfl))))) dX0_reversed_66 ?_
        refine lv_iconst (v := 0) hx hb dX0_reversed_69 (by decide) ?_
        refine lv_iload_n hx hb dX0_reversed_70 rfl (lv_at hl 1 rfl) ?_
        obtain ⟨r1, hc1, h⟩ := oc_ex h
        refine kc_i (va_runV (As := [.ref (a 15), .int 0, .int (L.1 3)]) (rest := []) ⟨hx, hb, hml, hown, hts⟩ (c_y_X1_makeString__a15 l dC dI cy a z k (lI (lI lZ 2 0) 3 ((L.1 3))) σ r1 hc1 H.size) (cwV 3 hts g_y_X0_reversed_X1_makeString__a15_V118 rfl rfl rfl hd_y_X1_makeString__a15 ⟨Nat.le_of_ble_eq_true rfl, Nat.le_of_ble_eq_true rfl⟩) ⟨nb_blind, va_recv hK hP (ci := 1) (q0 := 0) rfl rfl, (kb_pre hK hG hP hD)⟩ rfl rfl hl.1 rfl (lv_room (Nat.le_of_ble_eq_true rfl)) dX0_reversed_71 ⟨Nat.le_refl _, Nat.le_refl _⟩) hA hP hD hS (fun H locs hP hD hS => ?_)
        obtain rfl := Option.some.inj h
        exact W.iret (v := r1.1) hx hb hr (fun t ht hW => ⟨⟨r1.1, (), rfl, rfl, by rw [ht]; exact hP, va_K.moved hW.alike hK, hD⟩, hS.F ht⟩) hS.2.2 dX0_reversed_74
      · intro L σ r h H locs ls hP hD hS hl
        rw [y_X0_reversed] at h
        refine lv_aload_n hx hb dX0_reversed_121 rfl (lv_at hl 0 rfl) ?_
        refine hg_14_0 hx hb hts in_y_X0_reversed_X0 hown hK hP (hts _ (List.mem_cons_of_mem _ (List.mem_append_left _ (List.mem_append_left _ (List.mem_of_getElem? (i := 0) rfl))))) dX0_reversed_122 ?_
        refine lv_aload_n hx hb dX0_reversed_125 rfl (lv_at hl 0 rfl) ?_
        refine hg_14_4 hx hb hts in_y_X0_reversed_X0 hown hK hP (hts _ (List.mem_cons_of_mem _ (List.mem_append_left _ (List.mem_append_left _ (List.mem_of_getElem? (i := 9) rfl))))) dX0_reversed_126 ?_
        refine lv_iconst (v := 0) hx hb dX0_reversed_129 (by decide) ?_
        refine lv_iload_n hx hb dX0_reversed_130 rfl (lv_at hl 1 rfl) ?_
        obtain ⟨r1, hc1, h⟩ := oc_ex h
        refine kc_i (va_runV (As := [.ref (a 16), .int 0, .int (L.1 3)]) (rest := []) ⟨hx, hb, hml, hown, hts⟩ (c_y_X1_makeTuple__a16 l dC dI cy a z k (lI (lI lZ 2 0) 3 ((L.1 3))) σ r1 hc1 H.size) (cwV 3 hts g_y_X0_reversed_X1_makeTuple__a16_V107 rfl rfl rfl hd_y_X1_makeTuple__a16 ⟨Nat.le_of_ble_eq_true rfl, Nat.le_of_ble_eq_true rfl⟩) ⟨nb_blind, va_recv hK hP (ci := 1) (q0 := 0) rfl rfl, (kb_pre hK hG hP hD)⟩ rfl rfl hl.1 rfl (lv_room (Nat.le_of_ble_eq_true rfl)) dX0_reversed_131 ⟨Nat.le_refl _, Nat.le_refl _⟩) hA hP hD hS (fun H locs hP hD hS => ?_)
        obtain rfl := Option.some.inj h
        exact W.iret (v := r1.1) hx hb hr (fun t ht hW => ⟨⟨r1.1, (), rfl, rfl, by rw [ht]; exact hP, va_K.moved hW.alike hK, hD⟩, hS.F ht⟩) hS.2.2 dX0_reversed_134
  exact (blk k0).1 L0 σ0 r0 h0 s.heap [] ls hP hD hS hl
/-! X0_domain -/
def y_X0_domain : Nat → Nat → LV → CS → Option (Int32 × CS)
  | 0, _, _, _ => none
  | k + 1, 0, L, σ => y_X0_domain k 1 (lI (lI L 2 0) 3 0) σ
  | k + 1, 1, L, σ => oc (y_X1_length k 0 (lI lZ 1 ((L.1 1))) σ) (fun r1 => if r1.1 ≤ ((L.1 3)) then (y_X0_domain k 2 L r1.2) else (if ((Int32.ofNat 2048)) ≤ ((L.1 2)) then (y_X0_domain k 2 L r1.2) else (oc (y_X1_member k 0 (lI (lI lZ 1 ((L.1 1))) 2 ((L.1 3))) r1.2) (fun r4 => oc (y_X1_member k 0 (lI (lI lZ 1 r4.1) 2 0) r4.2) (fun r5 => if r5.1 = ((-2147483648)) then (some ((-268435453), r5.2)) else (y_X0_domain k 3 (lI L 4 r5.1) r5.2))))))
  | k + 1, 2, L, σ => oc (y_X1_makeRow__a16 k 0 (lI (lI (lI lZ 1 6) 3 0) 4 ((L.1 2))) σ) (fun r1 => some (r1.1, r1.2))
  | k + 1, 3, L, σ => if ((L.1 2)) = 0 then (y_X0_domain k 4 L σ) else (if ¬ (((((L.1 2)) - 1)) < 0 ∨ 2048 ≤ ((((L.1 2)) - 1)).toNatClampNeg) then (oc (y_X1_same k 0 (lI (lI lZ 1 ((σ.2.2.1 16 ((((L.1 2)) - 1)).toNatClampNeg))) 2 ((L.1 4))) σ) (fun r3 => if r3.1 = 0 then (y_X0_domain k 4 L r3.2) else (y_X0_domain k 5 L r3.2))) else none)
  | k + 1, 4, L, σ => if ¬ (((L.1 2)) < 0 ∨ 2048 ≤ ((L.1 2)).toNatClampNeg) then (y_X0_domain k 5 (lI L 2 ((((L.1 2)) + 1))) (uA σ 16 ((L.1 2)).toNatClampNeg ((L.1 4)))) else none
  | k + 1, 5, L, σ => y_X0_domain k 1 (lI L 3 ((((L.1 3)) + 1))) σ
  | _ + 1, _ + 6, _, _ => none
def o_y_X0_domain : List Cond := [.fieldLink RX0 22 "SetHouse$Algebra" "heap" "LSetHouse$Heap;", .methodLink RX0 100 yX1_length, .instanceMethod yX1_length, .selects RX1 yX1_length yX1_length, .initialized RX1, .fieldLink RX0 15 "SetHouse$Algebra" "row" "[I", .methodLink RX0 154 yX1_member, .instanceMethod yX1_member, .selects RX1 yX1_member yX1_member, .constant RX0 167 (-2147483648), .constant RX0 174 (-268435453), .methodLink RX0 160 yX1_makeRow, .instanceMethod yX1_makeRow, .selects RX1 yX1_makeRow yX1_makeRow, .methodLink RX0 60 yX1_same, .instanceMethod yX1_same, .selects RX1 yX1_same yX1_same]
theorem o_y_X0_domain_good : o_y_X0_domain.all goodWord = true := by decide +kernel
def p_y_X0_domain : List Cond := o_y_X0_domain ++ ((.code yX1_length cX1_length 2 (some .int) :: p_y_X1_length) ++ ((.code yX1_member cX1_member 3 (some .int) :: p_y_X1_member) ++ ((.code yX1_makeRow cX1_makeRow 11 (some .int) :: p_y_X1_makeRow__a16) ++ ((.code yX1_same cX1_same 3 (some .boolean) :: p_y_X1_same) ++ []))))
theorem p_y_X0_domain_good : p_y_X0_domain.all goodWord = true := nb_all2 o_y_X0_domain_good (nb_all2 (nb_allc (by decide +kernel) p_y_X1_length_good) (nb_all2 (nb_allc (by decide +kernel) p_y_X1_member_good) (nb_all2 (nb_allc (by decide +kernel) p_y_X1_makeRow__a16_good) (nb_all2 (nb_allc (by decide +kernel) p_y_X1_same_good) rfl))))
def w_y_X0_domain : List Cond := .code yX0_domain cX0_domain 5 (some .int) :: (p_y_X0_domain ++ fC)
theorem w_y_X0_domain_good : w_y_X0_domain.all goodWord = true := nb_allc (by decide +kernel) (nb_all2 p_y_X0_domain_good fC_good)
theorem in_y_X0_domain_X0 : ∀ w ∈ wsX00, w ∈ w_y_X0_domain := fun _ h => List.mem_cons_of_mem _ (List.mem_append_right _ (List.mem_append_left _ h))
theorem hd_y_X0_domain : yX0_domain.cls = RX0 ∧ yX0_domain.cls ≠ "java/lang/invoke/MethodHandle" ∧ yX0_domain.cls ≠ "java/lang/invoke/VarHandle" ∧ (parseMethodDescriptor yX0_domain.desc).map (fun d => d.parameters.length) = some 1 := by decide +kernel
theorem gg_y_X0_domain_X1_length : GoodIn w_y_X0_domain w_y_X1_length := goodIn_sub (fun w h => (List.mem_cons.mp h).elim (fun e => (List.mem_cons_of_mem _ (List.mem_append_left _ (List.mem_append_right _ (List.mem_append_left _ (List.mem_cons.mpr (Or.inl e))))))) (fun h => (List.mem_append.mp h).elim (fun h => (List.mem_cons_of_mem _ (List.mem_append_left _ (List.mem_append_right _ (List.mem_append_left _ (List.mem_cons_of_mem _ h)))))) (fun h => List.mem_cons_of_mem _ (List.mem_append_right _ h)))) w_y_X1_length_good
theorem g_y_X0_domain_X1_length_V100 : GoodIn w_y_X0_domain (wsV RX0 100 RX1 yX1_length w_y_X1_length) := goodIn_app (nb_g4 (List.mem_cons_of_mem _ (List.mem_append_left _ (List.mem_append_left _ (List.mem_of_getElem? (i := 1) rfl)))) (List.mem_cons_of_mem _ (List.mem_append_left _ (List.mem_append_left _ (List.mem_of_getElem? (i := 2) rfl)))) (List.mem_cons_of_mem _ (List.mem_append_left _ (List.mem_append_left _ (List.mem_of_getElem? (i := 3) rfl)))) (List.mem_cons_of_mem _ (List.mem_append_left _ (List.mem_append_left _ (List.mem_of_getElem? (i := 4) rfl)))) (by decide +kernel)) gg_y_X0_domain_X1_length
theorem gg_y_X0_domain_X1_makeRow__a16 : GoodIn w_y_X0_domain w_y_X1_makeRow__a16 := goodIn_sub (fun w h => (List.mem_cons.mp h).elim (fun e => (List.mem_cons_of_mem _ (List.mem_append_left _ (List.mem_append_right _ (List.mem_append_right _ (List.mem_append_right _ (List.mem_append_left _ (List.mem_cons.mpr (Or.inl e))))))))) (fun h => (List.mem_append.mp h).elim (fun h => (List.mem_cons_of_mem _ (List.mem_append_left _ (List.mem_append_right _ (List.mem_append_right _ (List.mem_append_right _ (List.mem_append_left _ (List.mem_cons_of_mem _ h)))))))) (fun h => List.mem_cons_of_mem _ (List.mem_append_right _ h)))) w_y_X1_makeRow__a16_good
theorem g_y_X0_domain_X1_makeRow__a16_V160 : GoodIn w_y_X0_domain (wsV RX0 160 RX1 yX1_makeRow w_y_X1_makeRow__a16) := goodIn_app (nb_g4 (List.mem_cons_of_mem _ (List.mem_append_left _ (List.mem_append_left _ (List.mem_of_getElem? (i := 11) rfl)))) (List.mem_cons_of_mem _ (List.mem_append_left _ (List.mem_append_left _ (List.mem_of_getElem? (i := 12) rfl)))) (List.mem_cons_of_mem _ (List.mem_append_left _ (List.mem_append_left _ (List.mem_of_getElem? (i := 13) rfl)))) (List.mem_cons_of_mem _ (List.mem_append_left _ (List.mem_append_left _ (List.mem_of_getElem? (i := 4) rfl)))) (by decide +kernel)) gg_y_X0_domain_X1_makeRow__a16
theorem gg_y_X0_domain_X1_member : GoodIn w_y_X0_domain w_y_X1_member := goodIn_sub (fun w h => (List.mem_cons.mp h).elim (fun e => (List.mem_cons_of_mem _ (List.mem_append_left _ (List.mem_append_right _ (List.mem_append_right _ (List.mem_append_left _ (List.mem_cons.mpr (Or.inl e)))))))) (fun h => (List.mem_append.mp h).elim (fun h => (List.mem_cons_of_mem _ (List.mem_append_left _ (List.mem_append_right _ (List.mem_append_right _ (List.mem_append_left _ (List.mem_cons_of_mem _ h))))))) (fun h => List.mem_cons_of_mem _ (List.mem_append_right _ h)))) w_y_X1_member_good
theorem g_y_X0_domain_X1_member_V154 : GoodIn w_y_X0_domain (wsV RX0 154 RX1 yX1_member w_y_X1_member) := goodIn_app (nb_g4 (List.mem_cons_of_mem _ (List.mem_append_left _ (List.mem_append_left _ (List.mem_of_getElem? (i := 6) rfl)))) (List.mem_cons_of_mem _ (List.mem_append_left _ (List.mem_append_left _ (List.mem_of_getElem? (i := 7) rfl)))) (List.mem_cons_of_mem _ (List.mem_append_left _ (List.mem_append_left _ (List.mem_of_getElem? (i := 8) rfl)))) (List.mem_cons_of_mem _ (List.mem_append_left _ (List.mem_append_left _ (List.mem_of_getElem? (i := 4) rfl)))) (by decide +kernel)) gg_y_X0_domain_X1_member
theorem gg_y_X0_domain_X1_same : GoodIn w_y_X0_domain w_y_X1_same := goodIn_sub (fun w h => (List.mem_cons.mp h).elim (fun e => (List.mem_cons_of_mem _ (List.mem_append_left _ (List.mem_append_right _ (List.mem_append_right _ (List.mem_append_right _ (List.mem_append_right _ (List.mem_append_left _ (List.mem_cons.mpr (Or.inl e)))))))))) (fun h => (List.mem_append.mp h).elim (fun h => (List.mem_cons_of_mem _ (List.mem_append_left _ (List.mem_append_right _ (List.mem_append_right _ (List.mem_append_right _ (List.mem_append_right _ (List.mem_append_left _ (List.mem_cons_of_mem _ h))))))))) (fun h => List.mem_cons_of_mem _ (List.mem_append_right _ h)))) w_y_X1_same_good
theorem g_y_X0_domain_X1_same_V60 : GoodIn w_y_X0_domain (wsV RX0 60 RX1 yX1_same w_y_X1_same) := goodIn_app (nb_g4 (List.mem_cons_of_mem _ (List.mem_append_left _ (List.mem_append_left _ (List.mem_of_getElem? (i := 14) rfl)))) (List.mem_cons_of_mem _ (List.mem_append_left _ (List.mem_append_left _ (List.mem_of_getElem? (i := 15) rfl)))) (List.mem_cons_of_mem _ (List.mem_append_left _ (List.mem_append_left _ (List.mem_of_getElem? (i := 16) rfl)))) (List.mem_cons_of_mem _ (List.mem_append_left _ (List.mem_append_left _ (List.mem_of_getElem? (i := 4) rfl)))) (by decide +kernel)) gg_y_X0_domain_X1_same
set_option maxHeartbeats 40000000 in
set_option maxRecDepth 100000 in
theorem c_y_X0_domain (l : Launch) (dC : Nat → ClassId) (dI : Nat → Nat → Nat) (cy : Nat → ClassId) (a z : Nat → Nat) (k0 : Nat) (L0 : LV) (σ0 : CS) (r0 : Int32 × CS) (h0 : y_X0_domain k0 0 L0 σ0 = some r0) (sz : Nat) : Met l yX0_domain w_y_X0_domain ({ frames := 63, cells := 0, slots := 0, locals := 1760 }) (va_Pc [.ref (a 14), .int (L0.1 1)] (nIn (dC, dI) cy sz (vC cy a z σ0))) (va_Qi (fun (x : Int32) (_ : Unit) => x = r0.1) (fun _ t => nOut (dC, dI) cy (va_A (vC cy a z σ0) sz) (vC cy a z r0.2) t) (va_A (vC cy a z σ0) sz)) 0 0 (va_A (vC cy a z σ0) sz) := by
  refine Met.ofW (cc := cX0_domain) (maxL := 5) (ret := (some .int)) (by decide) rfl ?_
  intro p e s m args below meth c s₁ B hml hv
  obtain ⟨rfl, hsz, hP, hK, hD0, hG⟩ := hv
  have hx := B.exec
  have hb := B.bytes
  have hr := B.returns
  have hts := atoms_spec (ws := w_y_X0_domain) B.pre
  have hown : s.vm.findClass RX0 = some m.cls := findClass_of_methodNamed B.named
  have hlocks := B.notSynchronized
  subst hsz
  have hD := hD0.self (sz := s.heap.size)
  generalize hAe : va_A (vC cy a z σ0) s.heap.size = A at hD ⊢
  have hA : ∀ q : Nat, s.heap.size ≤ q → A q := fun q h => by rw [← hAe]; exact Or.inr h
  have hS : va_S A s.heap s.heap [] := va_S.rf
  have hl := lv_entry ([.ref (a 14), .int (L0.1 1)]) (n := 5) (Nat.le_of_ble_eq_true rfl)
  rw [lg_entry_eq]
  generalize (lg_sl ([.ref (a 14), .int (L0.1 1)]) ++ List.replicate (5 - (lg_sl ([.ref (a 14), .int (L0.1 1)])).length) Slot.unset).toArray = ls at hl ⊢
  have hl : lv_has ls 5 [(0, .ref (a 14)), (1, .int (L0.1 1))] := hl
  have blk : ∀ k : Nat, (bC p l e (headSpec w_y_X0_domain ({ frames := 63, cells := 0, slots := 0, locals := 1760 })).room s m #[.ref (a 14), .int (L0.1 1)] below meth c dC dI cy a z A (kI dC dI cy a z A below #[.ref (a 14), .int (L0.1 1)] s) 5 (y_X0_domain k 0) (fun L => [(0, .ref (a 14)), (1, .int (L.1 1))]) 0 (fun L => [])) ∧ (bC p l e (headSpec w_y_X0_domain ({ frames := 63, cells := 0, slots := 0, locals := 1760 })).room s m #[.ref (a 14), .int (L0.1 1)] below meth c dC dI cy a z A (kI dC dI cy a z A below #[.ref (a 14), .int (L0.1 1)] s) 5 (y_X0_domain k 1) (fun L => [(0, .ref (a 14)), (1, .int (L.1 1)), (2, .int (L.1 2)), (3, .int (L.1 3))]) 4 (fun L => [])) ∧ (bC p l e (headSpec w_y_X0_domain ({ frames := 63, cells := 0, slots := 0, locals := 1760 })).room s m #[.ref (a 14), .int (L0.1 1)] below meth c dC dI cy a z A (kI dC dI cy a z A below #[.ref (a 14), .int (L0.1 1)] s) 5 (y_X0_domain k 2) (fun L => [(0, .ref (a 14)), (2, .int (L.1 2))]) 95 (fun L => [])) ∧ (bC p l e (headSpec w_y_X0_domain ({ frames := 63, cells := 0, slots := 0, locals := 1760 })).room s m #[.ref (a 14), .int (L0.1 1)] below meth c dC dI cy a z A (kI dC dI cy a z A below #[.ref (a 14), .int (L0.1 1)] s) 5 (y_X0_domain k 3) (fun L => [(0, .ref (a 14)), (1, .int (L.1 1)), (2, .int (L.1 2)), (3, .int (L.1 3)), (4, .int (L.1 4))]) 54 (fun L => [])) ∧ (bC p l e (headSpec w_y_X0_domain ({ frames := 63, cells := 0, slots := 0, locals := 1760 })).room s m #[.ref (a 14), .int (L0.1 1)] below meth c dC dI cy a z A (kI dC dI cy a z A below #[.ref (a 14), .int (L0.1 1)] s) 5 (y_X0_domain k 4) (fun L => [(0, .ref (a 14)), (1, .int (L.1 1)), (2, .int (L.1 2)), (3, .int (L.1 3)), (4, .int (L.1 4))]) 78 (fun L => [])) ∧ (bC p l e (headSpec w_y_X0_domain ({ frames := 63, cells := 0, slots := 0, locals := 1760 })).room s m #[.ref (a 14), .int (L0.1 1)] below meth c dC dI cy a z A (kI dC dI cy a z A below #[.ref (a 14), .int (L0.1 1)] s) 5 (y_X0_domain k 5) (fun L => [(0, .ref (a 14)), (1, .int (L.1 1)), (2, .int (L.1 2)), (3, .int (L.1 3))]) 89 (fun L => [])) := by
    intro k
    induction k with
    | zero => exact ⟨fun L σ r h => (by cases h), fun L σ r h => (by cases h), fun L σ r h => (by cases h), fun L σ r h => (by cases h), fun L σ r h => (by cases h), fun L σ r h => (by cases h)⟩
    | succ k ih =>
      refine ⟨?_, ?_, ?_, ?_, ?_, ?_⟩
      · intro L σ r h H locs ls hP hD hS hl
        rw [y_X0_domain] at h
        refine lv_iconst (v := 0) hx hb dX0_domain_0 (by decide) ?_
        refine lv_istore_n (lv' := [(2, .int 0), (0, .ref (a 14)), (1, .int (L.1 1))]) hx hb dX0_domain_1 rfl hl (by decide) rfl (fun ls hl => ?_)
        refine lv_iconst (v := 0) hx hb dX0_domain_2 (by decide) ?_
        refine lv_istore_n (lv' := [(3, .int 0), (2, .int 0), (0, .ref (a 14)), (1, .int (L.1 1))]) hx hb dX0_domain_3 rfl hl (by decide) rfl (fun ls hl => ?_)
        exact ih.2.1 (lI (lI L 2 0) 3 0) σ r h H locs ls hP hD hS (lv_sub hl [2, 3, 1, 0] rfl)
      · intro L σ r h H locs ls hP hD hS hl
        rw [y_X0_domain] at h
        refine lv_iload_n hx hb dX0_domain_4 rfl (lv_at hl 3 rfl) ?_
        refine lv_aload_n hx hb dX0_domain_5 rfl (lv_at hl 0 rfl) ?_
        refine hg_14_0 hx hb hts in_y_X0_domain_X0 hown hK hP (hts _ (List.mem_cons_of_mem _ (List.mem_append_left _ (List.mem_append_left _ (List.mem_of_getElem? (i := 0) rfl))))) dX0_domain_6 ?_
        refine lv_iload_n hx hb dX0_domain_9 rfl (lv_at hl 1 rfl) ?_
        obtain ⟨r1, hc1, h⟩ := oc_ex h
        refine kc_i (va_runV (As := [.int (L.1 1)]) (rest := [.int (L.1 3)]) ⟨hx, hb, hml, hown, hts⟩ (c_y_X1_length l dC dI cy a z k (lI lZ 1 ((L.1 1))) σ r1 hc1 H.size) (cwV 1 hts g_y_X0_domain_X1_length_V100 rfl rfl rfl hd_y_X1_length ⟨Nat.le_of_ble_eq_true rfl, Nat.le_of_ble_eq_true rfl⟩) ⟨nb_blind, va_recv hK hP (ci := 1) (q0 := 0) rfl rfl, (kb_pre hK hG hP hD)⟩ rfl rfl hl.1 rfl (lv_room (Nat.le_of_ble_eq_true rfl)) dX0_domain_10 ⟨Nat.le_refl _, Nat.le_refl _⟩) hA hP hD hS (fun H locs hP hD hS => ?_)
        refine lv_icmp_ge (tgt := 95) hx hb dX0_domain_13 (by decide) (fun c2 => ?_) (fun c2 => ?_)
        · rw [if_pos c2] at h
          exact ih.2.2.1 L r1.2 r h H locs ls hP hD hS (lv_sub hl [0, 2] rfl)
        · rw [if_neg c2] at h
          refine lv_iload_n hx hb dX0_domain_16 rfl (lv_at hl 2 rfl) ?_
          refine lv_aload_n hx hb dX0_domain_17 rfl (lv_at hl 0 rfl) ?_
          refine hg_14_4 hx hb hts in_y_X0_domain_X0 hown hK hP (hts _ (List.mem_cons_of_mem _ (List.mem_append_left _ (List.mem_append_left _ (List.mem_of_getElem? (i := 5) rfl))))) dX0_domain_18 ?_
          refine hn_16 hx hb hK hP dX0_domain_21 ?_
          refine lv_icmp_ge (tgt := 95) hx hb dX0_domain_22 (by decide) (fun c3 => ?_) (fun c3 => ?_)
          · rw [if_pos c3] at h
            exact ih.2.2.1 L r1.2 r h H locs ls hP hD hS (lv_sub hl [0, 2] rfl)
          · rw [if_neg c3] at h
            refine lv_aload_n hx hb dX0_domain_25 rfl (lv_at hl 0 rfl) ?_
            refine hg_14_0 hx hb hts in_y_X0_domain_X0 hown hK hP (hts _ (List.mem_cons_of_mem _ (List.mem_append_left _ (List.mem_append_left _ (List.mem_of_getElem? (i := 0) rfl))))) dX0_domain_26 ?_
            refine lv_aload_n hx hb dX0_domain_29 rfl (lv_at hl 0 rfl) ?_
            refine hg_14_0 hx hb hts in_y_X0_domain_X0 hown hK hP (hts _ (List.mem_cons_of_mem _ (List.mem_append_left _ (List.mem_append_left _ (List.mem_of_getElem? (i := 0) rfl))))) dX0_domain_30 ?_
            refine lv_iload_n hx hb dX0_domain_33 rfl (lv_at hl 1 rfl) ?_
            refine lv_iload_n hx hb dX0_domain_34 rfl (lv_at hl 3 rfl) ?_
            obtain ⟨r4, hc4, h⟩ := oc_ex h
            refine kc_i (va_runV (As := [.int (L.1 1), .int (L.1 3)]) (rest := [.ref (a 0)]) ⟨hx, hb, hml, hown, hts⟩ (c_y_X1_member l dC dI cy a z k (lI (lI lZ 1 ((L.1 1))) 2 ((L.1 3))) r1.2 r4 hc4 H.size) (cwV 2 hts g_y_X0_domain_X1_member_V154 rfl rfl rfl hd_y_X1_member ⟨Nat.le_of_ble_eq_true rfl, Nat.le_of_ble_eq_true rfl⟩) ⟨nb_blind, va_recv hK hP (ci := 1) (q0 := 0) rfl rfl, (kb_pre hK hG hP hD)⟩ rfl rfl hl.1 rfl (lv_room (Nat.le_of_ble_eq_true rfl)) dX0_domain_35 ⟨Nat.le_refl _, Nat.le_refl _⟩) hA hP hD hS (fun H locs hP hD hS => ?_)
            refine lv_iconst (v := 0) hx hb dX0_domain_38 (by decide) ?_
            obtain ⟨r5, hc5, h⟩ := oc_ex h
            refine kc_i (va_runV (As := [.int r4.1, .int 0]) (rest := []) ⟨hx, hb, hml, hown, hts⟩ (c_y_X1_member l dC dI cy a z k (lI (lI lZ 1 r4.1) 2 0) r4.2 r5 hc5 H.size) (cwV 2 hts g_y_X0_domain_X1_member_V154 rfl rfl rfl hd_y_X1_member ⟨Nat.le_of_ble_eq_true rfl, Nat.le_of_ble_eq_true rfl⟩) ⟨nb_blind, va_recv hK hP (ci := 1) (q0 := 0) rfl rfl, (kb_pre hK hG hP hD)⟩ rfl rfl hl.1 rfl (lv_room (Nat.le_of_ble_eq_true rfl)) dX0_domain_39 ⟨Nat.le_refl _, Nat.le_refl _⟩) hA hP hD hS (fun H locs hP hD hS => ?_)
            refine lv_istore (lv' := [(4, .int r5.1), (0, .ref (a 14)), (1, .int (L.1 1)), (2, .int (L.1 2)), (3, .int (L.1 3))]) hx hb dX0_domain_42 hl (by decide) rfl (fun ls hl => ?_)
            refine lv_iload hx hb dX0_domain_44 (lv_at hl 0 rfl) ?_
            refine lv_ldc (v := (-2147483648)) hx hb hown (hts _ (List.mem_cons_of_mem _ (List.mem_append_left _ (List.mem_append_left _ (List.mem_of_getElem? (i := 9) rfl))))) dX0_domain_46 ?_
            refine lv_icmp_ne (tgt := 54) hx hb dX0_domain_48 (by decide) (fun c6 => ?_) (fun c6 => ?_)
            · rw [if_neg c6] at h
              exact ih.2.2.2.1 (lI L 4 r5.1) r5.2 r h H locs ls hP hD hS (lv_sub hl [1, 2, 3, 4, 0] rfl)
            · rw [if_pos c6] at h
              refine lv_ldc (v := (-268435453)) hx hb hown (hts _ (List.mem_cons_of_mem _ (List.mem_append_left _ (List.mem_append_left _ (List.mem_of_getElem? (i := 10) rfl))))) dX0_domain_51 ?_
              obtain rfl := Option.some.inj h
              exact W.iret (v := (-268435453)) hx hb hr (fun t ht hW => ⟨⟨(-268435453), (), rfl, rfl, by rw [ht]; exact hP, va_K.moved hW.alike hK, hD⟩, hS.F ht⟩) hS.2.2 dX0_domain_53
      · intro L σ r h H locs ls hP hD hS hl
        rw [y_X0_domain] at h
        refine lv_aload_n hx hb dX0_domain_95 rfl (lv_at hl 0 rfl) ?_
        refine hg_14_0 hx hb hts in_y_X0_domain_X0 hown hK hP (hts _ (List.mem_cons_of_mem _ (List.mem_append_left _ (List.mem_append_left _ (List.mem_of_getElem? (i := 0) rfl))))) dX0_domain_96 ?_
        refine lv_bipush (v := 6) hx hb dX0_domain_99 (by decide) ?_
        refine lv_aload_n hx hb dX0_domain_101 rfl (lv_at hl 0 rfl) ?_
        refine hg_14_4 hx hb hts in_y_X0_domain_X0 hown hK hP (hts _ (List.mem_cons_of_mem _ (List.mem_append_left _ (List.mem_append_left _ (List.mem_of_getElem? (i := 5) rfl))))) dX0_domain_102 ?_
        refine lv_iconst (v := 0) hx hb dX0_domain_105 (by decide) ?_
        refine lv_iload_n hx hb dX0_domain_106 rfl (lv_at hl 1 rfl) ?_
        obtain ⟨r1, hc1, h⟩ := oc_ex h
        refine kc_i (va_runV (As := [.int 6, .ref (a 16), .int 0, .int (L.1 2)]) (rest := []) ⟨hx, hb, hml, hown, hts⟩ (c_y_X1_makeRow__a16 l dC dI cy a z k (lI (lI (lI lZ 1 6) 3 0) 4 ((L.1 2))) σ r1 hc1 H.size) (cwV 4 hts g_y_X0_domain_X1_makeRow__a16_V160 rfl rfl rfl hd_y_X1_makeRow__a16 ⟨Nat.le_of_ble_eq_true rfl, Nat.le_of_ble_eq_true rfl⟩) ⟨nb_blind, va_recv hK hP (ci := 1) (q0 := 0) rfl rfl, (kb_pre hK hG hP hD)⟩ rfl rfl hl.1 rfl (lv_room (Nat.le_of_ble_eq_true rfl)) dX0_domain_107 ⟨Nat.le_refl _, Nat.le_refl _⟩) hA hP hD hS (fun H locs hP hD hS => ?_)
        obtain rfl := Option.some.inj h
        exact W.iret (v := r1.1) hx hb hr (fun t ht hW => ⟨⟨r1.1, (), rfl, rfl, by rw [ht]; exact hP, va_K.moved hW.alike hK, hD⟩, hS.F ht⟩) hS.2.2 dX0_domain_110
      · intro L σ r h H locs ls hP hD hS hl
        rw [y_X0_domain] at h
        refine lv_iload_n hx hb dX0_domain_54 rfl (lv_at hl 2 rfl) ?_
        refine lv_if_eq (tgt := 78) hx hb dX0_domain_55 (by decide) (fun c1 => ?_) (fun c1 => ?_)
        · rw [if_pos c1] at h
          exact ih.2.2.2.2.1 L σ r h H locs ls hP hD hS (lv_sub hl [0, 1, 2, 3, 4] rfl)
        · rw [if_neg c1] at h
          refine lv_aload_n hx hb dX0_domain_58 rfl (lv_at hl 0 rfl) ?_
          refine hg_14_0 hx hb hts in_y_X0_domain_X0 hown hK hP (hts _ (List.mem_cons_of_mem _ (List.mem_append_left _ (List.mem_append_left _ (List.mem_of_getElem? (i := 0) rfl))))) dX0_domain_59 ?_
          refine lv_aload_n hx hb dX0_domain_62 rfl (lv_at hl 0 rfl) ?_
          refine hg_14_4 hx hb hts in_y_X0_domain_X0 hown hK hP (hts _ (List.mem_cons_of_mem _ (List.mem_append_left _ (List.mem_append_left _ (List.mem_of_getElem? (i := 5) rfl))))) dX0_domain_63 ?_
          refine lv_iload_n hx hb dX0_domain_66 rfl (lv_at hl 2 rfl) ?_
          refine lv_iconst (v := 1) hx hb dX0_domain_67 (by decide) ?_
          refine lv_isub hx hb dX0_domain_68 ?_
          obtain ⟨q2, h⟩ := kb_ite1 h
          refine hl_16 hx hb hK hP q2 dX0_domain_69 ?_
          refine lv_iload hx hb dX0_domain_70 (lv_at hl 4 rfl) ?_
          obtain ⟨r3, hc3, h⟩ := oc_ex h
          refine kc_i (va_runV (As := [.int (σ.2.2.1 16 ((((L.1 2)) - 1)).toNatClampNeg), .int (L.1 4)]) (rest := []) ⟨hx, hb, hml, hown, hts⟩ (c_y_X1_same l dC dI cy a z k (lI (lI lZ 1 ((σ.2.2.1 16 ((((L.1 2)) - 1)).toNatClampNeg))) 2 ((L.1 4))) σ r3 hc3 H.size) (cwV 2 hts g_y_X0_domain_X1_same_V60 rfl rfl rfl hd_y_X1_same ⟨Nat.le_of_ble_eq_true rfl, Nat.le_of_ble_eq_true rfl⟩) ⟨nb_blind, va_recv hK hP (ci := 1) (q0 := 0) rfl rfl, (kb_pre hK hG hP hD)⟩ rfl rfl hl.1 rfl (lv_room (Nat.le_of_ble_eq_true rfl)) dX0_domain_72 ⟨Nat.le_refl _, Nat.le_refl _⟩) hA hP hD hS (fun H locs hP hD hS => ?_)
          refine lv_if_ne (tgt := 89) hx hb dX0_domain_75 (by decide) (fun c4 => ?_) (fun c4 => ?_)
          · rw [if_neg c4] at h
            exact ih.2.2.2.2.2 L r3.2 r h H locs ls hP hD hS (lv_sub hl [0, 1, 2, 3] rfl)
          · rw [if_pos c4] at h
            exact ih.2.2.2.2.1 L r3.2 r h H locs ls hP hD hS (lv_sub hl [0, 1, 2, 3, 4] rfl)
      · intro L σ r h H locs ls hP hD hS hl
        rw [y_X0_domain] at h
        refine lv_aload_n hx hb dX0_domain_78 rfl (lv_at hl 0 rfl) ?_
        refine hg_14_4 hx hb hts in_y_X0_domain_X0 hown hK hP (hts _ (List.mem_cons_of_mem _ (List.mem_append_left _ (List.mem_append_left _ (List.mem_of_getElem? (i := 5) rfl))))) dX0_domain_79 ?_
        refine lv_iload_n hx hb dX0_domain_82 rfl (lv_at hl 2 rfl) ?_
        refine lv_iload hx hb dX0_domain_83 (lv_at hl 4 rfl) ?_
        obtain ⟨q1, h⟩ := kb_ite1 h
        refine hs_16 hx hb hK hP hD hS q1 dX0_domain_85 (fun H locs hP hD hS => ?_)
        refine lv_iinc (v := ((L.1 2)) + 1) (lv' := [(2, .int (((L.1 2)) + 1)), (0, .ref (a 14)), (1, .int (L.1 1)), (3, .int (L.1 3)), (4, .int (L.1 4))]) hx hb dX0_domain_86 hl (k := 2) rfl rfl (by decide) rfl (fun ls hl => ?_)
        exact ih.2.2.2.2.2 (lI L 2 ((((L.1 2)) + 1))) (uA σ 16 ((L.1 2)).toNatClampNeg ((L.1 4))) r h H locs ls hP hD hS (lv_sub hl [1, 2, 0, 3] rfl)
      · intro L σ r h H locs ls hP hD hS hl
        rw [y_X0_domain] at h
        refine lv_iinc (v := ((L.1 3)) + 1) (lv' := [(3, .int (((L.1 3)) + 1)), (0, .ref (a 14)), (1, .int (L.1 1)), (2, .int (L.1 2))]) hx hb dX0_domain_89 hl (k := 3) rfl rfl (by decide) rfl (fun ls hl => ?_)
        refine lv_goto (tgt := 4) hx hb dX0_domain_92 (by decide) ?_
        exact ih.2.1 (lI L 3 ((((L.1 3)) + 1))) σ r h H locs ls hP hD hS (lv_sub hl [1, 2, 3, 0] rfl)
  exact (blk k0).1 L0 σ0 r0 h0 s.heap [] ls hP hD hS hl
/-! X0_insert__a16 -/
def y_X0_insert__a16 : Nat → Nat → LV → CS → Option (Int32 × CS)
  | 0, _, _, _ => none
  | k + 1, 0, L, σ => if ((L.1 3)) ≤ 0 then (y_X0_insert__a16 k 1 (lI (lI L 6 ((L.1 2))) 7 ((((L.1 2)) + ((L.1 3))))) σ) else (if ¬ (((((((L.1 2)) + ((L.1 3)))) - 1)) < 0 ∨ 2048 ≤ ((((((L.1 2)) + ((L.1 3)))) - 1)).toNatClampNeg) then (oc (y_X1_compare k 0 (lI (lI lZ 1 ((σ.2.2.1 16 ((((((L.1 2)) + ((L.1 3)))) - 1)).toNatClampNeg))) 2 ((L.1 5))) σ) (fun r3 => if 0 ≤ r3.1 then (y_X0_insert__a16 k 1 (lI (lI L 6 ((L.1 2))) 7 ((((L.1 2)) + ((L.1 3))))) r3.2) else (y_X0_insert__a16 k 1 (lI (lI L 6 ((((L.1 2)) + ((L.1 3))))) 7 ((((L.1 2)) + ((L.1 3))))) r3.2))) else none)
  | k + 1, 1, L, σ => y_X0_insert__a16 k 2 (lI L 8 0) σ
  | k + 1, 2, L, σ => if 32 ≤ ((L.1 8)) then (y_X0_insert__a16 k 3 L σ) else (if ((L.1 7)) ≤ ((L.1 6)) then (y_X0_insert__a16 k 3 L σ) else (if ¬ ((((((((L.1 6)) + ((L.1 7)))).toUInt32 >>> ((1 : Int32).toUInt32 &&& Int32.toUInt32 31)).toInt32)) < 0 ∨ 2048 ≤ (((((((L.1 6)) + ((L.1 7)))).toUInt32 >>> ((1 : Int32).toUInt32 &&& Int32.toUInt32 31)).toInt32)).toNatClampNeg) then (oc (y_X1_compare k 0 (lI (lI lZ 1 ((σ.2.2.1 16 (((((((L.1 6)) + ((L.1 7)))).toUInt32 >>> ((1 : Int32).toUInt32 &&& Int32.toUInt32 31)).toInt32)).toNatClampNeg))) 2 ((L.1 5))) σ) (fun r4 => if 0 ≤ r4.1 then (y_X0_insert__a16 k 4 (lI L 9 (((((((L.1 6)) + ((L.1 7)))).toUInt32 >>> ((1 : Int32).toUInt32 &&& Int32.toUInt32 31)).toInt32))) r4.2) else (y_X0_insert__a16 k 5 (lI L 6 (((((((((L.1 6)) + ((L.1 7)))).toUInt32 >>> ((1 : Int32).toUInt32 &&& Int32.toUInt32 31)).toInt32)) + 1))) r4.2))) else none))
  | k + 1, 3, L, σ => if ((((L.1 2)) + ((L.1 3)))) ≤ ((L.1 6)) then (y_X0_insert__a16 k 6 L σ) else (if ¬ (((L.1 6)) < 0 ∨ 2048 ≤ ((L.1 6)).toNatClampNeg) then (oc (y_X1_same k 0 (lI (lI lZ 1 ((σ.2.2.1 16 ((L.1 6)).toNatClampNeg))) 2 ((L.1 5))) σ) (fun r3 => if r3.1 = 0 then (y_X0_insert__a16 k 6 L r3.2) else (some (0, r3.2)))) else none)
  | k + 1, 4, L, σ => y_X0_insert__a16 k 5 (lI L 7 ((L.1 9))) σ
  | k + 1, 5, L, σ => y_X0_insert__a16 k 2 (lI L 8 ((((L.1 8)) + 1))) σ
  | k + 1, 6, L, σ => if ¬ ((L.1 6)) < 0 ∧ ¬ ((((L.1 6)) + 1)) < 0 ∧ ¬ ((((L.1 4)) - ((L.1 6)))) < 0 ∧ ((L.1 6)).toNatClampNeg + ((((L.1 4)) - ((L.1 6)))).toNatClampNeg ≤ 2048 ∧ ((((L.1 6)) + 1)).toNatClampNeg + ((((L.1 4)) - ((L.1 6)))).toNatClampNeg ≤ 2048 then (if ¬ (((L.1 6)) < 0 ∨ 2048 ≤ ((L.1 6)).toNatClampNeg) then (some (1, (uA (uF σ 16 (va_cpy (σ.2.2.1 16) (σ.2.2.1 16) ((L.1 6)).toNatClampNeg ((((L.1 6)) + 1)).toNatClampNeg ((((L.1 4)) - ((L.1 6)))).toNatClampNeg)) 16 ((L.1 6)).toNatClampNeg ((L.1 5))))) else none) else none
  | _ + 1, _ + 7, _, _ => none
def o_y_X0_insert__a16 : List Cond := [.fieldLink RX0 22 "SetHouse$Algebra" "heap" "LSetHouse$Heap;", .methodLink RX0 91 yX1_compare, .instanceMethod yX1_compare, .selects RX1 yX1_compare yX1_compare, .initialized RX1, .methodLink RX0 60 yX1_same, .instanceMethod yX1_same, .selects RX1 yX1_same yX1_same, .methodLink RX0 148 arraycopyName, .native arraycopyName, .static arraycopyName, .initialized "java/lang/System"]
theorem o_y_X0_insert__a16_good : o_y_X0_insert__a16.all goodWord = true := by decide +kernel
def p_y_X0_insert__a16 : List Cond := o_y_X0_insert__a16 ++ ((.code yX1_compare cX1_compare 9 (some .int) :: p_y_H1) ++ ((.code yX1_same cX1_same 3 (some .boolean) :: p_y_X1_same) ++ []))
theorem p_y_X0_insert__a16_good : p_y_X0_insert__a16.all goodWord = true := nb_all2 o_y_X0_insert__a16_good (nb_all2 (nb_allc (by decide +kernel) p_y_H1_good) (nb_all2 (nb_allc (by decide +kernel) p_y_X1_same_good) rfl))
def w_y_X0_insert__a16 : List Cond := .code yX0_insert cX0_insert 10 (some .boolean) :: (p_y_X0_insert__a16 ++ fC)
theorem w_y_X0_insert__a16_good : w_y_X0_insert__a16.all goodWord = true := nb_allc (by decide +kernel) (nb_all2 p_y_X0_insert__a16_good fC_good)
theorem in_y_X0_insert__a16_X0 : ∀ w ∈ wsX00, w ∈ w_y_X0_insert__a16 := fun _ h => List.mem_cons_of_mem _ (List.mem_append_right _ (List.mem_append_left _ h))
theorem hd_y_X0_insert__a16 : yX0_insert.cls = RX0 ∧ yX0_insert.cls ≠ "java/lang/invoke/MethodHandle" ∧ yX0_insert.cls ≠ "java/lang/invoke/VarHandle" ∧ (parseMethodDescriptor yX0_insert.desc).map (fun d => d.parameters.length) = some 5 := by decide +kernel
theorem gg_y_X0_insert__a16_X1_compare : GoodIn w_y_X0_insert__a16 w_y_X1_compare := goodIn_sub (fun w h => (List.mem_cons.mp h).elim (fun e => (List.mem_cons_of_mem _ (List.mem_append_left _ (List.mem_append_right _ (List.mem_append_left _ (List.mem_cons.mpr (Or.inl e))))))) (fun h => (List.mem_append.mp h).elim (fun h => (List.mem_cons_of_mem _ (List.mem_append_left _ (List.mem_append_right _ (List.mem_append_left _ (List.mem_cons_of_mem _ h)))))) (fun h => List.mem_cons_of_mem _ (List.mem_append_right _ h)))) w_y_X1_compare_good
theorem g_y_X0_insert__a16_X1_compare_V91 : GoodIn w_y_X0_insert__a16 (wsV RX0 91 RX1 yX1_compare w_y_X1_compare) := goodIn_app (nb_g4 (List.mem_cons_of_mem _ (List.mem_append_left _ (List.mem_append_left _ (List.mem_of_getElem? (i := 1) rfl)))) (List.mem_cons_of_mem _ (List.mem_append_left _ (List.mem_append_left _ (List.mem_of_getElem? (i := 2) rfl)))) (List.mem_cons_of_mem _ (List.mem_append_left _ (List.mem_append_left _ (List.mem_of_getElem? (i := 3) rfl)))) (List.mem_cons_of_mem _ (List.mem_append_left _ (List.mem_append_left _ (List.mem_of_getElem? (i := 4) rfl)))) (by decide +kernel)) gg_y_X0_insert__a16_X1_compare
theorem gg_y_X0_insert__a16_X1_same : GoodIn w_y_X0_insert__a16 w_y_X1_same := goodIn_sub (fun w h => (List.mem_cons.mp h).elim (fun e => (List.mem_cons_of_mem _ (List.mem_append_left _ (List.mem_append_right _ (List.mem_append_right _ (List.mem_append_left _ (List.mem_cons.mpr (Or.inl e)))))))) (fun h => (List.mem_append.mp h).elim (fun h => (List.mem_cons_of_mem _ (List.mem_append_left _ (List.mem_append_right _ (List.mem_append_right _ (List.mem_append_left _ (List.mem_cons_of_mem _ h))))))) (fun h => List.mem_cons_of_mem _ (List.mem_append_right _ h)))) w_y_X1_same_good
theorem g_y_X0_insert__a16_X1_same_V60 : GoodIn w_y_X0_insert__a16 (wsV RX0 60 RX1 yX1_same w_y_X1_same) := goodIn_app (nb_g4 (List.mem_cons_of_mem _ (List.mem_append_left _ (List.mem_append_left _ (List.mem_of_getElem? (i := 5) rfl)))) (List.mem_cons_of_mem _ (List.mem_append_left _ (List.mem_append_left _ (List.mem_of_getElem? (i := 6) rfl)))) (List.mem_cons_of_mem _ (List.mem_append_left _ (List.mem_append_left _ (List.mem_of_getElem? (i := 7) rfl)))) (List.mem_cons_of_mem _ (List.mem_append_left _ (List.mem_append_left _ (List.mem_of_getElem? (i := 4) rfl)))) (by decide +kernel)) gg_y_X0_insert__a16_X1_same
set_option maxHeartbeats 40000000 in
set_option maxRecDepth 100000 in
theorem c_y_X0_insert__a16 (l : Launch) (dC : Nat → ClassId) (dI : Nat → Nat → Nat) (cy : Nat → ClassId) (a z : Nat → Nat) (k0 : Nat) (L0 : LV) (σ0 : CS) (r0 : Int32 × CS) (h0 : y_X0_insert__a16 k0 0 L0 σ0 = some r0) (sz : Nat) : Met l yX0_insert w_y_X0_insert__a16 ({ frames := 63, cells := 0, slots := 0, locals := 1760 }) (va_Pc [.ref (a 14), .ref (a 16), .int (L0.1 2), .int (L0.1 3), .int (L0.1 4), .int (L0.1 5)] (nIn (dC, dI) cy sz (vC cy a z σ0))) (va_Qi (fun (x : Int32) (_ : Unit) => x = r0.1) (fun _ t => nOut (dC, dI) cy (va_A (vC cy a z σ0) sz) (vC cy a z r0.2) t) (va_A (vC cy a z σ0) sz)) 0 0 (va_A (vC cy a z σ0) sz) := by
  refine Met.ofW (cc := cX0_insert) (maxL := 10) (ret := (some .boolean)) (by decide) rfl ?_
  intro p e s m args below meth c s₁ B hml hv
  obtain ⟨rfl, hsz, hP, hK, hD0, hG⟩ := hv
  have hx := B.exec
  have hb := B.bytes
  have hr := B.returns
  have hts := atoms_spec (ws := w_y_X0_insert__a16) B.pre
  have hown : s.vm.findClass RX0 = some m.cls := findClass_of_methodNamed B.named
  have hlocks := B.notSynchronized
  subst hsz
  have hD := hD0.self (sz := s.heap.size)
  generalize hAe : va_A (vC cy a z σ0) s.heap.size = A at hD ⊢
  have hA : ∀ q : Nat, s.heap.size ≤ q → A q := fun q h => by rw [← hAe]; exact Or.inr h
  have hS : va_S A s.heap s.heap [] := va_S.rf
  have hl := lv_entry ([.ref (a 14), .ref (a 16), .int (L0.1 2), .int (L0.1 3), .int (L0.1 4), .int (L0.1 5)]) (n := 10) (Nat.le_of_ble_eq_true rfl)
  rw [lg_entry_eq]
  generalize (lg_sl ([.ref (a 14), .ref (a 16), .int (L0.1 2), .int (L0.1 3), .int (L0.1 4), .int (L0.1 5)]) ++ List.replicate (10 - (lg_sl ([.ref (a 14), .ref (a 16), .int (L0.1 2), .int (L0.1 3), .int (L0.1 4), .int (L0.1 5)])).length) Slot.unset).toArray = ls at hl ⊢
  have hl : lv_has ls 10 [(0, .ref (a 14)), (1, .ref (a 16)), (2, .int (L0.1 2)), (3, .int (L0.1 3)), (4, .int (L0.1 4)), (5, .int (L0.1 5))] := hl
  have blk : ∀ k : Nat, (bC p l e (headSpec w_y_X0_insert__a16 ({ frames := 63, cells := 0, slots := 0, locals := 1760 })).room s m #[.ref (a 14), .ref (a 16), .int (L0.1 2), .int (L0.1 3), .int (L0.1 4), .int (L0.1 5)] below meth c dC dI cy a z A (kI dC dI cy a z A below #[.ref (a 14), .ref (a 16), .int (L0.1 2), .int (L0.1 3), .int (L0.1 4), .int (L0.1 5)] s) 10 (y_X0_insert__a16 k 0) (fun L => [(0, .ref (a 14)), (1, .ref (a 16)), (2, .int (L.1 2)), (3, .int (L.1 3)), (4, .int (L.1 4)), (5, .int (L.1 5))]) 0 (fun L => [])) ∧ (bC p l e (headSpec w_y_X0_insert__a16 ({ frames := 63, cells := 0, slots := 0, locals := 1760 })).room s m #[.ref (a 14), .ref (a 16), .int (L0.1 2), .int (L0.1 3), .int (L0.1 4), .int (L0.1 5)] below meth c dC dI cy a z A (kI dC dI cy a z A below #[.ref (a 14), .ref (a 16), .int (L0.1 2), .int (L0.1 3), .int (L0.1 4), .int (L0.1 5)] s) 10 (y_X0_insert__a16 k 1) (fun L => [(0, .ref (a 14)), (1, .ref (a 16)), (2, .int (L.1 2)), (3, .int (L.1 3)), (4, .int (L.1 4)), (5, .int (L.1 5)), (6, .int (L.1 6)), (7, .int (L.1 7))]) 34 (fun L => [])) ∧ (bC p l e (headSpec w_y_X0_insert__a16 ({ frames := 63, cells := 0, slots := 0, locals := 1760 })).room s m #[.ref (a 14), .ref (a 16), .int (L0.1 2), .int (L0.1 3), .int (L0.1 4), .int (L0.1 5)] below meth c dC dI cy a z A (kI dC dI cy a z A below #[.ref (a 14), .ref (a 16), .int (L0.1 2), .int (L0.1 3), .int (L0.1 4), .int (L0.1 5)] s) 10 (y_X0_insert__a16 k 2) (fun L => [(0, .ref (a 14)), (1, .ref (a 16)), (2, .int (L.1 2)), (3, .int (L.1 3)), (4, .int (L.1 4)), (5, .int (L.1 5)), (6, .int (L.1 6)), (7, .int (L.1 7)), (8, .int (L.1 8))]) 37 (fun L => [])) ∧ (bC p l e (headSpec w_y_X0_insert__a16 ({ frames := 63, cells := 0, slots := 0, locals := 1760 })).room s m #[.ref (a 14), .ref (a 16), .int (L0.1 2), .int (L0.1 3), .int (L0.1 4), .int (L0.1 5)] below meth c dC dI cy a z A (kI dC dI cy a z A below #[.ref (a 14), .ref (a 16), .int (L0.1 2), .int (L0.1 3), .int (L0.1 4), .int (L0.1 5)] s) 10 (y_X0_insert__a16 k 3) (fun L => [(0, .ref (a 14)), (1, .ref (a 16)), (2, .int (L.1 2)), (3, .int (L.1 3)), (4, .int (L.1 4)), (5, .int (L.1 5)), (6, .int (L.1 6))]) 95 (fun L => [])) ∧ (bC p l e (headSpec w_y_X0_insert__a16 ({ frames := 63, cells := 0, slots := 0, locals := 1760 })).room s m #[.ref (a 14), .ref (a 16), .int (L0.1 2), .int (L0.1 3), .int (L0.1 4), .int (L0.1 5)] below meth c dC dI cy a z A (kI dC dI cy a z A below #[.ref (a 14), .ref (a 16), .int (L0.1 2), .int (L0.1 3), .int (L0.1 4), .int (L0.1 5)] s) 10 (y_X0_insert__a16 k 4) (fun L => [(0, .ref (a 14)), (1, .ref (a 16)), (2, .int (L.1 2)), (3, .int (L.1 3)), (4, .int (L.1 4)), (5, .int (L.1 5)), (6, .int (L.1 6)), (8, .int (L.1 8)), (9, .int (L.1 9))]) 85 (fun L => [])) ∧ (bC p l e (headSpec w_y_X0_insert__a16 ({ frames := 63, cells := 0, slots := 0, locals := 1760 })).room s m #[.ref (a 14), .ref (a 16), .int (L0.1 2), .int (L0.1 3), .int (L0.1 4), .int (L0.1 5)] below meth c dC dI cy a z A (kI dC dI cy a z A below #[.ref (a 14), .ref (a 16), .int (L0.1 2), .int (L0.1 3), .int (L0.1 4), .int (L0.1 5)] s) 10 (y_X0_insert__a16 k 5) (fun L => [(0, .ref (a 14)), (1, .ref (a 16)), (2, .int (L.1 2)), (3, .int (L.1 3)), (4, .int (L.1 4)), (5, .int (L.1 5)), (6, .int (L.1 6)), (7, .int (L.1 7)), (8, .int (L.1 8))]) 89 (fun L => [])) ∧ (bC p l e (headSpec w_y_X0_insert__a16 ({ frames := 63, cells := 0, slots := 0, locals := 1760 })).room s m #[.ref (a 14), .ref (a 16), .int (L0.1 2), .int (L0.1 3), .int (L0.1 4), .int (L0.1 5)] below meth c dC dI cy a z A (kI dC dI cy a z A below #[.ref (a 14), .ref (a 16), .int (L0.1 2), .int (L0.1 3), .int (L0.1 4), .int (L0.1 5)] s) 10 (y_X0_insert__a16 k 6) (fun L => [(1, .ref (a 16)), (4, .int (L.1 4)), (5, .int (L.1 5)), (6, .int (L.1 6))]) 121 (fun L => [])) := by
    intro k
    induction k with
    | zero => exact ⟨fun L σ r h => (by cases h), fun L σ r h => (by cases h), fun L σ r h => (by cases h), fun L σ r h => (by cases h), fun L σ r h => (by cases h), fun L σ r h => (by cases h), fun L σ r h => (by cases h)⟩
    | succ k ih =>
      refine ⟨?_, ?_, ?_, ?_, ?_, ?_, ?_⟩
      · intro L σ r h H locs ls hP hD hS hl
        rw [y_X0_insert__a16] at h
        refine lv_iload_n hx hb dX0_insert_0 rfl (lv_at hl 2 rfl) ?_
        refine lv_istore (lv' := [(6, .int (L.1 2)), (0, .ref (a 14)), (1, .ref (a 16)), (2, .int (L.1 2)), (3, .int (L.1 3)), (4, .int (L.1 4)), (5, .int (L.1 5))]) hx hb dX0_insert_1 hl (by decide) rfl (fun ls hl => ?_)
        refine lv_iload_n hx hb dX0_insert_3 rfl (lv_at hl 3 rfl) ?_
        refine lv_iload_n hx hb dX0_insert_4 rfl (lv_at hl 4 rfl) ?_
        refine lv_iadd hx hb dX0_insert_5 ?_
        refine lv_istore (lv' := [(7, .int (((L.1 2)) + ((L.1 3)))), (6, .int (L.1 2)), (0, .ref (a 14)), (1, .ref (a 16)), (2, .int (L.1 2)), (3, .int (L.1 3)), (4, .int (L.1 4)), (5, .int (L.1 5))]) hx hb dX0_insert_6 hl (by decide) rfl (fun ls hl => ?_)
        refine lv_iload_n hx hb dX0_insert_8 rfl (lv_at hl 5 rfl) ?_
        refine lv_if_le (tgt := 34) hx hb dX0_insert_9 (by decide) (fun c1 => ?_) (fun c1 => ?_)
        · rw [if_pos c1] at h
          exact ih.2.1 (lI (lI L 6 ((L.1 2))) 7 ((((L.1 2)) + ((L.1 3))))) σ r h H locs ls hP hD hS (lv_sub hl [2, 3, 4, 5, 6, 7, 1, 0] rfl)
        · rw [if_neg c1] at h
          refine lv_aload_n hx hb dX0_insert_12 rfl (lv_at hl 2 rfl) ?_
          refine hg_14_0 hx hb hts in_y_X0_insert__a16_X0 hown hK hP (hts _ (List.mem_cons_of_mem _ (List.mem_append_left _ (List.mem_append_left _ (List.mem_of_getElem? (i := 0) rfl))))) dX0_insert_13 ?_
          refine lv_aload_n hx hb dX0_insert_16 rfl (lv_at hl 3 rfl) ?_
          refine lv_iload hx hb dX0_insert_17 (lv_at hl 0 rfl) ?_
          refine lv_iconst (v := 1) hx hb dX0_insert_19 (by decide) ?_
          refine lv_isub hx hb dX0_insert_20 ?_
          obtain ⟨q2, h⟩ := kb_ite1 h
          refine hl_16 hx hb hK hP q2 dX0_insert_21 ?_
          refine lv_iload hx hb dX0_insert_22 (lv_at hl 7 rfl) ?_
          obtain ⟨r3, hc3, h⟩ := oc_ex h
          refine kc_i (va_runV (As := [.int (σ.2.2.1 16 ((((((L.1 2)) + ((L.1 3)))) - 1)).toNatClampNeg), .int (L.1 5)]) (rest := []) ⟨hx, hb, hml, hown, hts⟩ (c_y_X1_compare l dC dI cy a z k (lI (lI lZ 1 ((σ.2.2.1 16 ((((((L.1 2)) + ((L.1 3)))) - 1)).toNatClampNeg))) 2 ((L.1 5))) σ r3 hc3 H.size) (cwV 2 hts g_y_X0_insert__a16_X1_compare_V91 rfl rfl rfl hd_y_X1_compare ⟨Nat.le_of_ble_eq_true rfl, Nat.le_of_ble_eq_true rfl⟩) ⟨nb_blind, va_recv hK hP (ci := 1) (q0 := 0) rfl rfl, (kb_pre hK hG hP hD)⟩ rfl rfl hl.1 rfl (lv_room (Nat.le_of_ble_eq_true rfl)) dX0_insert_24 ⟨Nat.le_refl _, Nat.le_refl _⟩) hA hP hD hS (fun H locs hP hD hS => ?_)
          refine lv_if_ge (tgt := 34) hx hb dX0_insert_27 (by decide) (fun c4 => ?_) (fun c4 => ?_)
          · rw [if_pos c4] at h
            exact ih.2.1 (lI (lI L 6 ((L.1 2))) 7 ((((L.1 2)) + ((L.1 3))))) r3.2 r h H locs ls hP hD hS (lv_sub hl [2, 3, 4, 5, 6, 7, 1, 0] rfl)
          · rw [if_neg c4] at h
            refine lv_iload hx hb dX0_insert_30 (lv_at hl 0 rfl) ?_
            refine lv_istore (lv' := [(6, .int (((L.1 2)) + ((L.1 3)))), (7, .int (((L.1 2)) + ((L.1 3)))), (0, .ref (a 14)), (1, .ref (a 16)), (2, .int (L.1 2)), (3, .int (L.1 3)), (4, .int (L.1 4)), (5, .int (L.1 5))]) hx hb dX0_insert_32 hl (by decide) rfl (fun ls hl => ?_)
            exact ih.2.1 (lI (lI L 6 ((((L.1 2)) + ((L.1 3))))) 7 ((((L.1 2)) + ((L.1 3))))) r3.2 r h H locs ls hP hD hS (lv_sub hl [2, 3, 4, 5, 6, 7, 0, 1] rfl)
      · intro L σ r h H locs ls hP hD hS hl
        rw [y_X0_insert__a16] at h
        refine lv_iconst (v := 0) hx hb dX0_insert_34 (by decide) ?_
        refine lv_istore (lv' := [(8, .int 0), (0, .ref (a 14)), (1, .ref (a 16)), (2, .int (L.1 2)), (3, .int (L.1 3)), (4, .int (L.1 4)), (5, .int (L.1 5)), (6, .int (L.1 6)), (7, .int (L.1 7))]) hx hb dX0_insert_35 hl (by decide) rfl (fun ls hl => ?_)
        exact ih.2.2.1 (lI L 8 0) σ r h H locs ls hP hD hS (lv_sub hl [1, 2, 3, 4, 5, 6, 7, 8, 0] rfl)
      · intro L σ r h H locs ls hP hD hS hl
        rw [y_X0_insert__a16] at h
        refine lv_iload hx hb dX0_insert_37 (lv_at hl 8 rfl) ?_
        refine lv_bipush (v := 32) hx hb dX0_insert_39 (by decide) ?_
        refine lv_icmp_ge (tgt := 95) hx hb dX0_insert_41 (by decide) (fun c1 => ?_) (fun c1 => ?_)
        · rw [if_pos c1] at h
          exact ih.2.2.2.1 L σ r h H locs ls hP hD hS (lv_sub hl [0, 1, 2, 3, 4, 5, 6] rfl)
        · rw [if_neg c1] at h
          refine lv_iload hx hb dX0_insert_44 (lv_at hl 6 rfl) ?_
          refine lv_iload hx hb dX0_insert_46 (lv_at hl 7 rfl) ?_
          refine lv_icmp_ge (tgt := 95) hx hb dX0_insert_48 (by decide) (fun c2 => ?_) (fun c2 => ?_)
          · rw [if_pos c2] at h
            exact ih.2.2.2.1 L σ r h H locs ls hP hD hS (lv_sub hl [0, 1, 2, 3, 4, 5, 6] rfl)
          · rw [if_neg c2] at h
            refine lv_iload hx hb dX0_insert_51 (lv_at hl 6 rfl) ?_
            refine lv_iload hx hb dX0_insert_53 (lv_at hl 7 rfl) ?_
            refine lv_iadd hx hb dX0_insert_55 ?_
            refine lv_iconst (v := 1) hx hb dX0_insert_56 (by decide) ?_
            refine lv_iushr (v := (((((L.1 6)) + ((L.1 7)))).toUInt32 >>> ((1 : Int32).toUInt32 &&& Int32.toUInt32 31)).toInt32) hx hb dX0_insert_57 rfl ?_
            refine lv_istore (lv' := [(9, .int ((((((L.1 6)) + ((L.1 7)))).toUInt32 >>> ((1 : Int32).toUInt32 &&& Int32.toUInt32 31)).toInt32)), (0, .ref (a 14)), (1, .ref (a 16)), (2, .int (L.1 2)), (3, .int (L.1 3)), (4, .int (L.1 4)), (5, .int (L.1 5)), (6, .int (L.1 6)), (7, .int (L.1 7)), (8, .int (L.1 8))]) hx hb dX0_insert_58 hl (by decide) rfl (fun ls hl => ?_)
            refine lv_aload_n hx hb dX0_insert_60 rfl (lv_at hl 1 rfl) ?_
            refine hg_14_0 hx hb hts in_y_X0_insert__a16_X0 hown hK hP (hts _ (List.mem_cons_of_mem _ (List.mem_append_left _ (List.mem_append_left _ (List.mem_of_getElem? (i := 0) rfl))))) dX0_insert_61 ?_
            refine lv_aload_n hx hb dX0_insert_64 rfl (lv_at hl 2 rfl) ?_
            refine lv_iload hx hb dX0_insert_65 (lv_at hl 0 rfl) ?_
            obtain ⟨q3, h⟩ := kb_ite1 h
            refine hl_16 hx hb hK hP q3 dX0_insert_67 ?_
            refine lv_iload hx hb dX0_insert_68 (lv_at hl 6 rfl) ?_
            obtain ⟨r4, hc4, h⟩ := oc_ex h
            refine kc_i (va_runV (As := [.int (σ.2.2.1 16 (((((((L.1 6)) + ((L.1 7)))).toUInt32 >>> ((1 : Int32).toUInt32 &&& Int32.toUInt32 31)).toInt32)).toNatClampNeg), .int (L.1 5)]) (rest := []) ⟨hx, hb, hml, hown, hts⟩ (c_y_X1_compare l dC dI cy a z k (lI (lI lZ 1 ((σ.2.2.1 16 (((((((L.1 6)) + ((L.1 7)))).toUInt32 >>> ((1 : Int32).toUInt32 &&& Int32.toUInt32 31)).toInt32)).toNatClampNeg))) 2 ((L.1 5))) σ r4 hc4 H.size) (cwV 2 hts g_y_X0_insert__a16_X1_compare_V91 rfl rfl rfl hd_y_X1_compare ⟨Nat.le_of_ble_eq_true rfl, Nat.le_of_ble_eq_true rfl⟩) ⟨nb_blind, va_recv hK hP (ci := 1) (q0 := 0) rfl rfl, (kb_pre hK hG hP hD)⟩ rfl rfl hl.1 rfl (lv_room (Nat.le_of_ble_eq_true rfl)) dX0_insert_70 ⟨Nat.le_refl _, Nat.le_refl _⟩) hA hP hD hS (fun H locs hP hD hS => ?_)
            refine lv_if_ge (tgt := 85) hx hb dX0_insert_73 (by decide) (fun c5 => ?_) (fun c5 => ?_)
            · rw [if_pos c5] at h
              exact ih.2.2.2.2.1 (lI L 9 (((((((L.1 6)) + ((L.1 7)))).toUInt32 >>> ((1 : Int32).toUInt32 &&& Int32.toUInt32 31)).toInt32))) r4.2 r h H locs ls hP hD hS (lv_sub hl [1, 2, 3, 4, 5, 6, 7, 9, 0] rfl)
            · rw [if_neg c5] at h
              refine lv_iload hx hb dX0_insert_76 (lv_at hl 0 rfl) ?_
              refine lv_iconst (v := 1) hx hb dX0_insert_78 (by decide) ?_
              refine lv_iadd hx hb dX0_insert_79 ?_
              refine lv_istore (lv' := [(6, .int ((((((((L.1 6)) + ((L.1 7)))).toUInt32 >>> ((1 : Int32).toUInt32 &&& Int32.toUInt32 31)).toInt32)) + 1)), (9, .int ((((((L.1 6)) + ((L.1 7)))).toUInt32 >>> ((1 : Int32).toUInt32 &&& Int32.toUInt32 31)).toInt32)), (0, .ref (a 14)), (1, .ref (a 16)), (2, .int (L.1 2)), (3, .int (L.1 3)), (4, .int (L.1 4)), (5, .int (L.1 5)), (7, .int (L.1 7)), (8, .int (L.1 8))]) hx hb dX0_insert_80 hl (by decide) rfl (fun ls hl => ?_)
              refine lv_goto (tgt := 89) hx hb dX0_insert_82 (by decide) ?_
              exact ih.2.2.2.2.2.1 (lI L 6 (((((((((L.1 6)) + ((L.1 7)))).toUInt32 >>> ((1 : Int32).toUInt32 &&& Int32.toUInt32 31)).toInt32)) + 1))) r4.2 r h H locs ls hP hD hS (lv_sub hl [2, 3, 4, 5, 6, 7, 0, 8, 9] rfl)
      · intro L σ r h H locs ls hP hD hS hl
        rw [y_X0_insert__a16] at h
        refine lv_iload hx hb dX0_insert_95 (lv_at hl 6 rfl) ?_
        refine lv_iload_n hx hb dX0_insert_97 rfl (lv_at hl 2 rfl) ?_
        refine lv_iload_n hx hb dX0_insert_98 rfl (lv_at hl 3 rfl) ?_
        refine lv_iadd hx hb dX0_insert_99 ?_
        refine lv_icmp_ge (tgt := 121) hx hb dX0_insert_100 (by decide) (fun c1 => ?_) (fun c1 => ?_)
        · rw [if_pos c1] at h
          exact ih.2.2.2.2.2.2 L σ r h H locs ls hP hD hS (lv_sub hl [1, 4, 5, 6] rfl)
        · rw [if_neg c1] at h
          refine lv_aload_n hx hb dX0_insert_103 rfl (lv_at hl 0 rfl) ?_
          refine hg_14_0 hx hb hts in_y_X0_insert__a16_X0 hown hK hP (hts _ (List.mem_cons_of_mem _ (List.mem_append_left _ (List.mem_append_left _ (List.mem_of_getElem? (i := 0) rfl))))) dX0_insert_104 ?_
          refine lv_aload_n hx hb dX0_insert_107 rfl (lv_at hl 1 rfl) ?_
          refine lv_iload hx hb dX0_insert_108 (lv_at hl 6 rfl) ?_
          obtain ⟨q2, h⟩ := kb_ite1 h
          refine hl_16 hx hb hK hP q2 dX0_insert_110 ?_
          refine lv_iload hx hb dX0_insert_111 (lv_at hl 5 rfl) ?_
          obtain ⟨r3, hc3, h⟩ := oc_ex h
          refine kc_i (va_runV (As := [.int (σ.2.2.1 16 ((L.1 6)).toNatClampNeg), .int (L.1 5)]) (rest := []) ⟨hx, hb, hml, hown, hts⟩ (c_y_X1_same l dC dI cy a z k (lI (lI lZ 1 ((σ.2.2.1 16 ((L.1 6)).toNatClampNeg))) 2 ((L.1 5))) σ r3 hc3 H.size) (cwV 2 hts g_y_X0_insert__a16_X1_same_V60 rfl rfl rfl hd_y_X1_same ⟨Nat.le_of_ble_eq_true rfl, Nat.le_of_ble_eq_true rfl⟩) ⟨nb_blind, va_recv hK hP (ci := 1) (q0 := 0) rfl rfl, (kb_pre hK hG hP hD)⟩ rfl rfl hl.1 rfl (lv_room (Nat.le_of_ble_eq_true rfl)) dX0_insert_113 ⟨Nat.le_refl _, Nat.le_refl _⟩) hA hP hD hS (fun H locs hP hD hS => ?_)
          refine lv_if_eq (tgt := 121) hx hb dX0_insert_116 (by decide) (fun c4 => ?_) (fun c4 => ?_)
          · rw [if_pos c4] at h
            exact ih.2.2.2.2.2.2 L r3.2 r h H locs ls hP hD hS (lv_sub hl [1, 4, 5, 6] rfl)
          · rw [if_neg c4] at h
            refine lv_iconst (v := 0) hx hb dX0_insert_119 (by decide) ?_
            obtain rfl := Option.some.inj h
            exact W.zret (v := 0) hx hb hr rfl (fun t ht hW => ⟨⟨0, (), rfl, rfl, by rw [ht]; exact hP, va_K.moved hW.alike hK, hD⟩, hS.F ht⟩) hS.2.2 dX0_insert_120
      · intro L σ r h H locs ls hP hD hS hl
        rw [y_X0_insert__a16] at h
        refine lv_iload hx hb dX0_insert_85 (lv_at hl 8 rfl) ?_
        refine lv_istore (lv' := [(7, .int (L.1 9)), (0, .ref (a 14)), (1, .ref (a 16)), (2, .int (L.1 2)), (3, .int (L.1 3)), (4, .int (L.1 4)), (5, .int (L.1 5)), (6, .int (L.1 6)), (8, .int (L.1 8)), (9, .int (L.1 9))]) hx hb dX0_insert_87 hl (by decide) rfl (fun ls hl => ?_)
        exact ih.2.2.2.2.2.1 (lI L 7 ((L.1 9))) σ r h H locs ls hP hD hS (lv_sub hl [1, 2, 3, 4, 5, 6, 7, 0, 8] rfl)
      · intro L σ r h H locs ls hP hD hS hl
        rw [y_X0_insert__a16] at h
        refine lv_iinc (v := ((L.1 8)) + 1) (lv' := [(8, .int (((L.1 8)) + 1)), (0, .ref (a 14)), (1, .ref (a 16)), (2, .int (L.1 2)), (3, .int (L.1 3)), (4, .int (L.1 4)), (5, .int (L.1 5)), (6, .int (L.1 6)), (7, .int (L.1 7))]) hx hb dX0_insert_89 hl (k := 8) rfl rfl (by decide) rfl (fun ls hl => ?_)
        refine lv_goto (tgt := 37) hx hb dX0_insert_92 (by decide) ?_
        exact ih.2.2.1 (lI L 8 ((((L.1 8)) + 1))) σ r h H locs ls hP hD hS (lv_sub hl [1, 2, 3, 4, 5, 6, 7, 8, 0] rfl)
      · intro L σ r h H locs ls hP hD hS hl
        rw [y_X0_insert__a16] at h
        refine lv_aload_n hx hb dX0_insert_121 rfl (lv_at hl 0 rfl) ?_
        refine lv_iload hx hb dX0_insert_122 (lv_at hl 3 rfl) ?_
        refine lv_aload_n hx hb dX0_insert_124 rfl (lv_at hl 0 rfl) ?_
        refine lv_iload hx hb dX0_insert_125 (lv_at hl 3 rfl) ?_
        refine lv_iconst (v := 1) hx hb dX0_insert_127 (by decide) ?_
        refine lv_iadd hx hb dX0_insert_128 ?_
        refine lv_iload hx hb dX0_insert_129 (lv_at hl 1 rfl) ?_
        refine lv_iload hx hb dX0_insert_131 (lv_at hl 3 rfl) ?_
        refine lv_isub hx hb dX0_insert_133 ?_
        obtain ⟨q1, h⟩ := kb_ite1 h
        refine va_copyi (ty := .int) hx hb (hml.trans hl.1.symm) hown (hts _ (List.mem_cons_of_mem _ (List.mem_append_left _ (List.mem_append_left _ (List.mem_of_getElem? (i := 8) rfl))))) (hts _ (List.mem_cons_of_mem _ (List.mem_append_left _ (List.mem_append_left _ (List.mem_of_getElem? (i := 9) rfl))))) (hts _ (List.mem_cons_of_mem _ (List.mem_append_left _ (List.mem_append_left _ (List.mem_of_getElem? (i := 10) rfl))))) (hts _ (List.mem_cons_of_mem _ (List.mem_append_left _ (List.mem_append_left _ (List.mem_of_getElem? (i := 11) rfl))))) hK hP hD hS 16 16 1 1 rfl rfl rfl rfl rfl q1.1 q1.2.1 q1.2.2.1 q1.2.2.2.1 q1.2.2.2.2 (fun _ _ => rfl) (Nat.le_of_ble_eq_true rfl) (Nat.le_of_ble_eq_true rfl) dX0_insert_134 (fun H locs hP hD hS => ?_)
        have hP : va_P (dC, dI) nCl (vC cy a z (uF σ 16 (va_cpy (σ.2.2.1 16) (σ.2.2.1 16) ((L.1 6)).toNatClampNeg ((((L.1 6)) + 1)).toNatClampNeg ((((L.1 4)) - ((L.1 6)))).toNatClampNeg))) H := hP
        have hD : va_D A (vC cy a z (uF σ 16 (va_cpy (σ.2.2.1 16) (σ.2.2.1 16) ((L.1 6)).toNatClampNeg ((((L.1 6)) + 1)).toNatClampNeg ((((L.1 4)) - ((L.1 6)))).toNatClampNeg))) := hD
        refine lv_aload_n hx hb dX0_insert_137 rfl (lv_at hl 0 rfl) ?_
        refine lv_iload hx hb dX0_insert_138 (lv_at hl 3 rfl) ?_
        refine lv_iload hx hb dX0_insert_140 (lv_at hl 2 rfl) ?_
        obtain ⟨q2, h⟩ := kb_ite1 h
        refine hs_16 hx hb hK hP hD hS q2 dX0_insert_142 (fun H locs hP hD hS => ?_)
        refine lv_iconst (v := 1) hx hb dX0_insert_143 (by decide) ?_
        obtain rfl := Option.some.inj h
        exact W.zret (v := 1) hx hb hr rfl (fun t ht hW => ⟨⟨1, (), rfl, rfl, by rw [ht]; exact hP, va_K.moved hW.alike hK, hD⟩, hS.F ht⟩) hS.2.2 dX0_insert_144
  exact (blk k0).1 L0 σ0 r0 h0 s.heap [] ls hP hD hS hl
/-! X0_range -/
def y_X0_range : Nat → Nat → LV → CS → Option (Int32 × CS)
  | 0, _, _, _ => none
  | k + 1, 0, L, σ => y_X0_range k 1 (lI (lI L 2 0) 3 0) σ
  | k + 1, 1, L, σ => oc (y_X1_length k 0 (lI lZ 1 ((L.1 1))) σ) (fun r1 => if r1.1 ≤ ((L.1 3)) then (y_X0_range k 2 L r1.2) else (if ((Int32.ofNat 2048)) ≤ ((L.1 2)) then (y_X0_range k 2 L r1.2) else (oc (y_X1_member k 0 (lI (lI lZ 1 ((L.1 1))) 2 ((L.1 3))) r1.2) (fun r4 => oc (y_X1_member k 0 (lI (lI lZ 1 r4.1) 2 1) r4.2) (fun r5 => oc (y_X0_insert__a16 k 0 (lI (lI (lI (lI lZ 2 0) 3 ((L.1 2))) 4 ((L.1 2))) 5 r5.1) r5.2) (fun r6 => if r6.1 = 0 then (y_X0_range k 3 L r6.2) else (y_X0_range k 3 (lI L 2 ((((L.1 2)) + 1))) r6.2)))))))
  | k + 1, 2, L, σ => oc (y_X1_makeRow__a16 k 0 (lI (lI (lI lZ 1 6) 3 0) 4 ((L.1 2))) σ) (fun r1 => some (r1.1, r1.2))
  | k + 1, 3, L, σ => y_X0_range k 1 (lI L 3 ((((L.1 3)) + 1))) σ
  | _ + 1, _ + 4, _, _ => none
def o_y_X0_range : List Cond := [.fieldLink RX0 22 "SetHouse$Algebra" "heap" "LSetHouse$Heap;", .methodLink RX0 100 yX1_length, .instanceMethod yX1_length, .selects RX1 yX1_length yX1_length, .initialized RX1, .fieldLink RX0 15 "SetHouse$Algebra" "row" "[I", .methodLink RX0 154 yX1_member, .instanceMethod yX1_member, .selects RX1 yX1_member yX1_member, .methodLink RX0 175 yX0_insert, .instanceMethod yX0_insert, .selects RX0 yX0_insert yX0_insert, .initialized RX0, .methodLink RX0 160 yX1_makeRow, .instanceMethod yX1_makeRow, .selects RX1 yX1_makeRow yX1_makeRow]
theorem o_y_X0_range_good : o_y_X0_range.all goodWord = true := by decide +kernel
def p_y_X0_range : List Cond := o_y_X0_range ++ ((.code yX1_length cX1_length 2 (some .int) :: p_y_X1_length) ++ ((.code yX1_member cX1_member 3 (some .int) :: p_y_X1_member) ++ ((.code yX0_insert cX0_insert 10 (some .boolean) :: p_y_X0_insert__a16) ++ ((.code yX1_makeRow cX1_makeRow 11 (some .int) :: p_y_X1_makeRow__a16) ++ []))))
theorem p_y_X0_range_good : p_y_X0_range.all goodWord = true := nb_all2 o_y_X0_range_good (nb_all2 (nb_allc (by decide +kernel) p_y_X1_length_good) (nb_all2 (nb_allc (by decide +kernel) p_y_X1_member_good) (nb_all2 (nb_allc (by decide +kernel) p_y_X0_insert__a16_good) (nb_all2 (nb_allc (by decide +kernel) p_y_X1_makeRow__a16_good) rfl))))
def w_y_X0_range : List Cond := .code yX0_range cX0_range 4 (some .int) :: (p_y_X0_range ++ fC)
theorem w_y_X0_range_good : w_y_X0_range.all goodWord = true := nb_allc (by decide +kernel) (nb_all2 p_y_X0_range_good fC_good)
theorem in_y_X0_range_X0 : ∀ w ∈ wsX00, w ∈ w_y_X0_range := fun _ h => List.mem_cons_of_mem _ (List.mem_append_right _ (List.mem_append_left _ h))
theorem hd_y_X0_range : yX0_range.cls = RX0 ∧ yX0_range.cls ≠ "java/lang/invoke/MethodHandle" ∧ yX0_range.cls ≠ "java/lang/invoke/VarHandle" ∧ (parseMethodDescriptor yX0_range.desc).map (fun d => d.parameters.length) = some 1 := by decide +kernel
theorem gg_y_X0_range_X0_insert__a16 : GoodIn w_y_X0_range w_y_X0_insert__a16 := goodIn_sub (fun w h => (List.mem_cons.mp h).elim (fun e => (List.mem_cons_of_mem _ (List.mem_append_left _ (List.mem_append_right _ (List.mem_append_right _ (List.mem_append_right _ (List.mem_append_left _ (List.mem_cons.mpr (Or.inl e))))))))) (fun h => (List.mem_append.mp h).elim (fun h => (List.mem_cons_of_mem _ (List.mem_append_left _ (List.mem_append_right _ (List.mem_append_right _ (List.mem_append_right _ (List.mem_append_left _ (List.mem_cons_of_mem _ h)))))))) (fun h => List.mem_cons_of_mem _ (List.mem_append_right _ h)))) w_y_X0_insert__a16_good
theorem g_y_X0_range_X0_insert__a16_V175 : GoodIn w_y_X0_range (wsV RX0 175 RX0 yX0_insert w_y_X0_insert__a16) := goodIn_app (nb_g4 (List.mem_cons_of_mem _ (List.mem_append_left _ (List.mem_append_left _ (List.mem_of_getElem? (i := 9) rfl)))) (List.mem_cons_of_mem _ (List.mem_append_left _ (List.mem_append_left _ (List.mem_of_getElem? (i := 10) rfl)))) (List.mem_cons_of_mem _ (List.mem_append_left _ (List.mem_append_left _ (List.mem_of_getElem? (i := 11) rfl)))) (List.mem_cons_of_mem _ (List.mem_append_left _ (List.mem_append_left _ (List.mem_of_getElem? (i := 12) rfl)))) (by decide +kernel)) gg_y_X0_range_X0_insert__a16
theorem gg_y_X0_range_X1_length : GoodIn w_y_X0_range w_y_X1_length := goodIn_sub (fun w h => (List.mem_cons.mp h).elim (fun e => (List.mem_cons_of_mem _ (List.mem_append_left _ (List.mem_append_right _ (List.mem_append_left _ (List.mem_cons.mpr (Or.inl e))))))) (fun h => (List.mem_append.mp h).elim (fun h => (List.mem_cons_of_mem _ (List.mem_append_left _ (List.mem_append_right _ (List.mem_append_left _ (List.mem_cons_of_mem _ h)))))) (fun h => List.mem_cons_of_mem _ (List.mem_append_right _ h)))) w_y_X1_length_good
theorem g_y_X0_range_X1_length_V100 : GoodIn w_y_X0_range (wsV RX0 100 RX1 yX1_length w_y_X1_length) := goodIn_app (nb_g4 (List.mem_cons_of_mem _ (List.mem_append_left _ (List.mem_append_left _ (List.mem_of_getElem? (i := 1) rfl)))) (List.mem_cons_of_mem _ (List.mem_append_left _ (List.mem_append_left _ (List.mem_of_getElem? (i := 2) rfl)))) (List.mem_cons_of_mem _ (List.mem_append_left _ (List.mem_append_left _ (List.mem_of_getElem? (i := 3) rfl)))) (List.mem_cons_of_mem _ (List.mem_append_left _ (List.mem_append_left _ (List.mem_of_getElem? (i := 4) rfl)))) (by decide +kernel)) gg_y_X0_range_X1_length
theorem gg_y_X0_range_X1_makeRow__a16 : GoodIn w_y_X0_range w_y_X1_makeRow__a16 := goodIn_sub (fun w h => (List.mem_cons.mp h).elim (fun e => (List.mem_cons_of_mem _ (List.mem_append_left _ (List.mem_append_right _ (List.mem_append_right _ (List.mem_append_right _ (List.mem_append_right _ (List.mem_append_left _ (List.mem_cons.mpr (Or.inl e)))))))))) (fun h => (List.mem_append.mp h).elim (fun h => (List.mem_cons_of_mem _ (List.mem_append_left _ (List.mem_append_right _ (List.mem_append_right _ (List.mem_append_right _ (List.mem_append_right _ (List.mem_append_left _ (List.mem_cons_of_mem _ h))))))))) (fun h => List.mem_cons_of_mem _ (List.mem_append_right _ h)))) w_y_X1_makeRow__a16_good
theorem g_y_X0_range_X1_makeRow__a16_V160 : GoodIn w_y_X0_range (wsV RX0 160 RX1 yX1_makeRow w_y_X1_makeRow__a16) := goodIn_app (nb_g4 (List.mem_cons_of_mem _ (List.mem_append_left _ (List.mem_append_left _ (List.mem_of_getElem? (i := 13) rfl)))) (List.mem_cons_of_mem _ (List.mem_append_left _ (List.mem_append_left _ (List.mem_of_getElem? (i := 14) rfl)))) (List.mem_cons_of_mem _ (List.mem_append_left _ (List.mem_append_left _ (List.mem_of_getElem? (i := 15) rfl)))) (List.mem_cons_of_mem _ (List.mem_append_left _ (List.mem_append_left _ (List.mem_of_getElem? (i := 4) rfl)))) (by decide +kernel)) gg_y_X0_range_X1_makeRow__a16
theorem gg_y_X0_range_X1_member : GoodIn w_y_X0_range w_y_X1_member := goodIn_sub (fun w h => (List.mem_cons.mp h).elim (fun e => (List.mem_cons_of_mem _ (List.mem_append_left _ (List.mem_append_right _ (List.mem_append_right _ (List.mem_append_left _ (List.mem_cons.mpr (Or.inl e)))))))) (fun h => (List.mem_append.mp h).elim (fun h => (List.mem_cons_of_mem _ (List.mem_append_left _ (List.mem_append_right _ (List.mem_append_right _ (List.mem_append_left _ (List.mem_cons_of_mem _ h))))))) (fun h => List.mem_cons_of_mem _ (List.mem_append_right _ h)))) w_y_X1_member_good
theorem g_y_X0_range_X1_member_V154 : GoodIn w_y_X0_range (wsV RX0 154 RX1 yX1_member w_y_X1_member) := goodIn_app (nb_g4 (List.mem_cons_of_mem _ (List.mem_append_left _ (List.mem_append_left _ (List.mem_of_getElem? (i := 6) rfl)))) (List.mem_cons_of_mem _ (List.mem_append_left _ (List.mem_append_left _ (List.mem_of_getElem? (i := 7) rfl)))) (List.mem_cons_of_mem _ (List.mem_append_left _ (List.mem_append_left _ (List.mem_of_getElem? (i := 8) rfl)))) (List.mem_cons_of_mem _ (List.mem_append_left _ (List.mem_append_left _ (List.mem_of_getElem? (i := 4) rfl)))) (by decide +kernel)) gg_y_X0_range_X1_member
set_option maxHeartbeats 40000000 in
set_option maxRecDepth 100000 in
theorem c_y_X0_range (l : Launch) (dC : Nat → ClassId) (dI : Nat → Nat → Nat) (cy : Nat → ClassId) (a z : Nat → Nat) (k0 : Nat) (L0 : LV) (σ0 : CS) (r0 : Int32 × CS) (h0 : y_X0_range k0 0 L0 σ0 = some r0) (sz : Nat) : Met l yX0_range w_y_X0_range ({ frames := 64, cells := 0, slots := 0, locals := 1789 }) (va_Pc [.ref (a 14), .int (L0.1 1)] (nIn (dC, dI) cy sz (vC cy a z σ0))) (va_Qi (fun (x : Int32) (_ : Unit) => x = r0.1) (fun _ t => nOut (dC, dI) cy (va_A (vC cy a z σ0) sz) (vC cy a z r0.2) t) (va_A (vC cy a z σ0) sz)) 0 0 (va_A (vC cy a z σ0) sz) := by
  refine Met.ofW (cc := cX0_range) (maxL := 4) (ret := (some .int)) (by decide) rfl ?_
  intro p e s m args below meth c s₁ B hml hv
  obtain ⟨rfl, hsz, hP, hK, hD0, hG⟩ := hv
  have hx := B.exec
  have hb := B.bytes
  have hr := B.returns
  have hts := atoms_spec (ws := w_y_X0_range) B.pre
  have hown : s.vm.findClass RX0 = some m.cls := findClass_of_methodNamed B.named
  have hlocks := B.notSynchronized
  subst hsz
  have hD := hD0.self (sz := s.heap.size)
  generalize hAe : va_A (vC cy a z σ0) s.heap.size = A at hD ⊢
  have hA : ∀ q : Nat, s.heap.size ≤ q → A q := fun q h => by rw [← hAe]; exact Or.inr h
  have hS : va_S A s.heap s.heap [] := va_S.rf
  have hl := lv_entry ([.ref (a 14), .int (L0.1 1)]) (n := 4) (Nat.le_of_ble_eq_true rfl)
  rw [lg_entry_eq]
  generalize (lg_sl ([.ref (a 14), .int (L0.1 1)]) ++ List.replicate (4 - (lg_sl ([.ref (a 14), .int (L0.1 1)])).length) Slot.unset).toArray = ls at hl ⊢
  have hl : lv_has ls 4 [(0, .ref (a 14)), (1, .int (L0.1 1))] := hl
  have blk : ∀ k : Nat, (bC p l e (headSpec w_y_X0_range ({ frames := 64, cells := 0, slots := 0, locals := 1789 })).room s m #[.ref (a 14), .int (L0.1 1)] below meth c dC dI cy a z A (kI dC dI cy a z A below #[.ref (a 14), .int (L0.1 1)] s) 4 (y_X0_range k 0) (fun L => [(0, .ref (a 14)), (1, .int (L.1 1))]) 0 (fun L => [])) ∧ (bC p l e (headSpec w_y_X0_range ({ frames := 64, cells := 0, slots := 0, locals := 1789 })).room s m #[.ref (a 14), .int (L0.1 1)] below meth c dC dI cy a z A (kI dC dI cy a z A below #[.ref (a 14), .int (L0.1 1)] s) 4 (y_X0_range k 1) (fun L => [(0, .ref (a 14)), (1, .int (L.1 1)), (2, .int (L.1 2)), (3, .int (L.1 3))]) 4 (fun L => [])) ∧ (bC p l e (headSpec w_y_X0_range ({ frames := 64, cells := 0, slots := 0, locals := 1789 })).room s m #[.ref (a 14), .int (L0.1 1)] below meth c dC dI cy a z A (kI dC dI cy a z A below #[.ref (a 14), .int (L0.1 1)] s) 4 (y_X0_range k 2) (fun L => [(0, .ref (a 14)), (2, .int (L.1 2))]) 65 (fun L => [])) ∧ (bC p l e (headSpec w_y_X0_range ({ frames := 64, cells := 0, slots := 0, locals := 1789 })).room s m #[.ref (a 14), .int (L0.1 1)] below meth c dC dI cy a z A (kI dC dI cy a z A below #[.ref (a 14), .int (L0.1 1)] s) 4 (y_X0_range k 3) (fun L => [(0, .ref (a 14)), (1, .int (L.1 1)), (2, .int (L.1 2)), (3, .int (L.1 3))]) 59 (fun L => [])) := by
    intro k
    induction k with
    | zero => exact ⟨fun L σ r h => (by cases h), fun L σ r h => (by cases h), fun L σ r h => (by cases h), fun L σ r h => (by cases h)⟩
    | succ k ih =>
      refine ⟨?_, ?_, ?_, ?_⟩
      · intro L σ r h H locs ls hP hD hS hl
        rw [y_X0_range] at h
        refine lv_iconst (v := 0) hx hb dX0_range_0 (by decide) ?_
        refine lv_istore_n (lv' := [(2, .int 0), (0, .ref (a 14)), (1, .int (L.1 1))]) hx hb dX0_range_1 rfl hl (by decide) rfl (fun ls hl => ?_)
        refine lv_iconst (v := 0) hx hb dX0_range_2 (by decide) ?_
        refine lv_istore_n (lv' := [(3, .int 0), (2, .int 0), (0, .ref (a 14)), (1, .int (L.1 1))]) hx hb dX0_range_3 rfl hl (by decide) rfl (fun ls hl => ?_)
        exact ih.2.1 (lI (lI L 2 0) 3 0) σ r h H locs ls hP hD hS (lv_sub hl [2, 3, 1, 0] rfl)
      · intro L σ r h H locs ls hP hD hS hl
        rw [y_X0_range] at h
        refine lv_iload_n hx hb dX0_range_4 rfl (lv_at hl 3 rfl) ?_
        refine lv_aload_n hx hb dX0_range_5 rfl (lv_at hl 0 rfl) ?_
        refine hg_14_0 hx hb hts in_y_X0_range_X0 hown hK hP (hts _ (List.mem_cons_of_mem _ (List.mem_append_left _ (List.mem_append_left _ (List.mem_of_getElem? (i := 0) rfl))))) dX0_range_6 ?_
        refine lv_iload_n hx hb dX0_range_9 rfl (lv_at hl 1 rfl) ?_
        obtain ⟨r1, hc1, h⟩ := oc_ex h
        refine kc_i (va_runV (As := [.int (L.1 1)]) (rest := [.int (L.1 3)]) ⟨hx, hb, hml, hown, hts⟩ (c_y_X1_length l dC dI cy a z k (lI lZ 1 ((L.1 1))) σ r1 hc1 H.size) (cwV 1 hts g_y_X0_range_X1_length_V100 rfl rfl rfl hd_y_X1_length ⟨Nat.le_of_ble_eq_true rfl, Nat.le_of_ble_eq_true rfl⟩) ⟨nb_blind, va_recv hK hP (ci := 1) (q0 := 0) rfl rfl, (kb_pre hK hG hP hD)⟩ rfl rfl hl.1 rfl (lv_room (Nat.le_of_ble_eq_true rfl)) dX0_range_10 ⟨Nat.le_refl _, Nat.le_refl _⟩) hA hP hD hS (fun H locs hP hD hS => ?_)
        refine lv_icmp_ge (tgt := 65) hx hb dX0_range_13 (by decide) (fun c2 => ?_) (fun c2 => ?_)
        · rw [if_pos c2] at h
          exact ih.2.2.1 L r1.2 r h H locs ls hP hD hS (lv_sub hl [0, 2] rfl)
        · rw [if_neg c2] at h
          refine lv_iload_n hx hb dX0_range_16 rfl (lv_at hl 2 rfl) ?_
          refine lv_aload_n hx hb dX0_range_17 rfl (lv_at hl 0 rfl) ?_
          refine hg_14_4 hx hb hts in_y_X0_range_X0 hown hK hP (hts _ (List.mem_cons_of_mem _ (List.mem_append_left _ (List.mem_append_left _ (List.mem_of_getElem? (i := 5) rfl))))) dX0_range_18 ?_
          refine hn_16 hx hb hK hP dX0_range_21 ?_
          refine lv_icmp_ge (tgt := 65) hx hb dX0_range_22 (by decide) (fun c3 => ?_) (fun c3 => ?_)
          · rw [if_pos c3] at h
            exact ih.2.2.1 L r1.2 r h H locs ls hP hD hS (lv_sub hl [0, 2] rfl)
          · rw [if_neg c3] at h
            refine lv_aload_n hx hb dX0_range_25 rfl (lv_at hl 0 rfl) ?_
            refine lv_aload_n hx hb dX0_range_26 rfl (lv_at hl 0 rfl) ?_
            refine hg_14_4 hx hb hts in_y_X0_range_X0 hown hK hP (hts _ (List.mem_cons_of_mem _ (List.mem_append_left _ (List.mem_append_left _ (List.mem_of_getElem? (i := 5) rfl))))) dX0_range_27 ?_
            refine lv_iconst (v := 0) hx hb dX0_range_30 (by decide) ?_
            refine lv_iload_n hx hb dX0_range_31 rfl (lv_at hl 2 rfl) ?_
            refine lv_iload_n hx hb dX0_range_32 rfl (lv_at hl 2 rfl) ?_
            refine lv_aload_n hx hb dX0_range_33 rfl (lv_at hl 0 rfl) ?_
            refine hg_14_0 hx hb hts in_y_X0_range_X0 hown hK hP (hts _ (List.mem_cons_of_mem _ (List.mem_append_left _ (List.mem_append_left _ (List.mem_of_getElem? (i := 0) rfl))))) dX0_range_34 ?_
            refine lv_aload_n hx hb dX0_range_37 rfl (lv_at hl 0 rfl) ?_
            refine hg_14_0 hx hb hts in_y_X0_range_X0 hown hK hP (hts _ (List.mem_cons_of_mem _ (List.mem_append_left _ (List.mem_append_left _ (List.mem_of_getElem? (i := 0) rfl))))) dX0_range_38 ?_
            refine lv_iload_n hx hb dX0_range_41 rfl (lv_at hl 1 rfl) ?_
            refine lv_iload_n hx hb dX0_range_42 rfl (lv_at hl 3 rfl) ?_
            obtain ⟨r4, hc4, h⟩ := oc_ex h
            refine kc_i (va_runV (As := [.int (L.1 1), .int (L.1 3)]) (rest := [.ref (a 0), .int (L.1 2), .int (L.1 2), .int 0, .ref (a 16), .ref (a 14)]) ⟨hx, hb, hml, hown, hts⟩ (c_y_X1_member l dC dI cy a z k (lI (lI lZ 1 ((L.1 1))) 2 ((L.1 3))) r1.2 r4 hc4 H.size) (cwV 2 hts g_y_X0_range_X1_member_V154 rfl rfl rfl hd_y_X1_member ⟨Nat.le_of_ble_eq_true rfl, Nat.le_of_ble_eq_true rfl⟩) ⟨nb_blind, va_recv hK hP (ci := 1) (q0 := 0) rfl rfl, (kb_pre hK hG hP hD)⟩ rfl rfl hl.1 rfl (lv_room (Nat.le_of_ble_eq_true rfl)) dX0_range_43 ⟨Nat.le_refl _, Nat.le_refl _⟩) hA hP hD hS (fun H locs hP hD hS => ?_)
            refine lv_iconst (v := 1) hx hb dX0_range_46 (by decide) ?_
            obtain ⟨r5, hc5, h⟩ := oc_ex h
            refine kc_i (va_runV (As := [.int r4.1, .int 1]) (rest := [.int (L.1 2), .int (L.1 2), .int 0, .ref (a 16), .ref (a 14)]) ⟨hx, hb, hml, hown, hts⟩ (c_y_X1_member l dC dI cy a z k (lI (lI lZ 1 r4.1) 2 1) r4.2 r5 hc5 H.size) (cwV 2 hts g_y_X0_range_X1_member_V154 rfl rfl rfl hd_y_X1_member ⟨Nat.le_of_ble_eq_true rfl, Nat.le_of_ble_eq_true rfl⟩) ⟨nb_blind, va_recv hK hP (ci := 1) (q0 := 0) rfl rfl, (kb_pre hK hG hP hD)⟩ rfl rfl hl.1 rfl (lv_room (Nat.le_of_ble_eq_true rfl)) dX0_range_47 ⟨Nat.le_refl _, Nat.le_refl _⟩) hA hP hD hS (fun H locs hP hD hS => ?_)
            obtain ⟨r6, hc6, h⟩ := oc_ex h
            refine kc_i (va_runV (As := [.ref (a 16), .int 0, .int (L.1 2), .int (L.1 2), .int r5.1]) (rest := []) ⟨hx, hb, hml, hown, hts⟩ (c_y_X0_insert__a16 l dC dI cy a z k (lI (lI (lI (lI lZ 2 0) 3 ((L.1 2))) 4 ((L.1 2))) 5 r5.1) r5.2 r6 hc6 H.size) (cwV 5 hts g_y_X0_range_X0_insert__a16_V175 rfl rfl rfl hd_y_X0_insert__a16 ⟨Nat.le_of_ble_eq_true rfl, Nat.le_of_ble_eq_true rfl⟩) ⟨nb_blind, va_recv hK hP (ci := 0) (q0 := 14) rfl rfl, (kb_pre hK hG hP hD)⟩ rfl rfl hl.1 rfl (lv_room (Nat.le_of_ble_eq_true rfl)) dX0_range_50 ⟨Nat.le_refl _, Nat.le_refl _⟩) hA hP hD hS (fun H locs hP hD hS => ?_)
            refine lv_if_eq (tgt := 59) hx hb dX0_range_53 (by decide) (fun c7 => ?_) (fun c7 => ?_)
            · rw [if_pos c7] at h
              exact ih.2.2.2 L r6.2 r h H locs ls hP hD hS (lv_sub hl [0, 1, 2, 3] rfl)
            · rw [if_neg c7] at h
              refine lv_iinc (v := ((L.1 2)) + 1) (lv' := [(2, .int (((L.1 2)) + 1)), (0, .ref (a 14)), (1, .int (L.1 1)), (3, .int (L.1 3))]) hx hb dX0_range_56 hl (k := 2) rfl rfl (by decide) rfl (fun ls hl => ?_)
              exact ih.2.2.2 (lI L 2 ((((L.1 2)) + 1))) r6.2 r h H locs ls hP hD hS (lv_sub hl [1, 2, 0, 3] rfl)
      · intro L σ r h H locs ls hP hD hS hl
        rw [y_X0_range] at h
        refine lv_aload_n hx hb dX0_range_65 rfl (lv_at hl 0 rfl) ?_
        refine hg_14_0 hx hb hts in_y_X0_range_X0 hown hK hP (hts _ (List.mem_cons_of_mem _ (List.mem_append_left _ (List.mem_append_left _ (List.mem_of_getElem? (i := 0) rfl))))) dX0_range_66 ?_
        refine lv_bipush (v := 6) hx hb dX0_range_69 (by decide) ?_
        refine lv_aload_n hx hb dX0_range_71 rfl (lv_at hl 0 rfl) ?_
        refine hg_14_4 hx hb hts in_y_X0_range_X0 hown hK hP (hts _ (List.mem_cons_of_mem _ (List.mem_append_left _ (List.mem_append_left _ (List.mem_of_getElem? (i := 5) rfl))))) dX0_range_72 ?_
        refine lv_iconst (v := 0) hx hb dX0_range_75 (by decide) ?_
        refine lv_iload_n hx hb dX0_range_76 rfl (lv_at hl 1 rfl) ?_
        obtain ⟨r1, hc1, h⟩ := oc_ex h
        refine kc_i (va_runV (As := [.int 6, .ref (a 16), .int 0, .int (L.1 2)]) (rest := []) ⟨hx, hb, hml, hown, hts⟩ (c_y_X1_makeRow__a16 l dC dI cy a z k (lI (lI (lI lZ 1 6) 3 0) 4 ((L.1 2))) σ r1 hc1 H.size) (cwV 4 hts g_y_X0_range_X1_makeRow__a16_V160 rfl rfl rfl hd_y_X1_makeRow__a16 ⟨Nat.le_of_ble_eq_true rfl, Nat.le_of_ble_eq_true rfl⟩) ⟨nb_blind, va_recv hK hP (ci := 1) (q0 := 0) rfl rfl, (kb_pre hK hG hP hD)⟩ rfl rfl hl.1 rfl (lv_room (Nat.le_of_ble_eq_true rfl)) dX0_range_77 ⟨Nat.le_refl _, Nat.le_refl _⟩) hA hP hD hS (fun H locs hP hD hS => ?_)
        obtain rfl := Option.some.inj h
        exact W.iret (v := r1.1) hx hb hr (fun t ht hW => ⟨⟨r1.1, (), rfl, rfl, by rw [ht]; exact hP, va_K.moved hW.alike hK, hD⟩, hS.F ht⟩) hS.2.2 dX0_range_80
      · intro L σ r h H locs ls hP hD hS hl
        rw [y_X0_range] at h
        refine lv_iinc (v := ((L.1 3)) + 1) (lv' := [(3, .int (((L.1 3)) + 1)), (0, .ref (a 14)), (1, .int (L.1 1)), (2, .int (L.1 2))]) hx hb dX0_range_59 hl (k := 3) rfl rfl (by decide) rfl (fun ls hl => ?_)
        refine lv_goto (tgt := 4) hx hb dX0_range_62 (by decide) ?_
        exact ih.2.1 (lI L 3 ((((L.1 3)) + 1))) σ r h H locs ls hP hD hS (lv_sub hl [1, 2, 3, 0] rfl)
  exact (blk k0).1 L0 σ0 r0 h0 s.heap [] ls hP hD hS hl
/-! X0_highest -/
def y_X0_highest : Nat → Nat → LV → CS → Option (Int32 × CS)
  | 0, _, _, _ => none
  | k + 1, 0, L, σ => y_X0_highest k 1 (lI (lI L 1 0) 2 0) σ
  | k + 1, 1, L, σ => if 8 ≤ ((L.1 2)) then (y_X0_highest k 2 L σ) else (if ((((((L.1 0)) >>> (((L.1 2)) &&& 31))) &&& 1)) = 1 then (y_X0_highest k 4 (lI L 100 ((L.1 2))) σ) else (y_X0_highest k 3 L σ))
  | k + 1, 2, L, σ => some ((L.1 1), σ)
  | k + 1, 3, L, σ => y_X0_highest k 4 (lI L 100 ((L.1 1))) σ
  | k + 1, 4, L, σ => y_X0_highest k 1 (lI (lI L 1 ((L.1 100))) 2 ((((L.1 2)) + 1))) σ
  | _ + 1, _ + 5, _, _ => none
def o_y_X0_highest : List Cond := []
theorem o_y_X0_highest_good : o_y_X0_highest.all goodWord = true := by decide +kernel
def p_y_X0_highest : List Cond := o_y_X0_highest ++ []
theorem p_y_X0_highest_good : p_y_X0_highest.all goodWord = true := nb_all2 o_y_X0_highest_good rfl
def w_y_X0_highest : List Cond := .code yX0_highest cX0_highest 3 (some .int) :: (p_y_X0_highest ++ fC)
theorem w_y_X0_highest_good : w_y_X0_highest.all goodWord = true := nb_allc (by decide +kernel) (nb_all2 p_y_X0_highest_good fC_good)
theorem hd_y_X0_highest : yX0_highest.cls ≠ "java/lang/invoke/MethodHandle" ∧ yX0_highest.cls ≠ "java/lang/invoke/VarHandle" ∧ (parseMethodDescriptor yX0_highest.desc).map (fun d => d.parameters.length) = some 1 := by decide +kernel
set_option maxHeartbeats 40000000 in
set_option maxRecDepth 100000 in
theorem c_y_X0_highest (l : Launch) (dC : Nat → ClassId) (dI : Nat → Nat → Nat) (cy : Nat → ClassId) (a z : Nat → Nat) (k0 : Nat) (L0 : LV) (σ0 : CS) (r0 : Int32 × CS) (h0 : y_X0_highest k0 0 L0 σ0 = some r0) (sz : Nat) : Met l yX0_highest w_y_X0_highest ({ frames := 0, cells := 0, slots := 0, locals := 0 }) (va_Pc [.int (L0.1 0)] (nIn (dC, dI) cy sz (vC cy a z σ0))) (va_Qi (fun (x : Int32) (_ : Unit) => x = r0.1) (fun _ t => nOut (dC, dI) cy (va_A (vC cy a z σ0) sz) (vC cy a z r0.2) t) (va_A (vC cy a z σ0) sz)) 0 0 (va_A (vC cy a z σ0) sz) := by
  refine Met.ofW (cc := cX0_highest) (maxL := 3) (ret := (some .int)) (by decide) rfl ?_
  intro p e s m args below meth c s₁ B hml hv
  obtain ⟨rfl, hsz, hP, hK, hD0, hG⟩ := hv
  have hx := B.exec
  have hb := B.bytes
  have hr := B.returns
  have hts := atoms_spec (ws := w_y_X0_highest) B.pre
  have hown : s.vm.findClass RX0 = some m.cls := findClass_of_methodNamed B.named
  have hlocks := B.notSynchronized
  subst hsz
  have hD := hD0.self (sz := s.heap.size)
  generalize hAe : va_A (vC cy a z σ0) s.heap.size = A at hD ⊢
  have hA : ∀ q : Nat, s.heap.size ≤ q → A q := fun q h => by rw [← hAe]; exact Or.inr h
  have hS : va_S A s.heap s.heap [] := va_S.rf
  have hl := lv_entry ([.int (L0.1 0)]) (n := 3) (Nat.le_of_ble_eq_true rfl)
  rw [lg_entry_eq]
  generalize (lg_sl ([.int (L0.1 0)]) ++ List.replicate (3 - (lg_sl ([.int (L0.1 0)])).length) Slot.unset).toArray = ls at hl ⊢
  have hl : lv_has ls 3 [(0, .int (L0.1 0))] := hl
  have blk : ∀ k : Nat, (bC p l e (headSpec w_y_X0_highest ({ frames := 0, cells := 0, slots := 0, locals := 0 })).room s m #[.int (L0.1 0)] below meth c dC dI cy a z A (kI dC dI cy a z A below #[.int (L0.1 0)] s) 3 (y_X0_highest k 0) (fun L => [(0, .int (L.1 0))]) 0 (fun L => [])) ∧ (bC p l e (headSpec w_y_X0_highest ({ frames := 0, cells := 0, slots := 0, locals := 0 })).room s m #[.int (L0.1 0)] below meth c dC dI cy a z A (kI dC dI cy a z A below #[.int (L0.1 0)] s) 3 (y_X0_highest k 1) (fun L => [(0, .int (L.1 0)), (1, .int (L.1 1)), (2, .int (L.1 2))]) 4 (fun L => [])) ∧ (bC p l e (headSpec w_y_X0_highest ({ frames := 0, cells := 0, slots := 0, locals := 0 })).room s m #[.int (L0.1 0)] below meth c dC dI cy a z A (kI dC dI cy a z A below #[.int (L0.1 0)] s) 3 (y_X0_highest k 2) (fun L => [(1, .int (L.1 1))]) 31 (fun L => [])) ∧ (bC p l e (headSpec w_y_X0_highest ({ frames := 0, cells := 0, slots := 0, locals := 0 })).room s m #[.int (L0.1 0)] below meth c dC dI cy a z A (kI dC dI cy a z A below #[.int (L0.1 0)] s) 3 (y_X0_highest k 3) (fun L => [(0, .int (L.1 0)), (1, .int (L.1 1)), (2, .int (L.1 2))]) 23 (fun L => [])) ∧ (bC p l e (headSpec w_y_X0_highest ({ frames := 0, cells := 0, slots := 0, locals := 0 })).room s m #[.int (L0.1 0)] below meth c dC dI cy a z A (kI dC dI cy a z A below #[.int (L0.1 0)] s) 3 (y_X0_highest k 4) (fun L => [(0, .int (L.1 0)), (2, .int (L.1 2))]) 24 (fun L => [.int (L.1 100)])) := by
    intro k
    induction k with
    | zero => exact ⟨fun L σ r h => (by cases h), fun L σ r h => (by cases h), fun L σ r h => (by cases h), fun L σ r h => (by cases h), fun L σ r h => (by cases h)⟩
    | succ k ih =>
      refine ⟨?_, ?_, ?_, ?_, ?_⟩
      · intro L σ r h H locs ls hP hD hS hl
        rw [y_X0_highest] at h
        refine lv_iconst (v := 0) hx hb dX0_highest_0 (by decide) ?_
        refine lv_istore_n (lv' := [(1, .int 0), (0, .int (L.1 0))]) hx hb dX0_highest_1 rfl hl (by decide) rfl (fun ls hl => ?_)
        refine lv_iconst (v := 0) hx hb dX0_highest_2 (by decide) ?_
        refine lv_istore_n (lv' := [(2, .int 0), (1, .int 0), (0, .int (L.1 0))]) hx hb dX0_highest_3 rfl hl (by decide) rfl (fun ls hl => ?_)
        exact ih.2.1 (lI (lI L 1 0) 2 0) σ r h H locs ls hP hD hS (lv_sub hl [2, 1, 0] rfl)
      · intro L σ r h H locs ls hP hD hS hl
        rw [y_X0_highest] at h
        refine lv_iload_n hx hb dX0_highest_4 rfl (lv_at hl 2 rfl) ?_
        refine lv_bipush (v := 8) hx hb dX0_highest_5 (by decide) ?_
        refine lv_icmp_ge (tgt := 31) hx hb dX0_highest_7 (by decide) (fun c1 => ?_) (fun c1 => ?_)
        · rw [if_pos c1] at h
          exact ih.2.2.1 L σ r h H locs ls hP hD hS (lv_sub hl [1] rfl)
        · rw [if_neg c1] at h
          refine lv_iload_n hx hb dX0_highest_10 rfl (lv_at hl 0 rfl) ?_
          refine lv_iload_n hx hb dX0_highest_11 rfl (lv_at hl 2 rfl) ?_
          refine lv_ishr hx hb dX0_highest_12 ?_
          refine lv_iconst (v := 1) hx hb dX0_highest_13 (by decide) ?_
          refine lv_iand hx hb dX0_highest_14 ?_
          refine lv_iconst (v := 1) hx hb dX0_highest_15 (by decide) ?_
          refine lv_icmp_ne (tgt := 23) hx hb dX0_highest_16 (by decide) (fun c2 => ?_) (fun c2 => ?_)
          · rw [if_neg c2] at h
            exact ih.2.2.2.1 L σ r h H locs ls hP hD hS (lv_sub hl [0, 1, 2] rfl)
          · rw [if_pos c2] at h
            refine lv_iload_n hx hb dX0_highest_19 rfl (lv_at hl 2 rfl) ?_
            refine lv_goto (tgt := 24) hx hb dX0_highest_20 (by decide) ?_
            exact ih.2.2.2.2 (lI L 100 ((L.1 2))) σ r h H locs ls hP hD hS (lv_sub hl [0, 2] rfl)
      · intro L σ r h H locs ls hP hD hS hl
        rw [y_X0_highest] at h
        refine lv_iload_n hx hb dX0_highest_31 rfl (lv_at hl 0 rfl) ?_
        obtain rfl := Option.some.inj h
        exact W.iret (v := (L.1 1)) hx hb hr (fun t ht hW => ⟨⟨(L.1 1), (), rfl, rfl, by rw [ht]; exact hP, va_K.moved hW.alike hK, hD⟩, hS.F ht⟩) hS.2.2 dX0_highest_32
      · intro L σ r h H locs ls hP hD hS hl
        rw [y_X0_highest] at h
        refine lv_iload_n hx hb dX0_highest_23 rfl (lv_at hl 1 rfl) ?_
        exact ih.2.2.2.2 (lI L 100 ((L.1 1))) σ r h H locs ls hP hD hS (lv_sub hl [0, 2] rfl)
      · intro L σ r h H locs ls hP hD hS hl
        rw [y_X0_highest] at h
        refine lv_istore_n (lv' := [(1, .int (L.1 100)), (0, .int (L.1 0)), (2, .int (L.1 2))]) hx hb dX0_highest_24 rfl hl (by decide) rfl (fun ls hl => ?_)
        refine lv_iinc (v := ((L.1 2)) + 1) (lv' := [(2, .int (((L.1 2)) + 1)), (1, .int (L.1 100)), (0, .int (L.1 0))]) hx hb dX0_highest_25 hl (k := 2) rfl rfl (by decide) rfl (fun ls hl => ?_)
        refine lv_goto (tgt := 4) hx hb dX0_highest_28 (by decide) ?_
        exact ih.2.1 (lI (lI L 1 ((L.1 100))) 2 ((((L.1 2)) + 1))) σ r h H locs ls hP hD hS (lv_sub hl [2, 1, 0] rfl)
  exact (blk k0).1 L0 σ0 r0 h0 s.heap [] ls hP hD hS hl
/-! X1_makeRow__a17 -/
def y_X1_makeRow__a17 : Nat → Nat → LV → CS → Option (Int32 × CS)
  | 0, _, _, _ => none
  | k + 1, 0, L, σ => if 0 < ((L.1 4)) then (y_X1_makeRow__a17 k 1 L σ) else (if ((L.1 1)) = 6 then (y_X1_makeRow__a17 k 3 (lI L 100 2) σ) else (y_X1_makeRow__a17 k 2 L σ))
  | k + 1, 1, L, σ => if ((L.1 1)) = 6 then (y_X1_makeRow__a17 k 5 (lI (lI (lI L 5 1) 6 0) 100 1) σ) else (y_X1_makeRow__a17 k 4 (lI (lI L 5 1) 6 0) σ)
  | k + 1, 2, L, σ => y_X1_makeRow__a17 k 3 (lI L 100 1) σ
  | k + 1, 3, L, σ => some ((L.1 100), σ)
  | k + 1, 4, L, σ => y_X1_makeRow__a17 k 5 (lI L 100 0) σ
  | k + 1, 5, L, σ => y_X1_makeRow__a17 k 6 (lI (lI L 7 ((L.1 100))) 8 ((L.1 3))) σ
  | k + 1, 6, L, σ => if ((((L.1 3)) + ((L.1 4)))) ≤ ((L.1 8)) then (y_X1_makeRow__a17 k 7 L σ) else (if 1000 < ((L.1 5)) then (y_X1_makeRow__a17 k 7 L σ) else (if ¬ (((L.1 8)) < 0 ∨ 8 ≤ ((L.1 8)).toNatClampNeg) then (if ((σ.2.2.1 17 ((L.1 8)).toNatClampNeg)) < 0 then (y_X1_makeRow__a17 k 8 (lI L 9 ((σ.2.2.1 17 ((L.1 8)).toNatClampNeg))) σ) else (if ¬ (((σ.2.2.1 17 ((L.1 8)).toNatClampNeg)) < 0 ∨ (sN σ 3) ≤ ((σ.2.2.1 17 ((L.1 8)).toNatClampNeg)).toNatClampNeg) then (if ((L.1 6)) ≤ (((((σ.2.2.1 3 ((σ.2.2.1 17 ((L.1 8)).toNatClampNeg)).toNatClampNeg)).toUInt32 >>> ((26 : Int32).toUInt32 &&& Int32.toUInt32 31)).toInt32)) then (y_X1_makeRow__a17 k 9 (lI (lI L 5 ((((L.1 5)) + (((((((σ.2.2.1 3 ((σ.2.2.1 17 ((L.1 8)).toNatClampNeg)).toNatClampNeg)).toUInt32 >>> ((16 : Int32).toUInt32 &&& Int32.toUInt32 31)).toInt32)) &&& 1023))))) 10 ((σ.2.2.1 3 ((σ.2.2.1 17 ((L.1 8)).toNatClampNeg)).toNatClampNeg))) σ) else (y_X1_makeRow__a17 k 10 (lI (lI (lI L 5 ((((L.1 5)) + (((((((σ.2.2.1 3 ((σ.2.2.1 17 ((L.1 8)).toNatClampNeg)).toNatClampNeg)).toUInt32 >>> ((16 : Int32).toUInt32 &&& Int32.toUInt32 31)).toInt32)) &&& 1023))))) 10 ((σ.2.2.1 3 ((σ.2.2.1 17 ((L.1 8)).toNatClampNeg)).toNatClampNeg))) 100 ((L.1 6))) σ)) else none)) else none))
  | k + 1, 7, L, σ => if 1000 < ((L.1 5)) then (y_X1_makeRow__a17 k 11 L σ) else (if ((L.1 6)) < 30 then (y_X1_makeRow__a17 k 12 L σ) else (y_X1_makeRow__a17 k 11 L σ))
  | k + 1, 8, L, σ => if ((((L.1 9)) &&& ((-268435456)))) = ((-1073741824)) then (y_X1_makeRow__a17 k 13 (lI L 100 ((L.1 5))) σ) else (if ((((L.1 9)) &&& ((-268435456)))) = ((-1610612736)) then (if ((L.1 9)) = ((-1610612736)) then (y_X1_makeRow__a17 k 14 (lI L 100 ((L.1 5))) σ) else (y_X1_makeRow__a17 k 13 (lI L 100 ((L.1 5))) σ)) else (y_X1_makeRow__a17 k 14 (lI L 100 ((L.1 5))) σ))
  | k + 1, 9, L, σ => y_X1_makeRow__a17 k 10 (lI L 100 (((((L.1 10)).toUInt32 >>> ((26 : Int32).toUInt32 &&& Int32.toUInt32 31)).toInt32))) σ
  | k + 1, 10, L, σ => if ((L.1 7)) = 0 then (y_X1_makeRow__a17 k 15 (lI L 6 ((L.1 100))) σ) else (if ((((L.1 10)) &&& 65535)) = 37 then (y_X1_makeRow__a17 k 16 (lI (lI L 6 ((L.1 100))) 100 1) σ) else (y_X1_makeRow__a17 k 15 (lI L 6 ((L.1 100))) σ))
  | k + 1, 11, L, σ => some ((-268435451), σ)
  | k + 1, 12, L, σ => if ((1 + ((L.1 4)))) ≤ ((((Int32.ofNat (sN σ 3))) - ((σ.1 1)))) then (y_X1_makeRow__a17 k 17 (lI L 8 ((σ.1 1))) σ) else (some ((-268435450), σ))
  | k + 1, 13, L, σ => y_X1_makeRow__a17 k 18 (lI (lI L 100 2) 101 ((L.1 100))) σ
  | k + 1, 14, L, σ => y_X1_makeRow__a17 k 18 (lI (lI L 100 1) 101 ((L.1 100))) σ
  | k + 1, 15, L, σ => y_X1_makeRow__a17 k 16 (lI L 100 0) σ
  | k + 1, 16, L, σ => y_X1_makeRow__a17 k 19 (lI L 7 ((L.1 100))) σ
  | k + 1, 17, L, σ => if ((L.1 7)) = 0 then (y_X1_makeRow__a17 k 20 (lI (lI L 100 ((L.1 1))) 101 ((L.1 8))) (uI σ 1 ((((((L.1 8)) + 1)) + ((L.1 4)))))) else (y_X1_makeRow__a17 k 21 (lI (lI (lI L 100 8) 101 ((L.1 1))) 102 ((L.1 8))) (uI σ 1 ((((((L.1 8)) + 1)) + ((L.1 4))))))
  | k + 1, 18, L, σ => y_X1_makeRow__a17 k 19 (lI (lI L 5 ((((L.1 101)) + ((L.1 100))))) 7 0) σ
  | k + 1, 19, L, σ => y_X1_makeRow__a17 k 6 (lI L 8 ((((L.1 8)) + 1))) σ
  | k + 1, 20, L, σ => y_X1_makeRow__a17 k 21 (lI (lI (lI L 100 0) 101 ((L.1 100))) 102 ((L.1 101))) σ
  | k + 1, 21, L, σ => if ¬ (((L.1 102)) < 0 ∨ (sN σ 3) ≤ ((L.1 102)).toNatClampNeg) then (if ¬ ((L.1 3)) < 0 ∧ ¬ ((((L.1 8)) + 1)) < 0 ∧ ¬ ((L.1 4)) < 0 ∧ ((L.1 3)).toNatClampNeg + ((L.1 4)).toNatClampNeg ≤ 8 ∧ ((((L.1 8)) + 1)).toNatClampNeg + ((L.1 4)).toNatClampNeg ≤ (sN (uA σ 3 ((L.1 102)).toNatClampNeg ((((((((((L.1 101)) ||| ((L.1 100)))) ||| ((((L.1 4)) <<< ((4 : Int32) &&& 31))))) ||| ((((L.1 5)) <<< ((16 : Int32) &&& 31))))) ||| ((((((L.1 6)) + 1)) <<< ((26 : Int32) &&& 31)))))) 3) then (some ((L.1 8), (uF (uA σ 3 ((L.1 102)).toNatClampNeg ((((((((((L.1 101)) ||| ((L.1 100)))) ||| ((((L.1 4)) <<< ((4 : Int32) &&& 31))))) ||| ((((L.1 5)) <<< ((16 : Int32) &&& 31))))) ||| ((((((L.1 6)) + 1)) <<< ((26 : Int32) &&& 31)))))) 3 (va_cpy ((uA σ 3 ((L.1 102)).toNatClampNeg ((((((((((L.1 101)) ||| ((L.1 100)))) ||| ((((L.1 4)) <<< ((4 : Int32) &&& 31))))) ||| ((((L.1 5)) <<< ((16 : Int32) &&& 31))))) ||| ((((((L.1 6)) + 1)) <<< ((26 : Int32) &&& 31)))))).2.2.1 17) ((uA σ 3 ((L.1 102)).toNatClampNeg ((((((((((L.1 101)) ||| ((L.1 100)))) ||| ((((L.1 4)) <<< ((4 : Int32) &&& 31))))) ||| ((((L.1 5)) <<< ((16 : Int32) &&& 31))))) ||| ((((((L.1 6)) + 1)) <<< ((26 : Int32) &&& 31)))))).2.2.1 3) ((L.1 3)).toNatClampNeg ((((L.1 8)) + 1)).toNatClampNeg ((L.1 4)).toNatClampNeg)))) else none) else none
  | _ + 1, _ + 22, _, _ => none
def o_y_X1_makeRow__a17 : List Cond := [.fieldLink RX1 11 "SetHouse$Heap" "mem" "[I", .constant RX1 33 (-268435456), .constant RX1 34 (-1073741824), .constant RX1 35 (-1610612736), .constant RX1 64 (65535), .constant RX1 52 (-268435451), .fieldLink RX1 15 "SetHouse$Heap" "top" "I", .constant RX1 53 (-268435450), .methodLink RX1 54 arraycopyName, .native arraycopyName, .static arraycopyName, .initialized "java/lang/System"]
theorem o_y_X1_makeRow__a17_good : o_y_X1_makeRow__a17.all goodWord = true := by decide +kernel
def p_y_X1_makeRow__a17 : List Cond := o_y_X1_makeRow__a17 ++ []
theorem p_y_X1_makeRow__a17_good : p_y_X1_makeRow__a17.all goodWord = true := nb_all2 o_y_X1_makeRow__a17_good rfl
def w_y_X1_makeRow__a17 : List Cond := .code yX1_makeRow cX1_makeRow 11 (some .int) :: (p_y_X1_makeRow__a17 ++ fC)
theorem w_y_X1_makeRow__a17_good : w_y_X1_makeRow__a17.all goodWord = true := nb_allc (by decide +kernel) (nb_all2 p_y_X1_makeRow__a17_good fC_good)
theorem in_y_X1_makeRow__a17_X1 : ∀ w ∈ wsX10, w ∈ w_y_X1_makeRow__a17 := fun _ h => List.mem_cons_of_mem _ (List.mem_append_right _ (List.mem_append_right _ (List.mem_append_left _ h)))
theorem hd_y_X1_makeRow__a17 : yX1_makeRow.cls = RX1 ∧ yX1_makeRow.cls ≠ "java/lang/invoke/MethodHandle" ∧ yX1_makeRow.cls ≠ "java/lang/invoke/VarHandle" ∧ (parseMethodDescriptor yX1_makeRow.desc).map (fun d => d.parameters.length) = some 4 := by decide +kernel
set_option maxHeartbeats 40000000 in
set_option maxRecDepth 100000 in
theorem c_y_X1_makeRow__a17 (l : Launch) (dC : Nat → ClassId) (dI : Nat → Nat → Nat) (cy : Nat → ClassId) (a z : Nat → Nat) (k0 : Nat) (L0 : LV) (σ0 : CS) (r0 : Int32 × CS) (h0 : y_X1_makeRow__a17 k0 0 L0 σ0 = some r0) (sz : Nat) : Met l yX1_makeRow w_y_X1_makeRow__a17 ({ frames := 1, cells := 0, slots := 0, locals := 60 }) (va_Pc [.ref (a 0), .int (L0.1 1), .ref (a 17), .int (L0.1 3), .int (L0.1 4)] (nIn (dC, dI) cy sz (vC cy a z σ0))) (va_Qi (fun (x : Int32) (_ : Unit) => x = r0.1) (fun _ t => nOut (dC, dI) cy (va_A (vC cy a z σ0) sz) (vC cy a z r0.2) t) (va_A (vC cy a z σ0) sz)) 0 0 (va_A (vC cy a z σ0) sz) := by
  refine Met.ofW (cc := cX1_makeRow) (maxL := 11) (ret := (some .int)) (by decide) rfl ?_
  intro p e s m args below meth c s₁ B hml hv
  obtain ⟨rfl, hsz, hP, hK, hD0, hG⟩ := hv
  have hx := B.exec
  have hb := B.bytes
  have hr := B.returns
  have hts := atoms_spec (ws := w_y_X1_makeRow__a17) B.pre
  have hown : s.vm.findClass RX1 = some m.cls := findClass_of_methodNamed B.named
  have hlocks := B.notSynchronized
  subst hsz
  have hD := hD0.self (sz := s.heap.size)
  generalize hAe : va_A (vC cy a z σ0) s.heap.size = A at hD ⊢
  have hA : ∀ q : Nat, s.heap.size ≤ q → A q := fun q h => by rw [← hAe]; exact Or.inr h
  have hS : va_S A s.heap s.heap [] := va_S.rf
  have hl := lv_entry ([.ref (a 0), .int (L0.1 1), .ref (a 17), .int (L0.1 3), .int (L0.1 4)]) (n := 11) (Nat.le_of_ble_eq_true rfl)
  rw [lg_entry_eq]
  generalize (lg_sl ([.ref (a 0), .int (L0.1 1), .ref (a 17), .int (L0.1 3), .int (L0.1 4)]) ++ List.replicate (11 - (lg_sl ([.ref (a 0), .int (L0.1 1), .ref (a 17), .int (L0.1 3), .int (L0.1 4)])).length) Slot.unset).toArray = ls at hl ⊢
  have hl : lv_has ls 11 [(0, .ref (a 0)), (1, .int (L0.1 1)), (2, .ref (a 17)), (3, .int (L0.1 3)), (4, .int (L0.1 4))] := hl
  have blk : ∀ k : Nat, (bC p l e (headSpec w_y_X1_makeRow__a17 ({ frames := 1, cells := 0, slots := 0, locals := 60 })).room s m #[.ref (a 0), .int (L0.1 1), .ref (a 17), .int (L0.1 3), .int (L0.1 4)] below meth c dC dI cy a z A (kI dC dI cy a z A below #[.ref (a 0), .int (L0.1 1), .ref (a 17), .int (L0.1 3), .int (L0.1 4)] s) 11 (y_X1_makeRow__a17 k 0) (fun L => [(0, .ref (a 0)), (1, .int (L.1 1)), (2, .ref (a 17)), (3, .int (L.1 3)), (4, .int (L.1 4))]) 0 (fun L => [])) ∧ (bC p l e (headSpec w_y_X1_makeRow__a17 ({ frames := 1, cells := 0, slots := 0, locals := 60 })).room s m #[.ref (a 0), .int (L0.1 1), .ref (a 17), .int (L0.1 3), .int (L0.1 4)] below meth c dC dI cy a z A (kI dC dI cy a z A below #[.ref (a 0), .int (L0.1 1), .ref (a 17), .int (L0.1 3), .int (L0.1 4)] s) 11 (y_X1_makeRow__a17 k 1) (fun L => [(0, .ref (a 0)), (1, .int (L.1 1)), (2, .ref (a 17)), (3, .int (L.1 3)), (4, .int (L.1 4))]) 17 (fun L => [])) ∧ (bC p l e (headSpec w_y_X1_makeRow__a17 ({ frames := 1, cells := 0, slots := 0, locals := 60 })).room s m #[.ref (a 0), .int (L0.1 1), .ref (a 17), .int (L0.1 3), .int (L0.1 4)] below meth c dC dI cy a z A (kI dC dI cy a z A below #[.ref (a 0), .int (L0.1 1), .ref (a 17), .int (L0.1 3), .int (L0.1 4)] s) 11 (y_X1_makeRow__a17 k 2) (fun L => []) 15 (fun L => [])) ∧ (bC p l e (headSpec w_y_X1_makeRow__a17 ({ frames := 1, cells := 0, slots := 0, locals := 60 })).room s m #[.ref (a 0), .int (L0.1 1), .ref (a 17), .int (L0.1 3), .int (L0.1 4)] below meth c dC dI cy a z A (kI dC dI cy a z A below #[.ref (a 0), .int (L0.1 1), .ref (a 17), .int (L0.1 3), .int (L0.1 4)] s) 11 (y_X1_makeRow__a17 k 3) (fun L => []) 16 (fun L => [.int (L.1 100)])) ∧ (bC p l e (headSpec w_y_X1_makeRow__a17 ({ frames := 1, cells := 0, slots := 0, locals := 60 })).room s m #[.ref (a 0), .int (L0.1 1), .ref (a 17), .int (L0.1 3), .int (L0.1 4)] below meth c dC dI cy a z A (kI dC dI cy a z A below #[.ref (a 0), .int (L0.1 1), .ref (a 17), .int (L0.1 3), .int (L0.1 4)] s) 11 (y_X1_makeRow__a17 k 4) (fun L => [(0, .ref (a 0)), (1, .int (L.1 1)), (2, .ref (a 17)), (3, .int (L.1 3)), (4, .int (L.1 4)), (5, .int (L.1 5)), (6, .int (L.1 6))]) 33 (fun L => [])) ∧ (bC p l e (headSpec w_y_X1_makeRow__a17 ({ frames := 1, cells := 0, slots := 0, locals := 60 })).room s m #[.ref (a 0), .int (L0.1 1), .ref (a 17), .int (L0.1 3), .int (L0.1 4)] below meth c dC dI cy a z A (kI dC dI cy a z A below #[.ref (a 0), .int (L0.1 1), .ref (a 17), .int (L0.1 3), .int (L0.1 4)] s) 11 (y_X1_makeRow__a17 k 5) (fun L => [(0, .ref (a 0)), (1, .int (L.1 1)), (2, .ref (a 17)), (3, .int (L.1 3)), (4, .int (L.1 4)), (5, .int (L.1 5)), (6, .int (L.1 6))]) 34 (fun L => [.int (L.1 100)])) ∧ (bC p l e (headSpec w_y_X1_makeRow__a17 ({ frames := 1, cells := 0, slots := 0, locals := 60 })).room s m #[.ref (a 0), .int (L0.1 1), .ref (a 17), .int (L0.1 3), .int (L0.1 4)] below meth c dC dI cy a z A (kI dC dI cy a z A below #[.ref (a 0), .int (L0.1 1), .ref (a 17), .int (L0.1 3), .int (L0.1 4)] s) 11 (y_X1_makeRow__a17 k 6) (fun L => [(0, .ref (a 0)), (1, .int (L.1 1)), (2, .ref (a 17)), (3, .int (L.1 3)), (4, .int (L.1 4)), (5, .int (L.1 5)), (6, .int (L.1 6)), (7, .int (L.1 7)), (8, .int (L.1 8))]) 39 (fun L => [])) ∧ (bC p l e (headSpec w_y_X1_makeRow__a17 ({ frames := 1, cells := 0, slots := 0, locals := 60 })).room s m #[.ref (a 0), .int (L0.1 1), .ref (a 17), .int (L0.1 3), .int (L0.1 4)] below meth c dC dI cy a z A (kI dC dI cy a z A below #[.ref (a 0), .int (L0.1 1), .ref (a 17), .int (L0.1 3), .int (L0.1 4)] s) 11 (y_X1_makeRow__a17 k 7) (fun L => [(0, .ref (a 0)), (1, .int (L.1 1)), (2, .ref (a 17)), (3, .int (L.1 3)), (4, .int (L.1 4)), (5, .int (L.1 5)), (6, .int (L.1 6)), (7, .int (L.1 7))]) 184 (fun L => [])) ∧ (bC p l e (headSpec w_y_X1_makeRow__a17 ({ frames := 1, cells := 0, slots := 0, locals := 60 })).room s m #[.ref (a 0), .int (L0.1 1), .ref (a 17), .int (L0.1 3), .int (L0.1 4)] below meth c dC dI cy a z A (kI dC dI cy a z A below #[.ref (a 0), .int (L0.1 1), .ref (a 17), .int (L0.1 3), .int (L0.1 4)] s) 11 (y_X1_makeRow__a17 k 8) (fun L => [(0, .ref (a 0)), (1, .int (L.1 1)), (2, .ref (a 17)), (3, .int (L.1 3)), (4, .int (L.1 4)), (5, .int (L.1 5)), (6, .int (L.1 6)), (8, .int (L.1 8)), (9, .int (L.1 9))]) 137 (fun L => [])) ∧ (bC p l e (headSpec w_y_X1_makeRow__a17 ({ frames := 1, cells := 0, slots := 0, locals := 60 })).room s m #[.ref (a 0), .int (L0.1 1), .ref (a 17), .int (L0.1 3), .int (L0.1 4)] below meth c dC dI cy a z A (kI dC dI cy a z A below #[.ref (a 0), .int (L0.1 1), .ref (a 17), .int (L0.1 3), .int (L0.1 4)] s) 11 (y_X1_makeRow__a17 k 9) (fun L => [(0, .ref (a 0)), (1, .int (L.1 1)), (2, .ref (a 17)), (3, .int (L.1 3)), (4, .int (L.1 4)), (5, .int (L.1 5)), (7, .int (L.1 7)), (8, .int (L.1 8)), (10, .int (L.1 10))]) 105 (fun L => [])) ∧ (bC p l e (headSpec w_y_X1_makeRow__a17 ({ frames := 1, cells := 0, slots := 0, locals := 60 })).room s m #[.ref (a 0), .int (L0.1 1), .ref (a 17), .int (L0.1 3), .int (L0.1 4)] below meth c dC dI cy a z A (kI dC dI cy a z A below #[.ref (a 0), .int (L0.1 1), .ref (a 17), .int (L0.1 3), .int (L0.1 4)] s) 11 (y_X1_makeRow__a17 k 10) (fun L => [(0, .ref (a 0)), (1, .int (L.1 1)), (2, .ref (a 17)), (3, .int (L.1 3)), (4, .int (L.1 4)), (5, .int (L.1 5)), (7, .int (L.1 7)), (8, .int (L.1 8)), (10, .int (L.1 10))]) 110 (fun L => [.int (L.1 100)])) ∧ (bC p l e (headSpec w_y_X1_makeRow__a17 ({ frames := 1, cells := 0, slots := 0, locals := 60 })).room s m #[.ref (a 0), .int (L0.1 1), .ref (a 17), .int (L0.1 3), .int (L0.1 4)] below meth c dC dI cy a z A (kI dC dI cy a z A below #[.ref (a 0), .int (L0.1 1), .ref (a 17), .int (L0.1 3), .int (L0.1 4)] s) 11 (y_X1_makeRow__a17 k 11) (fun L => []) 199 (fun L => [])) ∧ (bC p l e (headSpec w_y_X1_makeRow__a17 ({ frames := 1, cells := 0, slots := 0, locals := 60 })).room s m #[.ref (a 0), .int (L0.1 1), .ref (a 17), .int (L0.1 3), .int (L0.1 4)] below meth c dC dI cy a z A (kI dC dI cy a z A below #[.ref (a 0), .int (L0.1 1), .ref (a 17), .int (L0.1 3), .int (L0.1 4)] s) 11 (y_X1_makeRow__a17 k 12) (fun L => [(0, .ref (a 0)), (1, .int (L.1 1)), (2, .ref (a 17)), (3, .int (L.1 3)), (4, .int (L.1 4)), (5, .int (L.1 5)), (6, .int (L.1 6)), (7, .int (L.1 7))]) 202 (fun L => [])) ∧ (bC p l e (headSpec w_y_X1_makeRow__a17 ({ frames := 1, cells := 0, slots := 0, locals := 60 })).room s m #[.ref (a 0), .int (L0.1 1), .ref (a 17), .int (L0.1 3), .int (L0.1 4)] below meth c dC dI cy a z A (kI dC dI cy a z A below #[.ref (a 0), .int (L0.1 1), .ref (a 17), .int (L0.1 3), .int (L0.1 4)] s) 11 (y_X1_makeRow__a17 k 13) (fun L => [(0, .ref (a 0)), (1, .int (L.1 1)), (2, .ref (a 17)), (3, .int (L.1 3)), (4, .int (L.1 4)), (6, .int (L.1 6)), (8, .int (L.1 8))]) 167 (fun L => [.int (L.1 100)])) ∧ (bC p l e (headSpec w_y_X1_makeRow__a17 ({ frames := 1, cells := 0, slots := 0, locals := 60 })).room s m #[.ref (a 0), .int (L0.1 1), .ref (a 17), .int (L0.1 3), .int (L0.1 4)] below meth c dC dI cy a z A (kI dC dI cy a z A below #[.ref (a 0), .int (L0.1 1), .ref (a 17), .int (L0.1 3), .int (L0.1 4)] s) 11 (y_X1_makeRow__a17 k 14) (fun L => [(0, .ref (a 0)), (1, .int (L.1 1)), (2, .ref (a 17)), (3, .int (L.1 3)), (4, .int (L.1 4)), (6, .int (L.1 6)), (8, .int (L.1 8))]) 171 (fun L => [.int (L.1 100)])) ∧ (bC p l e (headSpec w_y_X1_makeRow__a17 ({ frames := 1, cells := 0, slots := 0, locals := 60 })).room s m #[.ref (a 0), .int (L0.1 1), .ref (a 17), .int (L0.1 3), .int (L0.1 4)] below meth c dC dI cy a z A (kI dC dI cy a z A below #[.ref (a 0), .int (L0.1 1), .ref (a 17), .int (L0.1 3), .int (L0.1 4)] s) 11 (y_X1_makeRow__a17 k 15) (fun L => [(0, .ref (a 0)), (1, .int (L.1 1)), (2, .ref (a 17)), (3, .int (L.1 3)), (4, .int (L.1 4)), (5, .int (L.1 5)), (6, .int (L.1 6)), (8, .int (L.1 8))]) 131 (fun L => [])) ∧ (bC p l e (headSpec w_y_X1_makeRow__a17 ({ frames := 1, cells := 0, slots := 0, locals := 60 })).room s m #[.ref (a 0), .int (L0.1 1), .ref (a 17), .int (L0.1 3), .int (L0.1 4)] below meth c dC dI cy a z A (kI dC dI cy a z A below #[.ref (a 0), .int (L0.1 1), .ref (a 17), .int (L0.1 3), .int (L0.1 4)] s) 11 (y_X1_makeRow__a17 k 16) (fun L => [(0, .ref (a 0)), (1, .int (L.1 1)), (2, .ref (a 17)), (3, .int (L.1 3)), (4, .int (L.1 4)), (5, .int (L.1 5)), (6, .int (L.1 6)), (8, .int (L.1 8))]) 132 (fun L => [.int (L.1 100)])) ∧ (bC p l e (headSpec w_y_X1_makeRow__a17 ({ frames := 1, cells := 0, slots := 0, locals := 60 })).room s m #[.ref (a 0), .int (L0.1 1), .ref (a 17), .int (L0.1 3), .int (L0.1 4)] below meth c dC dI cy a z A (kI dC dI cy a z A below #[.ref (a 0), .int (L0.1 1), .ref (a 17), .int (L0.1 3), .int (L0.1 4)] s) 11 (y_X1_makeRow__a17 k 17) (fun L => [(0, .ref (a 0)), (1, .int (L.1 1)), (2, .ref (a 17)), (3, .int (L.1 3)), (4, .int (L.1 4)), (5, .int (L.1 5)), (6, .int (L.1 6)), (7, .int (L.1 7)), (8, .int (L.1 8))]) 226 (fun L => [])) ∧ (bC p l e (headSpec w_y_X1_makeRow__a17 ({ frames := 1, cells := 0, slots := 0, locals := 60 })).room s m #[.ref (a 0), .int (L0.1 1), .ref (a 17), .int (L0.1 3), .int (L0.1 4)] below meth c dC dI cy a z A (kI dC dI cy a z A below #[.ref (a 0), .int (L0.1 1), .ref (a 17), .int (L0.1 3), .int (L0.1 4)] s) 11 (y_X1_makeRow__a17 k 18) (fun L => [(0, .ref (a 0)), (1, .int (L.1 1)), (2, .ref (a 17)), (3, .int (L.1 3)), (4, .int (L.1 4)), (6, .int (L.1 6)), (8, .int (L.1 8))]) 172 (fun L => [.int (L.1 100), .int (L.1 101)])) ∧ (bC p l e (headSpec w_y_X1_makeRow__a17 ({ frames := 1, cells := 0, slots := 0, locals := 60 })).room s m #[.ref (a 0), .int (L0.1 1), .ref (a 17), .int (L0.1 3), .int (L0.1 4)] below meth c dC dI cy a z A (kI dC dI cy a z A below #[.ref (a 0), .int (L0.1 1), .ref (a 17), .int (L0.1 3), .int (L0.1 4)] s) 11 (y_X1_makeRow__a17 k 19) (fun L => [(0, .ref (a 0)), (1, .int (L.1 1)), (2, .ref (a 17)), (3, .int (L.1 3)), (4, .int (L.1 4)), (5, .int (L.1 5)), (6, .int (L.1 6)), (7, .int (L.1 7)), (8, .int (L.1 8))]) 178 (fun L => [])) ∧ (bC p l e (headSpec w_y_X1_makeRow__a17 ({ frames := 1, cells := 0, slots := 0, locals := 60 })).room s m #[.ref (a 0), .int (L0.1 1), .ref (a 17), .int (L0.1 3), .int (L0.1 4)] below meth c dC dI cy a z A (kI dC dI cy a z A below #[.ref (a 0), .int (L0.1 1), .ref (a 17), .int (L0.1 3), .int (L0.1 4)] s) 11 (y_X1_makeRow__a17 k 20) (fun L => [(0, .ref (a 0)), (2, .ref (a 17)), (3, .int (L.1 3)), (4, .int (L.1 4)), (5, .int (L.1 5)), (6, .int (L.1 6)), (8, .int (L.1 8))]) 254 (fun L => [.int (L.1 100), .int (L.1 101), .ref (z 3)])) ∧ (bC p l e (headSpec w_y_X1_makeRow__a17 ({ frames := 1, cells := 0, slots := 0, locals := 60 })).room s m #[.ref (a 0), .int (L0.1 1), .ref (a 17), .int (L0.1 3), .int (L0.1 4)] below meth c dC dI cy a z A (kI dC dI cy a z A below #[.ref (a 0), .int (L0.1 1), .ref (a 17), .int (L0.1 3), .int (L0.1 4)] s) 11 (y_X1_makeRow__a17 k 21) (fun L => [(0, .ref (a 0)), (2, .ref (a 17)), (3, .int (L.1 3)), (4, .int (L.1 4)), (5, .int (L.1 5)), (6, .int (L.1 6)), (8, .int (L.1 8))]) 255 (fun L => [.int (L.1 100), .int (L.1 101), .int (L.1 102), .ref (z 3)])) := by
    intro k
    induction k with
    | zero => exact ⟨fun L σ r h => (by cases h), fun L σ r h => (by cases h), fun L σ r h => (by cases h), fun L σ r h => (by cases h), fun L σ r h => (by cases h), fun L σ r h => (by cases h), fun L σ r h => (by cases h), fun L σ r h => (by cases h), fun L σ r h => (by cases h), fun L σ r h => (by cases h), fun L σ r h => (by cases h), fun L σ r h => (by cases h), fun L σ r h => (by cases h), fun L σ r h => (by cases h), fun L σ r h => (by cases h), fun L σ r h => (by cases h), fun L σ r h => (by cases h), fun L σ r h => (by cases h), fun L σ r h => (by cases h), fun L σ r h => (by cases h), fun L σ r h => (by cases h), fun L σ r h => (by cases h)⟩
    | succ k ih =>
      refine ⟨?_, ?_, ?_, ?_, ?_, ?_, ?_, ?_, ?_, ?_, ?_, ?_, ?_, ?_, ?_, ?_, ?_, ?_, ?_, ?_, ?_, ?_⟩
      · intro L σ r h H locs ls hP hD hS hl
        rw [y_X1_makeRow__a17] at h
        refine lv_iload hx hb dX1_makeRow_0 (lv_at hl 4 rfl) ?_
        refine lv_if_gt (tgt := 17) hx hb dX1_makeRow_2 (by decide) (fun c1 => ?_) (fun c1 => ?_)
        · rw [if_pos c1] at h
          exact ih.2.1 L σ r h H locs ls hP hD hS (lv_sub hl [0, 1, 2, 3, 4] rfl)
        · rw [if_neg c1] at h
          refine lv_iload_n hx hb dX1_makeRow_5 rfl (lv_at hl 1 rfl) ?_
          refine lv_bipush (v := 6) hx hb dX1_makeRow_6 (by decide) ?_
          refine lv_icmp_ne (tgt := 15) hx hb dX1_makeRow_8 (by decide) (fun c2 => ?_) (fun c2 => ?_)
          · rw [if_neg c2] at h
            exact ih.2.2.1 L σ r h H locs ls hP hD hS (lv_sub hl [] rfl)
          · rw [if_pos c2] at h
            refine lv_iconst (v := 2) hx hb dX1_makeRow_11 (by decide) ?_
            refine lv_goto (tgt := 16) hx hb dX1_makeRow_12 (by decide) ?_
            exact ih.2.2.2.1 (lI L 100 2) σ r h H locs ls hP hD hS (lv_sub hl [] rfl)
      · intro L σ r h H locs ls hP hD hS hl
        rw [y_X1_makeRow__a17] at h
        refine lv_iconst (v := 1) hx hb dX1_makeRow_17 (by decide) ?_
        refine lv_istore (lv' := [(5, .int 1), (0, .ref (a 0)), (1, .int (L.1 1)), (2, .ref (a 17)), (3, .int (L.1 3)), (4, .int (L.1 4))]) hx hb dX1_makeRow_18 hl (by decide) rfl (fun ls hl => ?_)
        refine lv_iconst (v := 0) hx hb dX1_makeRow_20 (by decide) ?_
        refine lv_istore (lv' := [(6, .int 0), (5, .int 1), (0, .ref (a 0)), (1, .int (L.1 1)), (2, .ref (a 17)), (3, .int (L.1 3)), (4, .int (L.1 4))]) hx hb dX1_makeRow_21 hl (by decide) rfl (fun ls hl => ?_)
        refine lv_iload_n hx hb dX1_makeRow_23 rfl (lv_at hl 3 rfl) ?_
        refine lv_bipush (v := 6) hx hb dX1_makeRow_24 (by decide) ?_
        refine lv_icmp_ne (tgt := 33) hx hb dX1_makeRow_26 (by decide) (fun c1 => ?_) (fun c1 => ?_)
        · rw [if_neg c1] at h
          exact ih.2.2.2.2.1 (lI (lI L 5 1) 6 0) σ r h H locs ls hP hD hS (lv_sub hl [2, 3, 4, 5, 6, 1, 0] rfl)
        · rw [if_pos c1] at h
          refine lv_iconst (v := 1) hx hb dX1_makeRow_29 (by decide) ?_
          refine lv_goto (tgt := 34) hx hb dX1_makeRow_30 (by decide) ?_
          exact ih.2.2.2.2.2.1 (lI (lI (lI L 5 1) 6 0) 100 1) σ r h H locs ls hP hD hS (lv_sub hl [2, 3, 4, 5, 6, 1, 0] rfl)
      · intro L σ r h H locs ls hP hD hS hl
        rw [y_X1_makeRow__a17] at h
        refine lv_iconst (v := 1) hx hb dX1_makeRow_15 (by decide) ?_
        exact ih.2.2.2.1 (lI L 100 1) σ r h H locs ls hP hD hS (lv_sub hl [] rfl)
      · intro L σ r h H locs ls hP hD hS hl
        rw [y_X1_makeRow__a17] at h
        obtain rfl := Option.some.inj h
        exact W.iret (v := (L.1 100)) hx hb hr (fun t ht hW => ⟨⟨(L.1 100), (), rfl, rfl, by rw [ht]; exact hP, va_K.moved hW.alike hK, hD⟩, hS.F ht⟩) hS.2.2 dX1_makeRow_16
      · intro L σ r h H locs ls hP hD hS hl
        rw [y_X1_makeRow__a17] at h
        refine lv_iconst (v := 0) hx hb dX1_makeRow_33 (by decide) ?_
        exact ih.2.2.2.2.2.1 (lI L 100 0) σ r h H locs ls hP hD hS (lv_sub hl [0, 1, 2, 3, 4, 5, 6] rfl)
      · intro L σ r h H locs ls hP hD hS hl
        rw [y_X1_makeRow__a17] at h
        refine lv_istore (lv' := [(7, .int (L.1 100)), (0, .ref (a 0)), (1, .int (L.1 1)), (2, .ref (a 17)), (3, .int (L.1 3)), (4, .int (L.1 4)), (5, .int (L.1 5)), (6, .int (L.1 6))]) hx hb dX1_makeRow_34 hl (by decide) rfl (fun ls hl => ?_)
        refine lv_iload_n hx hb dX1_makeRow_36 rfl (lv_at hl 4 rfl) ?_
        refine lv_istore (lv' := [(8, .int (L.1 3)), (7, .int (L.1 100)), (0, .ref (a 0)), (1, .int (L.1 1)), (2, .ref (a 17)), (3, .int (L.1 3)), (4, .int (L.1 4)), (5, .int (L.1 5)), (6, .int (L.1 6))]) hx hb dX1_makeRow_37 hl (by decide) rfl (fun ls hl => ?_)
        exact ih.2.2.2.2.2.2.1 (lI (lI L 7 ((L.1 100))) 8 ((L.1 3))) σ r h H locs ls hP hD hS (lv_sub hl [2, 3, 4, 5, 6, 7, 8, 1, 0] rfl)
      · intro L σ r h H locs ls hP hD hS hl
        rw [y_X1_makeRow__a17] at h
        refine lv_iload hx hb dX1_makeRow_39 (lv_at hl 8 rfl) ?_
        refine lv_iload_n hx hb dX1_makeRow_41 rfl (lv_at hl 3 rfl) ?_
        refine lv_iload hx hb dX1_makeRow_42 (lv_at hl 4 rfl) ?_
        refine lv_iadd hx hb dX1_makeRow_44 ?_
        refine lv_icmp_ge (tgt := 184) hx hb dX1_makeRow_45 (by decide) (fun c1 => ?_) (fun c1 => ?_)
        · rw [if_pos c1] at h
          exact ih.2.2.2.2.2.2.2.1 L σ r h H locs ls hP hD hS (lv_sub hl [0, 1, 2, 3, 4, 5, 6, 7] rfl)
        · rw [if_neg c1] at h
          refine lv_iload hx hb dX1_makeRow_48 (lv_at hl 5 rfl) ?_
          refine lv_sipush (v := 1000) hx hb dX1_makeRow_50 (by decide) ?_
          refine lv_icmp_gt (tgt := 184) hx hb dX1_makeRow_53 (by decide) (fun c2 => ?_) (fun c2 => ?_)
          · rw [if_pos c2] at h
            exact ih.2.2.2.2.2.2.2.1 L σ r h H locs ls hP hD hS (lv_sub hl [0, 1, 2, 3, 4, 5, 6, 7] rfl)
          · rw [if_neg c2] at h
            refine lv_aload_n hx hb dX1_makeRow_56 rfl (lv_at hl 2 rfl) ?_
            refine lv_iload hx hb dX1_makeRow_57 (lv_at hl 8 rfl) ?_
            obtain ⟨q3, h⟩ := kb_ite1 h
            refine hl_17 hx hb hK hP q3 dX1_makeRow_59 ?_
            refine lv_istore (lv' := [(9, .int (σ.2.2.1 17 ((L.1 8)).toNatClampNeg)), (0, .ref (a 0)), (1, .int (L.1 1)), (2, .ref (a 17)), (3, .int (L.1 3)), (4, .int (L.1 4)), (5, .int (L.1 5)), (6, .int (L.1 6)), (7, .int (L.1 7)), (8, .int (L.1 8))]) hx hb dX1_makeRow_60 hl (by decide) rfl (fun ls hl => ?_)
            refine lv_iload hx hb dX1_makeRow_62 (lv_at hl 0 rfl) ?_
            refine lv_if_lt (tgt := 137) hx hb dX1_makeRow_64 (by decide) (fun c4 => ?_) (fun c4 => ?_)
            · rw [if_pos c4] at h
              exact ih.2.2.2.2.2.2.2.2.1 (lI L 9 ((σ.2.2.1 17 ((L.1 8)).toNatClampNeg))) σ r h H locs ls hP hD hS (lv_sub hl [1, 2, 3, 4, 5, 6, 7, 9, 0] rfl)
            · rw [if_neg c4] at h
              refine lv_aload_n hx hb dX1_makeRow_67 rfl (lv_at hl 1 rfl) ?_
              refine hg_0_0 hx hb hts in_y_X1_makeRow__a17_X1 hown hK hP (hts _ (List.mem_cons_of_mem _ (List.mem_append_left _ (List.mem_append_left _ (List.mem_of_getElem? (i := 0) rfl))))) dX1_makeRow_68 ?_
              refine lv_iload hx hb dX1_makeRow_71 (lv_at hl 0 rfl) ?_
              obtain ⟨q5, h⟩ := kb_ite1 h
              refine hl_3 hx hb hK hP q5 dX1_makeRow_73 ?_
              refine lv_istore (lv' := [(10, .int (σ.2.2.1 3 ((σ.2.2.1 17 ((L.1 8)).toNatClampNeg)).toNatClampNeg)), (9, .int (σ.2.2.1 17 ((L.1 8)).toNatClampNeg)), (0, .ref (a 0)), (1, .int (L.1 1)), (2, .ref (a 17)), (3, .int (L.1 3)), (4, .int (L.1 4)), (5, .int (L.1 5)), (6, .int (L.1 6)), (7, .int (L.1 7)), (8, .int (L.1 8))]) hx hb dX1_makeRow_74 hl (by decide) rfl (fun ls hl => ?_)
              refine lv_iload hx hb dX1_makeRow_76 (lv_at hl 7 rfl) ?_
              refine lv_iload hx hb dX1_makeRow_78 (lv_at hl 0 rfl) ?_
              refine lv_bipush (v := 16) hx hb dX1_makeRow_80 (by decide) ?_
              refine lv_iushr (v := (((σ.2.2.1 3 ((σ.2.2.1 17 ((L.1 8)).toNatClampNeg)).toNatClampNeg)).toUInt32 >>> ((16 : Int32).toUInt32 &&& Int32.toUInt32 31)).toInt32) hx hb dX1_makeRow_82 rfl ?_
              refine lv_sipush (v := 1023) hx hb dX1_makeRow_83 (by decide) ?_
              refine lv_iand hx hb dX1_makeRow_86 ?_
              refine lv_iadd hx hb dX1_makeRow_87 ?_
              refine lv_istore (lv' := [(5, .int (((L.1 5)) + (((((((σ.2.2.1 3 ((σ.2.2.1 17 ((L.1 8)).toNatClampNeg)).toNatClampNeg)).toUInt32 >>> ((16 : Int32).toUInt32 &&& Int32.toUInt32 31)).toInt32)) &&& 1023)))), (10, .int (σ.2.2.1 3 ((σ.2.2.1 17 ((L.1 8)).toNatClampNeg)).toNatClampNeg)), (9, .int (σ.2.2.1 17 ((L.1 8)).toNatClampNeg)), (0, .ref (a 0)), (1, .int (L.1 1)), (2, .ref (a 17)), (3, .int (L.1 3)), (4, .int (L.1 4)), (6, .int (L.1 6)), (7, .int (L.1 7)), (8, .int (L.1 8))]) hx hb dX1_makeRow_88 hl (by decide) rfl (fun ls hl => ?_)
              refine lv_iload hx hb dX1_makeRow_90 (lv_at hl 8 rfl) ?_
              refine lv_iload hx hb dX1_makeRow_92 (lv_at hl 1 rfl) ?_
              refine lv_bipush (v := 26) hx hb dX1_makeRow_94 (by decide) ?_
              refine lv_iushr (v := (((σ.2.2.1 3 ((σ.2.2.1 17 ((L.1 8)).toNatClampNeg)).toNatClampNeg)).toUInt32 >>> ((26 : Int32).toUInt32 &&& Int32.toUInt32 31)).toInt32) hx hb dX1_makeRow_96 rfl ?_
              refine lv_icmp_le (tgt := 105) hx hb dX1_makeRow_97 (by decide) (fun c6 => ?_) (fun c6 => ?_)
              · rw [if_pos c6] at h
                exact ih.2.2.2.2.2.2.2.2.2.1 (lI (lI L 5 ((((L.1 5)) + (((((((σ.2.2.1 3 ((σ.2.2.1 17 ((L.1 8)).toNatClampNeg)).toNatClampNeg)).toUInt32 >>> ((16 : Int32).toUInt32 &&& Int32.toUInt32 31)).toInt32)) &&& 1023))))) 10 ((σ.2.2.1 3 ((σ.2.2.1 17 ((L.1 8)).toNatClampNeg)).toNatClampNeg))) σ r h H locs ls hP hD hS (lv_sub hl [3, 4, 5, 6, 7, 0, 9, 10, 1] rfl)
              · rw [if_neg c6] at h
                refine lv_iload hx hb dX1_makeRow_100 (lv_at hl 8 rfl) ?_
                refine lv_goto (tgt := 110) hx hb dX1_makeRow_102 (by decide) ?_
                exact ih.2.2.2.2.2.2.2.2.2.2.1 (lI (lI (lI L 5 ((((L.1 5)) + (((((((σ.2.2.1 3 ((σ.2.2.1 17 ((L.1 8)).toNatClampNeg)).toNatClampNeg)).toUInt32 >>> ((16 : Int32).toUInt32 &&& Int32.toUInt32 31)).toInt32)) &&& 1023))))) 10 ((σ.2.2.1 3 ((σ.2.2.1 17 ((L.1 8)).toNatClampNeg)).toNatClampNeg))) 100 ((L.1 6))) σ r h H locs ls hP hD hS (lv_sub hl [3, 4, 5, 6, 7, 0, 9, 10, 1] rfl)
      · intro L σ r h H locs ls hP hD hS hl
        rw [y_X1_makeRow__a17] at h
        refine lv_iload hx hb dX1_makeRow_184 (lv_at hl 5 rfl) ?_
        refine lv_sipush (v := 1000) hx hb dX1_makeRow_186 (by decide) ?_
        refine lv_icmp_gt (tgt := 199) hx hb dX1_makeRow_189 (by decide) (fun c1 => ?_) (fun c1 => ?_)
        · rw [if_pos c1] at h
          exact ih.2.2.2.2.2.2.2.2.2.2.2.1 L σ r h H locs ls hP hD hS (lv_sub hl [] rfl)
        · rw [if_neg c1] at h
          refine lv_iload hx hb dX1_makeRow_192 (lv_at hl 6 rfl) ?_
          refine lv_bipush (v := 30) hx hb dX1_makeRow_194 (by decide) ?_
          refine lv_icmp_lt (tgt := 202) hx hb dX1_makeRow_196 (by decide) (fun c2 => ?_) (fun c2 => ?_)
          · rw [if_pos c2] at h
            exact ih.2.2.2.2.2.2.2.2.2.2.2.2.1 L σ r h H locs ls hP hD hS (lv_sub hl [0, 1, 2, 3, 4, 5, 6, 7] rfl)
          · rw [if_neg c2] at h
            exact ih.2.2.2.2.2.2.2.2.2.2.2.1 L σ r h H locs ls hP hD hS (lv_sub hl [] rfl)
      · intro L σ r h H locs ls hP hD hS hl
        rw [y_X1_makeRow__a17] at h
        refine lv_iload hx hb dX1_makeRow_137 (lv_at hl 8 rfl) ?_
        refine lv_ldc (v := (-268435456)) hx hb hown (hts _ (List.mem_cons_of_mem _ (List.mem_append_left _ (List.mem_append_left _ (List.mem_of_getElem? (i := 1) rfl))))) dX1_makeRow_139 ?_
        refine lv_iand hx hb dX1_makeRow_141 ?_
        refine lv_istore (lv' := [(10, .int (((L.1 9)) &&& ((-268435456)))), (0, .ref (a 0)), (1, .int (L.1 1)), (2, .ref (a 17)), (3, .int (L.1 3)), (4, .int (L.1 4)), (5, .int (L.1 5)), (6, .int (L.1 6)), (8, .int (L.1 8)), (9, .int (L.1 9))]) hx hb dX1_makeRow_142 hl (by decide) rfl (fun ls hl => ?_)
        refine lv_iload hx hb dX1_makeRow_144 (lv_at hl 6 rfl) ?_
        refine lv_iload hx hb dX1_makeRow_146 (lv_at hl 0 rfl) ?_
        refine lv_ldc (v := (-1073741824)) hx hb hown (hts _ (List.mem_cons_of_mem _ (List.mem_append_left _ (List.mem_append_left _ (List.mem_of_getElem? (i := 2) rfl))))) dX1_makeRow_148 ?_
        refine lv_icmp_eq (tgt := 167) hx hb dX1_makeRow_150 (by decide) (fun c1 => ?_) (fun c1 => ?_)
        · rw [if_pos c1] at h
          exact ih.2.2.2.2.2.2.2.2.2.2.2.2.2.1 (lI L 100 ((L.1 5))) σ r h H locs ls hP hD hS (lv_sub hl [1, 2, 3, 4, 5, 7, 8] rfl)
        · rw [if_neg c1] at h
          refine lv_iload hx hb dX1_makeRow_153 (lv_at hl 0 rfl) ?_
          refine lv_ldc (v := (-1610612736)) hx hb hown (hts _ (List.mem_cons_of_mem _ (List.mem_append_left _ (List.mem_append_left _ (List.mem_of_getElem? (i := 3) rfl))))) dX1_makeRow_155 ?_
          refine lv_icmp_ne (tgt := 171) hx hb dX1_makeRow_157 (by decide) (fun c2 => ?_) (fun c2 => ?_)
          · rw [if_neg c2] at h
            exact ih.2.2.2.2.2.2.2.2.2.2.2.2.2.2.1 (lI L 100 ((L.1 5))) σ r h H locs ls hP hD hS (lv_sub hl [1, 2, 3, 4, 5, 7, 8] rfl)
          · rw [if_pos c2] at h
            refine lv_iload hx hb dX1_makeRow_160 (lv_at hl 9 rfl) ?_
            refine lv_ldc (v := (-1610612736)) hx hb hown (hts _ (List.mem_cons_of_mem _ (List.mem_append_left _ (List.mem_append_left _ (List.mem_of_getElem? (i := 3) rfl))))) dX1_makeRow_162 ?_
            refine lv_icmp_eq (tgt := 171) hx hb dX1_makeRow_164 (by decide) (fun c3 => ?_) (fun c3 => ?_)
            · rw [if_pos c3] at h
              exact ih.2.2.2.2.2.2.2.2.2.2.2.2.2.2.1 (lI L 100 ((L.1 5))) σ r h H locs ls hP hD hS (lv_sub hl [1, 2, 3, 4, 5, 7, 8] rfl)
            · rw [if_neg c3] at h
              exact ih.2.2.2.2.2.2.2.2.2.2.2.2.2.1 (lI L 100 ((L.1 5))) σ r h H locs ls hP hD hS (lv_sub hl [1, 2, 3, 4, 5, 7, 8] rfl)
      · intro L σ r h H locs ls hP hD hS hl
        rw [y_X1_makeRow__a17] at h
        refine lv_iload hx hb dX1_makeRow_105 (lv_at hl 8 rfl) ?_
        refine lv_bipush (v := 26) hx hb dX1_makeRow_107 (by decide) ?_
        refine lv_iushr (v := (((L.1 10)).toUInt32 >>> ((26 : Int32).toUInt32 &&& Int32.toUInt32 31)).toInt32) hx hb dX1_makeRow_109 rfl ?_
        exact ih.2.2.2.2.2.2.2.2.2.2.1 (lI L 100 (((((L.1 10)).toUInt32 >>> ((26 : Int32).toUInt32 &&& Int32.toUInt32 31)).toInt32))) σ r h H locs ls hP hD hS (lv_sub hl [0, 1, 2, 3, 4, 5, 6, 7, 8] rfl)
      · intro L σ r h H locs ls hP hD hS hl
        rw [y_X1_makeRow__a17] at h
        refine lv_istore (lv' := [(6, .int (L.1 100)), (0, .ref (a 0)), (1, .int (L.1 1)), (2, .ref (a 17)), (3, .int (L.1 3)), (4, .int (L.1 4)), (5, .int (L.1 5)), (7, .int (L.1 7)), (8, .int (L.1 8)), (10, .int (L.1 10))]) hx hb dX1_makeRow_110 hl (by decide) rfl (fun ls hl => ?_)
        refine lv_iload hx hb dX1_makeRow_112 (lv_at hl 7 rfl) ?_
        refine lv_if_eq (tgt := 131) hx hb dX1_makeRow_114 (by decide) (fun c1 => ?_) (fun c1 => ?_)
        · rw [if_pos c1] at h
          exact ih.2.2.2.2.2.2.2.2.2.2.2.2.2.2.2.1 (lI L 6 ((L.1 100))) σ r h H locs ls hP hD hS (lv_sub hl [1, 2, 3, 4, 5, 6, 0, 8] rfl)
        · rw [if_neg c1] at h
          refine lv_iload hx hb dX1_makeRow_117 (lv_at hl 9 rfl) ?_
          refine lv_ldc (v := 65535) hx hb hown (hts _ (List.mem_cons_of_mem _ (List.mem_append_left _ (List.mem_append_left _ (List.mem_of_getElem? (i := 4) rfl))))) dX1_makeRow_119 ?_
          refine lv_iand hx hb dX1_makeRow_121 ?_
          refine lv_bipush (v := 37) hx hb dX1_makeRow_122 (by decide) ?_
          refine lv_icmp_ne (tgt := 131) hx hb dX1_makeRow_124 (by decide) (fun c2 => ?_) (fun c2 => ?_)
          · rw [if_neg c2] at h
            exact ih.2.2.2.2.2.2.2.2.2.2.2.2.2.2.2.1 (lI L 6 ((L.1 100))) σ r h H locs ls hP hD hS (lv_sub hl [1, 2, 3, 4, 5, 6, 0, 8] rfl)
          · rw [if_pos c2] at h
            refine lv_iconst (v := 1) hx hb dX1_makeRow_127 (by decide) ?_
            refine lv_goto (tgt := 132) hx hb dX1_makeRow_128 (by decide) ?_
            exact ih.2.2.2.2.2.2.2.2.2.2.2.2.2.2.2.2.1 (lI (lI L 6 ((L.1 100))) 100 1) σ r h H locs ls hP hD hS (lv_sub hl [1, 2, 3, 4, 5, 6, 0, 8] rfl)
      · intro L σ r h H locs ls hP hD hS hl
        rw [y_X1_makeRow__a17] at h
        refine lv_ldc (v := (-268435451)) hx hb hown (hts _ (List.mem_cons_of_mem _ (List.mem_append_left _ (List.mem_append_left _ (List.mem_of_getElem? (i := 5) rfl))))) dX1_makeRow_199 ?_
        obtain rfl := Option.some.inj h
        exact W.iret (v := (-268435451)) hx hb hr (fun t ht hW => ⟨⟨(-268435451), (), rfl, rfl, by rw [ht]; exact hP, va_K.moved hW.alike hK, hD⟩, hS.F ht⟩) hS.2.2 dX1_makeRow_201
      · intro L σ r h H locs ls hP hD hS hl
        rw [y_X1_makeRow__a17] at h
        refine lv_aload_n hx hb dX1_makeRow_202 rfl (lv_at hl 0 rfl) ?_
        refine hg_0_1 hx hb hts in_y_X1_makeRow__a17_X1 hown hK hP (hts _ (List.mem_cons_of_mem _ (List.mem_append_left _ (List.mem_append_left _ (List.mem_of_getElem? (i := 6) rfl))))) dX1_makeRow_203 ?_
        refine lv_istore (lv' := [(8, .int (σ.1 1)), (0, .ref (a 0)), (1, .int (L.1 1)), (2, .ref (a 17)), (3, .int (L.1 3)), (4, .int (L.1 4)), (5, .int (L.1 5)), (6, .int (L.1 6)), (7, .int (L.1 7))]) hx hb dX1_makeRow_206 hl (by decide) rfl (fun ls hl => ?_)
        refine lv_iconst (v := 1) hx hb dX1_makeRow_208 (by decide) ?_
        refine lv_iload hx hb dX1_makeRow_209 (lv_at hl 5 rfl) ?_
        refine lv_iadd hx hb dX1_makeRow_211 ?_
        refine lv_aload_n hx hb dX1_makeRow_212 rfl (lv_at hl 1 rfl) ?_
        refine hg_0_0 hx hb hts in_y_X1_makeRow__a17_X1 hown hK hP (hts _ (List.mem_cons_of_mem _ (List.mem_append_left _ (List.mem_append_left _ (List.mem_of_getElem? (i := 0) rfl))))) dX1_makeRow_213 ?_
        refine hn_3 hx hb hK hP dX1_makeRow_216 ?_
        refine lv_iload hx hb dX1_makeRow_217 (lv_at hl 0 rfl) ?_
        refine lv_isub hx hb dX1_makeRow_219 ?_
        refine lv_icmp_le (tgt := 226) hx hb dX1_makeRow_220 (by decide) (fun c1 => ?_) (fun c1 => ?_)
        · rw [if_pos c1] at h
          exact ih.2.2.2.2.2.2.2.2.2.2.2.2.2.2.2.2.2.1 (lI L 8 ((σ.1 1))) σ r h H locs ls hP hD hS (lv_sub hl [1, 2, 3, 4, 5, 6, 7, 8, 0] rfl)
        · rw [if_neg c1] at h
          refine lv_ldc (v := (-268435450)) hx hb hown (hts _ (List.mem_cons_of_mem _ (List.mem_append_left _ (List.mem_append_left _ (List.mem_of_getElem? (i := 7) rfl))))) dX1_makeRow_223 ?_
          obtain rfl := Option.some.inj h
          exact W.iret (v := (-268435450)) hx hb hr (fun t ht hW => ⟨⟨(-268435450), (), rfl, rfl, by rw [ht]; exact hP, va_K.moved hW.alike hK, hD⟩, hS.F ht⟩) hS.2.2 dX1_makeRow_225
      · intro L σ r h H locs ls hP hD hS hl
        rw [y_X1_makeRow__a17] at h
        refine lv_iconst (v := 2) hx hb dX1_makeRow_167 (by decide) ?_
        refine lv_goto (tgt := 172) hx hb dX1_makeRow_168 (by decide) ?_
        exact ih.2.2.2.2.2.2.2.2.2.2.2.2.2.2.2.2.2.2.1 (lI (lI L 100 2) 101 ((L.1 100))) σ r h H locs ls hP hD hS (lv_sub hl [0, 1, 2, 3, 4, 5, 6] rfl)
      · intro L σ r h H locs ls hP hD hS hl
        rw [y_X1_makeRow__a17] at h
        refine lv_iconst (v := 1) hx hb dX1_makeRow_171 (by decide) ?_
        exact ih.2.2.2.2.2.2.2.2.2.2.2.2.2.2.2.2.2.2.1 (lI (lI L 100 1) 101 ((L.1 100))) σ r h H locs ls hP hD hS (lv_sub hl [0, 1, 2, 3, 4, 5, 6] rfl)
      · intro L σ r h H locs ls hP hD hS hl
        rw [y_X1_makeRow__a17] at h
        refine lv_iconst (v := 0) hx hb dX1_makeRow_131 (by decide) ?_
        exact ih.2.2.2.2.2.2.2.2.2.2.2.2.2.2.2.2.1 (lI L 100 0) σ r h H locs ls hP hD hS (lv_sub hl [0, 1, 2, 3, 4, 5, 6, 7] rfl)
      · intro L σ r h H locs ls hP hD hS hl
        rw [y_X1_makeRow__a17] at h
        refine lv_istore (lv' := [(7, .int (L.1 100)), (0, .ref (a 0)), (1, .int (L.1 1)), (2, .ref (a 17)), (3, .int (L.1 3)), (4, .int (L.1 4)), (5, .int (L.1 5)), (6, .int (L.1 6)), (8, .int (L.1 8))]) hx hb dX1_makeRow_132 hl (by decide) rfl (fun ls hl => ?_)
        refine lv_goto (tgt := 178) hx hb dX1_makeRow_134 (by decide) ?_
        exact ih.2.2.2.2.2.2.2.2.2.2.2.2.2.2.2.2.2.2.2.1 (lI L 7 ((L.1 100))) σ r h H locs ls hP hD hS (lv_sub hl [1, 2, 3, 4, 5, 6, 7, 0, 8] rfl)
      · intro L σ r h H locs ls hP hD hS hl
        rw [y_X1_makeRow__a17] at h
        refine lv_aload_n hx hb dX1_makeRow_226 rfl (lv_at hl 0 rfl) ?_
        refine lv_iload hx hb dX1_makeRow_227 (lv_at hl 8 rfl) ?_
        refine lv_iconst (v := 1) hx hb dX1_makeRow_229 (by decide) ?_
        refine lv_iadd hx hb dX1_makeRow_230 ?_
        refine lv_iload hx hb dX1_makeRow_231 (lv_at hl 4 rfl) ?_
        refine lv_iadd hx hb dX1_makeRow_233 ?_
        refine hp_0_1 hx hb hts in_y_X1_makeRow__a17_X1 hown hK hP hD hS (hts _ (List.mem_cons_of_mem _ (List.mem_append_left _ (List.mem_append_left _ (List.mem_of_getElem? (i := 6) rfl))))) dX1_makeRow_234 (fun H locs hP hD hS => ?_)
        refine lv_aload_n hx hb dX1_makeRow_237 rfl (lv_at hl 0 rfl) ?_
        refine hg_0_0 hx hb hts in_y_X1_makeRow__a17_X1 hown hK hP (hts _ (List.mem_cons_of_mem _ (List.mem_append_left _ (List.mem_append_left _ (List.mem_of_getElem? (i := 0) rfl))))) dX1_makeRow_238 ?_
        refine lv_iload hx hb dX1_makeRow_241 (lv_at hl 8 rfl) ?_
        refine lv_iload_n hx hb dX1_makeRow_243 rfl (lv_at hl 1 rfl) ?_
        refine lv_iload hx hb dX1_makeRow_244 (lv_at hl 7 rfl) ?_
        refine lv_if_eq (tgt := 254) hx hb dX1_makeRow_246 (by decide) (fun c1 => ?_) (fun c1 => ?_)
        · rw [if_pos c1] at h
          exact ih.2.2.2.2.2.2.2.2.2.2.2.2.2.2.2.2.2.2.2.2.1 (lI (lI L 100 ((L.1 1))) 101 ((L.1 8))) (uI σ 1 ((((((L.1 8)) + 1)) + ((L.1 4))))) r h H locs ls hP hD hS (lv_sub hl [0, 2, 3, 4, 5, 6, 8] rfl)
        · rw [if_neg c1] at h
          refine lv_bipush (v := 8) hx hb dX1_makeRow_249 (by decide) ?_
          refine lv_goto (tgt := 255) hx hb dX1_makeRow_251 (by decide) ?_
          exact ih.2.2.2.2.2.2.2.2.2.2.2.2.2.2.2.2.2.2.2.2.2 (lI (lI (lI L 100 8) 101 ((L.1 1))) 102 ((L.1 8))) (uI σ 1 ((((((L.1 8)) + 1)) + ((L.1 4))))) r h H locs ls hP hD hS (lv_sub hl [0, 2, 3, 4, 5, 6, 8] rfl)
      · intro L σ r h H locs ls hP hD hS hl
        rw [y_X1_makeRow__a17] at h
        refine lv_iadd hx hb dX1_makeRow_172 ?_
        refine lv_istore (lv' := [(5, .int (((L.1 101)) + ((L.1 100)))), (0, .ref (a 0)), (1, .int (L.1 1)), (2, .ref (a 17)), (3, .int (L.1 3)), (4, .int (L.1 4)), (6, .int (L.1 6)), (8, .int (L.1 8))]) hx hb dX1_makeRow_173 hl (by decide) rfl (fun ls hl => ?_)
        refine lv_iconst (v := 0) hx hb dX1_makeRow_175 (by decide) ?_
        refine lv_istore (lv' := [(7, .int 0), (5, .int (((L.1 101)) + ((L.1 100)))), (0, .ref (a 0)), (1, .int (L.1 1)), (2, .ref (a 17)), (3, .int (L.1 3)), (4, .int (L.1 4)), (6, .int (L.1 6)), (8, .int (L.1 8))]) hx hb dX1_makeRow_176 hl (by decide) rfl (fun ls hl => ?_)
        exact ih.2.2.2.2.2.2.2.2.2.2.2.2.2.2.2.2.2.2.2.1 (lI (lI L 5 ((((L.1 101)) + ((L.1 100))))) 7 0) σ r h H locs ls hP hD hS (lv_sub hl [2, 3, 4, 5, 6, 1, 7, 0, 8] rfl)
      · intro L σ r h H locs ls hP hD hS hl
        rw [y_X1_makeRow__a17] at h
        refine lv_iinc (v := ((L.1 8)) + 1) (lv' := [(8, .int (((L.1 8)) + 1)), (0, .ref (a 0)), (1, .int (L.1 1)), (2, .ref (a 17)), (3, .int (L.1 3)), (4, .int (L.1 4)), (5, .int (L.1 5)), (6, .int (L.1 6)), (7, .int (L.1 7))]) hx hb dX1_makeRow_178 hl (k := 8) rfl rfl (by decide) rfl (fun ls hl => ?_)
        refine lv_goto (tgt := 39) hx hb dX1_makeRow_181 (by decide) ?_
        exact ih.2.2.2.2.2.2.1 (lI L 8 ((((L.1 8)) + 1))) σ r h H locs ls hP hD hS (lv_sub hl [1, 2, 3, 4, 5, 6, 7, 8, 0] rfl)
      · intro L σ r h H locs ls hP hD hS hl
        rw [y_X1_makeRow__a17] at h
        refine lv_iconst (v := 0) hx hb dX1_makeRow_254 (by decide) ?_
        exact ih.2.2.2.2.2.2.2.2.2.2.2.2.2.2.2.2.2.2.2.2.2 (lI (lI (lI L 100 0) 101 ((L.1 100))) 102 ((L.1 101))) σ r h H locs ls hP hD hS (lv_sub hl [0, 1, 2, 3, 4, 5, 6] rfl)
      · intro L σ r h H locs ls hP hD hS hl
        rw [y_X1_makeRow__a17] at h
        refine lv_ior hx hb dX1_makeRow_255 ?_
        refine lv_iload hx hb dX1_makeRow_256 (lv_at hl 3 rfl) ?_
        refine lv_iconst (v := 4) hx hb dX1_makeRow_258 (by decide) ?_
        refine lv_ishl hx hb dX1_makeRow_259 ?_
        refine lv_ior hx hb dX1_makeRow_260 ?_
        refine lv_iload hx hb dX1_makeRow_261 (lv_at hl 4 rfl) ?_
        refine lv_bipush (v := 16) hx hb dX1_makeRow_263 (by decide) ?_
        refine lv_ishl hx hb dX1_makeRow_265 ?_
        refine lv_ior hx hb dX1_makeRow_266 ?_
        refine lv_iload hx hb dX1_makeRow_267 (lv_at hl 5 rfl) ?_
        refine lv_iconst (v := 1) hx hb dX1_makeRow_269 (by decide) ?_
        refine lv_iadd hx hb dX1_makeRow_270 ?_
        refine lv_bipush (v := 26) hx hb dX1_makeRow_271 (by decide) ?_
        refine lv_ishl hx hb dX1_makeRow_273 ?_
        refine lv_ior hx hb dX1_makeRow_274 ?_
        obtain ⟨q1, h⟩ := kb_ite1 h
        refine hs_3 hx hb hK hP hD hS q1 dX1_makeRow_275 (fun H locs hP hD hS => ?_)
        refine lv_aload_n hx hb dX1_makeRow_276 rfl (lv_at hl 1 rfl) ?_
        refine lv_iload_n hx hb dX1_makeRow_277 rfl (lv_at hl 2 rfl) ?_
        refine lv_aload_n hx hb dX1_makeRow_278 rfl (lv_at hl 0 rfl) ?_
        refine hg_0_0 hx hb hts in_y_X1_makeRow__a17_X1 hown hK hP (hts _ (List.mem_cons_of_mem _ (List.mem_append_left _ (List.mem_append_left _ (List.mem_of_getElem? (i := 0) rfl))))) dX1_makeRow_279 ?_
        refine lv_iload hx hb dX1_makeRow_282 (lv_at hl 6 rfl) ?_
        refine lv_iconst (v := 1) hx hb dX1_makeRow_284 (by decide) ?_
        refine lv_iadd hx hb dX1_makeRow_285 ?_
        refine lv_iload hx hb dX1_makeRow_286 (lv_at hl 3 rfl) ?_
        obtain ⟨q2, h⟩ := kb_ite1 h
        refine va_copyi (ty := .int) hx hb (hml.trans hl.1.symm) hown (hts _ (List.mem_cons_of_mem _ (List.mem_append_left _ (List.mem_append_left _ (List.mem_of_getElem? (i := 8) rfl))))) (hts _ (List.mem_cons_of_mem _ (List.mem_append_left _ (List.mem_append_left _ (List.mem_of_getElem? (i := 9) rfl))))) (hts _ (List.mem_cons_of_mem _ (List.mem_append_left _ (List.mem_append_left _ (List.mem_of_getElem? (i := 10) rfl))))) (hts _ (List.mem_cons_of_mem _ (List.mem_append_left _ (List.mem_append_left _ (List.mem_of_getElem? (i := 11) rfl))))) hK hP hD hS 17 3 1 1 rfl rfl rfl rfl rfl q2.1 q2.2.1 q2.2.2.1 q2.2.2.2.1 q2.2.2.2.2 (fun _ _ => rfl) (Nat.le_of_ble_eq_true rfl) (Nat.le_of_ble_eq_true rfl) dX1_makeRow_288 (fun H locs hP hD hS => ?_)
        have hP : va_P (dC, dI) nCl (vC cy a z (uF (uA σ 3 ((L.1 102)).toNatClampNeg ((((((((((L.1 101)) ||| ((L.1 100)))) ||| ((((L.1 4)) <<< ((4 : Int32) &&& 31))))) ||| ((((L.1 5)) <<< ((16 : Int32) &&& 31))))) ||| ((((((L.1 6)) + 1)) <<< ((26 : Int32) &&& 31)))))) 3 (va_cpy ((uA σ 3 ((L.1 102)).toNatClampNeg ((((((((((L.1 101)) ||| ((L.1 100)))) ||| ((((L.1 4)) <<< ((4 : Int32) &&& 31))))) ||| ((((L.1 5)) <<< ((16 : Int32) &&& 31))))) ||| ((((((L.1 6)) + 1)) <<< ((26 : Int32) &&& 31)))))).2.2.1 17) ((uA σ 3 ((L.1 102)).toNatClampNeg ((((((((((L.1 101)) ||| ((L.1 100)))) ||| ((((L.1 4)) <<< ((4 : Int32) &&& 31))))) ||| ((((L.1 5)) <<< ((16 : Int32) &&& 31))))) ||| ((((((L.1 6)) + 1)) <<< ((26 : Int32) &&& 31)))))).2.2.1 3) ((L.1 3)).toNatClampNeg ((((L.1 8)) + 1)).toNatClampNeg ((L.1 4)).toNatClampNeg))) H := hP
        have hD : va_D A (vC cy a z (uF (uA σ 3 ((L.1 102)).toNatClampNeg ((((((((((L.1 101)) ||| ((L.1 100)))) ||| ((((L.1 4)) <<< ((4 : Int32) &&& 31))))) ||| ((((L.1 5)) <<< ((16 : Int32) &&& 31))))) ||| ((((((L.1 6)) + 1)) <<< ((26 : Int32) &&& 31)))))) 3 (va_cpy ((uA σ 3 ((L.1 102)).toNatClampNeg ((((((((((L.1 101)) ||| ((L.1 100)))) ||| ((((L.1 4)) <<< ((4 : Int32) &&& 31))))) ||| ((((L.1 5)) <<< ((16 : Int32) &&& 31))))) ||| ((((((L.1 6)) + 1)) <<< ((26 : Int32) &&& 31)))))).2.2.1 17) ((uA σ 3 ((L.1 102)).toNatClampNeg ((((((((((L.1 101)) ||| ((L.1 100)))) ||| ((((L.1 4)) <<< ((4 : Int32) &&& 31))))) ||| ((((L.1 5)) <<< ((16 : Int32) &&& 31))))) ||| ((((((L.1 6)) + 1)) <<< ((26 : Int32) &&& 31)))))).2.2.1 3) ((L.1 3)).toNatClampNeg ((((L.1 8)) + 1)).toNatClampNeg ((L.1 4)).toNatClampNeg))) := hD
        refine lv_iload hx hb dX1_makeRow_291 (lv_at hl 6 rfl) ?_
        obtain rfl := Option.some.inj h
        exact W.iret (v := (L.1 8)) hx hb hr (fun t ht hW => ⟨⟨(L.1 8), (), rfl, rfl, by rw [ht]; exact hP, va_K.moved hW.alike hK, hD⟩, hS.F ht⟩) hS.2.2 dX1_makeRow_293
  exact (blk k0).1 L0 σ0 r0 h0 s.heap [] ls hP hD hS hl

/-! X1_byteAt -/
def y_X1_byteAt : Nat → Nat → LV → CS → Option (Int32 × CS)
  | 0, _, _, _ => none
  | k + 1, 0, L, σ => if 0 ≤ ((L.1 1)) then (y_X1_byteAt k 1 L σ) else (y_X1_byteAt k 2 (lI L 100 ((((L.1 1)) &&& 255))) σ)
  | k + 1, 1, L, σ => if ¬ (((((((L.1 1)) + 1)) + ((((L.1 2)) >>> ((2 : Int32) &&& 31))))) < 0 ∨ (sN σ 3) ≤ ((((((L.1 1)) + 1)) + ((((L.1 2)) >>> ((2 : Int32) &&& 31))))).toNatClampNeg) then (y_X1_byteAt k 2 (lI L 100 (((((((σ.2.2.1 3 ((((((L.1 1)) + 1)) + ((((L.1 2)) >>> ((2 : Int32) &&& 31))))).toNatClampNeg)).toUInt32 >>> (((((((L.1 2)) &&& 3)) <<< ((3 : Int32) &&& 31))).toUInt32 &&& Int32.toUInt32 31)).toInt32)) &&& 255))) σ) else none
  | k + 1, 2, L, σ => some ((L.1 100), σ)
  | _ + 1, _ + 3, _, _ => none
def o_y_X1_byteAt : List Cond := [.fieldLink RX1 11 "SetHouse$Heap" "mem" "[I"]
theorem o_y_X1_byteAt_good : o_y_X1_byteAt.all goodWord = true := by decide +kernel
def p_y_X1_byteAt : List Cond := o_y_X1_byteAt ++ []
theorem p_y_X1_byteAt_good : p_y_X1_byteAt.all goodWord = true := nb_all2 o_y_X1_byteAt_good rfl
def w_y_X1_byteAt : List Cond := .code yX1_byteAt cX1_byteAt 3 (some .int) :: (p_y_X1_byteAt ++ fC)
theorem w_y_X1_byteAt_good : w_y_X1_byteAt.all goodWord = true := nb_allc (by decide +kernel) (nb_all2 p_y_X1_byteAt_good fC_good)
theorem in_y_X1_byteAt_X1 : ∀ w ∈ wsX10, w ∈ w_y_X1_byteAt := fun _ h => List.mem_cons_of_mem _ (List.mem_append_right _ (List.mem_append_right _ (List.mem_append_left _ h)))
theorem hd_y_X1_byteAt : yX1_byteAt.cls = RX1 ∧ yX1_byteAt.cls ≠ "java/lang/invoke/MethodHandle" ∧ yX1_byteAt.cls ≠ "java/lang/invoke/VarHandle" ∧ (parseMethodDescriptor yX1_byteAt.desc).map (fun d => d.parameters.length) = some 2 := by decide +kernel
set_option maxHeartbeats 40000000 in
set_option maxRecDepth 100000 in
theorem c_y_X1_byteAt (l : Launch) (dC : Nat → ClassId) (dI : Nat → Nat → Nat) (cy : Nat → ClassId) (a z : Nat → Nat) (k0 : Nat) (L0 : LV) (σ0 : CS) (r0 : Int32 × CS) (h0 : y_X1_byteAt k0 0 L0 σ0 = some r0) (sz : Nat) : Met l yX1_byteAt w_y_X1_byteAt ({ frames := 0, cells := 0, slots := 0, locals := 0 }) (va_Pc [.ref (a 0), .int (L0.1 1), .int (L0.1 2)] (nIn (dC, dI) cy sz (vC cy a z σ0))) (va_Qi (fun (x : Int32) (_ : Unit) => x = r0.1) (fun _ t => nOut (dC, dI) cy (va_A (vC cy a z σ0) sz) (vC cy a z r0.2) t) (va_A (vC cy a z σ0) sz)) 0 0 (va_A (vC cy a z σ0) sz) := by
  refine Met.ofW (cc := cX1_byteAt) (maxL := 3) (ret := (some .int)) (by decide) rfl ?_
  intro p e s m args below meth c s₁ B hml hv
  obtain ⟨rfl, hsz, hP, hK, hD0, hG⟩ := hv
  have hx := B.exec
  have hb := B.bytes
  have hr := B.returns
  have hts := atoms_spec (ws := w_y_X1_byteAt) B.pre
  have hown : s.vm.findClass RX1 = some m.cls := findClass_of_methodNamed B.named
  have hlocks := B.notSynchronized
  subst hsz
  have hD := hD0.self (sz := s.heap.size)
  generalize hAe : va_A (vC cy a z σ0) s.heap.size = A at hD ⊢
  have hA : ∀ q : Nat, s.heap.size ≤ q → A q := fun q h => by rw [← hAe]; exact Or.inr h
  have hS : va_S A s.heap s.heap [] := va_S.rf
  have hl := lv_entry ([.ref (a 0), .int (L0.1 1), .int (L0.1 2)]) (n := 3) (Nat.le_of_ble_eq_true rfl)
  rw [lg_entry_eq]
  generalize (lg_sl ([.ref (a 0), .int (L0.1 1), .int (L0.1 2)]) ++ List.replicate (3 - (lg_sl ([.ref (a 0), .int (L0.1 1), .int (L0.1 2)])).length) Slot.unset).toArray = ls at hl ⊢
  have hl : lv_has ls 3 [(0, .ref (a 0)), (1, .int (L0.1 1)), (2, .int (L0.1 2))] := hl
  have blk : ∀ k : Nat, (bC p l e (headSpec w_y_X1_byteAt ({ frames := 0, cells := 0, slots := 0, locals := 0 })).room s m #[.ref (a 0), .int (L0.1 1), .int (L0.1 2)] below meth c dC dI cy a z A (kI dC dI cy a z A below #[.ref (a 0), .int (L0.1 1), .int (L0.1 2)] s) 3 (y_X1_byteAt k 0) (fun L => [(0, .ref (a 0)), (1, .int (L.1 1)), (2, .int (L.1 2))]) 0 (fun L => [])) ∧ (bC p l e (headSpec w_y_X1_byteAt ({ frames := 0, cells := 0, slots := 0, locals := 0 })).room s m #[.ref (a 0), .int (L0.1 1), .int (L0.1 2)] below meth c dC dI cy a z A (kI dC dI cy a z A below #[.ref (a 0), .int (L0.1 1), .int (L0.1 2)] s) 3 (y_X1_byteAt k 1) (fun L => [(0, .ref (a 0)), (1, .int (L.1 1)), (2, .int (L.1 2))]) 12 (fun L => [])) ∧ (bC p l e (headSpec w_y_X1_byteAt ({ frames := 0, cells := 0, slots := 0, locals := 0 })).room s m #[.ref (a 0), .int (L0.1 1), .int (L0.1 2)] below meth c dC dI cy a z A (kI dC dI cy a z A below #[.ref (a 0), .int (L0.1 1), .int (L0.1 2)] s) 3 (y_X1_byteAt k 2) (fun L => []) 34 (fun L => [.int (L.1 100)])) := by
    intro k
    induction k with
    | zero => exact ⟨fun L σ r h => (by cases h), fun L σ r h => (by cases h), fun L σ r h => (by cases h)⟩
    | succ k ih =>
      refine ⟨?_, ?_, ?_⟩
      · intro L σ r h H locs ls hP hD hS hl
        rw [y_X1_byteAt] at h
        refine lv_iload_n hx hb dX1_byteAt_0 rfl (lv_at hl 1 rfl) ?_
        refine lv_if_ge (tgt := 12) hx hb dX1_byteAt_1 (by decide) (fun c1 => ?_) (fun c1 => ?_)
        · rw [if_pos c1] at h
          exact ih.2.1 L σ r h H locs ls hP hD hS (lv_sub hl [0, 1, 2] rfl)
        · rw [if_neg c1] at h
          refine lv_iload_n hx hb dX1_byteAt_4 rfl (lv_at hl 1 rfl) ?_
          refine lv_sipush (v := 255) hx hb dX1_byteAt_5 (by decide) ?_
          refine lv_iand hx hb dX1_byteAt_8 ?_
          refine lv_goto (tgt := 34) hx hb dX1_byteAt_9 (by decide) ?_
          exact ih.2.2 (lI L 100 ((((L.1 1)) &&& 255))) σ r h H locs ls hP hD hS (lv_sub hl [] rfl)
      · intro L σ r h H locs ls hP hD hS hl
        rw [y_X1_byteAt] at h
        refine lv_aload_n hx hb dX1_byteAt_12 rfl (lv_at hl 0 rfl) ?_
        refine hg_0_0 hx hb hts in_y_X1_byteAt_X1 hown hK hP (hts _ (List.mem_cons_of_mem _ (List.mem_append_left _ (List.mem_append_left _ (List.mem_of_getElem? (i := 0) rfl))))) dX1_byteAt_13 ?_
        refine lv_iload_n hx hb dX1_byteAt_16 rfl (lv_at hl 1 rfl) ?_
        refine lv_iconst (v := 1) hx hb dX1_byteAt_17 (by decide) ?_
        refine lv_iadd hx hb dX1_byteAt_18 ?_
        refine lv_iload_n hx hb dX1_byteAt_19 rfl (lv_at hl 2 rfl) ?_
        refine lv_iconst (v := 2) hx hb dX1_byteAt_20 (by decide) ?_
        refine lv_ishr hx hb dX1_byteAt_21 ?_
        refine lv_iadd hx hb dX1_byteAt_22 ?_
        obtain ⟨q1, h⟩ := kb_ite1 h
        refine hl_3 hx hb hK hP q1 dX1_byteAt_23 ?_
        refine lv_iload_n hx hb dX1_byteAt_24 rfl (lv_at hl 2 rfl) ?_
        refine lv_iconst (v := 3) hx hb dX1_byteAt_25 (by decide) ?_
        refine lv_iand hx hb dX1_byteAt_26 ?_
        refine lv_iconst (v := 3) hx hb dX1_byteAt_27 (by decide) ?_
        refine lv_ishl hx hb dX1_byteAt_28 ?_
        refine lv_iushr (v := (((σ.2.2.1 3 ((((((L.1 1)) + 1)) + ((((L.1 2)) >>> ((2 : Int32) &&& 31))))).toNatClampNeg)).toUInt32 >>> (((((((L.1 2)) &&& 3)) <<< ((3 : Int32) &&& 31))).toUInt32 &&& Int32.toUInt32 31)).toInt32) hx hb dX1_byteAt_29 rfl ?_
        refine lv_sipush (v := 255) hx hb dX1_byteAt_30 (by decide) ?_
        refine lv_iand hx hb dX1_byteAt_33 ?_
        exact ih.2.2 (lI L 100 (((((((σ.2.2.1 3 ((((((L.1 1)) + 1)) + ((((L.1 2)) >>> ((2 : Int32) &&& 31))))).toNatClampNeg)).toUInt32 >>> (((((((L.1 2)) &&& 3)) <<< ((3 : Int32) &&& 31))).toUInt32 &&& Int32.toUInt32 31)).toInt32)) &&& 255))) σ r h H locs ls hP hD hS (lv_sub hl [] rfl)
      · intro L σ r h H locs ls hP hD hS hl
        rw [y_X1_byteAt] at h
        obtain rfl := Option.some.inj h
        exact W.iret (v := (L.1 100)) hx hb hr (fun t ht hW => ⟨⟨(L.1 100), (), rfl, rfl, by rw [ht]; exact hP, va_K.moved hW.alike hK, hD⟩, hS.F ht⟩) hS.2.2 dX1_byteAt_34
  exact (blk k0).1 L0 σ0 r0 h0 s.heap [] ls hP hD hS hl
/-! X0_standsIn -/
def y_X0_standsIn : Nat → Nat → LV → CS → Option (Int32 × CS)
  | 0, _, _, _ => none
  | k + 1, 0, L, σ => oc (y_X1_length k 0 (lI lZ 1 ((L.1 1))) σ) (fun r1 => oc (y_X1_length k 0 (lI lZ 1 ((L.1 2))) r1.2) (fun r2 => y_X0_standsIn k 1 (lI (lI (lI L 3 r1.1) 4 ((r2.1 - r1.1))) 5 0) r2.2))
  | k + 1, 1, L, σ => if ((L.1 4)) < ((L.1 5)) then (y_X0_standsIn k 2 L σ) else (y_X0_standsIn k 3 (lI (lI L 6 0) 7 0) σ)
  | k + 1, 2, L, σ => some (0, σ)
  | k + 1, 3, L, σ => if ((L.1 3)) ≤ ((L.1 7)) then (y_X0_standsIn k 4 L σ) else (oc (y_X1_byteAt k 0 (lI (lI lZ 1 ((L.1 1))) 2 ((L.1 7))) σ) (fun r2 => oc (y_X1_byteAt k 0 (lI (lI lZ 1 ((L.1 2))) 2 ((((L.1 5)) + ((L.1 7))))) r2.2) (fun r3 => if r2.1 = r3.1 then (y_X0_standsIn k 3 (lI (lI L 6 ((((L.1 6)) + 1))) 7 ((((L.1 7)) + 1))) r3.2) else (y_X0_standsIn k 4 L r3.2))))
  | k + 1, 4, L, σ => if ((L.1 6)) = ((L.1 3)) then (some (1, σ)) else (y_X0_standsIn k 5 L σ)
  | k + 1, 5, L, σ => y_X0_standsIn k 1 (lI L 5 ((((L.1 5)) + 1))) σ
  | _ + 1, _ + 6, _, _ => none
def o_y_X0_standsIn : List Cond := [.fieldLink RX0 22 "SetHouse$Algebra" "heap" "LSetHouse$Heap;", .methodLink RX0 100 yX1_length, .instanceMethod yX1_length, .selects RX1 yX1_length yX1_length, .initialized RX1, .methodLink RX0 171 yX1_byteAt, .instanceMethod yX1_byteAt, .selects RX1 yX1_byteAt yX1_byteAt]
theorem o_y_X0_standsIn_good : o_y_X0_standsIn.all goodWord = true := by decide +kernel
def p_y_X0_standsIn : List Cond := o_y_X0_standsIn ++ ((.code yX1_length cX1_length 2 (some .int) :: p_y_X1_length) ++ ((.code yX1_byteAt cX1_byteAt 3 (some .int) :: p_y_X1_byteAt) ++ []))
theorem p_y_X0_standsIn_good : p_y_X0_standsIn.all goodWord = true := nb_all2 o_y_X0_standsIn_good (nb_all2 (nb_allc (by decide +kernel) p_y_X1_length_good) (nb_all2 (nb_allc (by decide +kernel) p_y_X1_byteAt_good) rfl))
def w_y_X0_standsIn : List Cond := .code yX0_standsIn cX0_standsIn 8 (some .boolean) :: (p_y_X0_standsIn ++ fC)
theorem w_y_X0_standsIn_good : w_y_X0_standsIn.all goodWord = true := nb_allc (by decide +kernel) (nb_all2 p_y_X0_standsIn_good fC_good)
theorem in_y_X0_standsIn_X0 : ∀ w ∈ wsX00, w ∈ w_y_X0_standsIn := fun _ h => List.mem_cons_of_mem _ (List.mem_append_right _ (List.mem_append_left _ h))
theorem hd_y_X0_standsIn : yX0_standsIn.cls = RX0 ∧ yX0_standsIn.cls ≠ "java/lang/invoke/MethodHandle" ∧ yX0_standsIn.cls ≠ "java/lang/invoke/VarHandle" ∧ (parseMethodDescriptor yX0_standsIn.desc).map (fun d => d.parameters.length) = some 2 := by decide +kernel
theorem gg_y_X0_standsIn_X1_byteAt : GoodIn w_y_X0_standsIn w_y_X1_byteAt := goodIn_sub (fun w h => (List.mem_cons.mp h).elim (fun e => (List.mem_cons_of_mem _ (List.mem_append_left _ (List.mem_append_right _ (List.mem_append_right _ (List.mem_append_left _ (List.mem_cons.mpr (Or.inl e)))))))) (fun h => (List.mem_append.mp h).elim (fun h => (List.mem_cons_of_mem _ (List.mem_append_left _ (List.mem_append_right _ (List.mem_append_right _ (List.mem_append_left _ (List.mem_cons_of_mem _ h))))))) (fun h => List.mem_cons_of_mem _ (List.mem_append_right _ h)))) w_y_X1_byteAt_good
theorem g_y_X0_standsIn_X1_byteAt_V171 : GoodIn w_y_X0_standsIn (wsV RX0 171 RX1 yX1_byteAt w_y_X1_byteAt) := goodIn_app (nb_g4 (List.mem_cons_of_mem _ (List.mem_append_left _ (List.mem_append_left _ (List.mem_of_getElem? (i := 5) rfl)))) (List.mem_cons_of_mem _ (List.mem_append_left _ (List.mem_append_left _ (List.mem_of_getElem? (i := 6) rfl)))) (List.mem_cons_of_mem _ (List.mem_append_left _ (List.mem_append_left _ (List.mem_of_getElem? (i := 7) rfl)))) (List.mem_cons_of_mem _ (List.mem_append_left _ (List.mem_append_left _ (List.mem_of_getElem? (i := 4) rfl)))) (by decide +kernel)) gg_y_X0_standsIn_X1_byteAt
theorem gg_y_X0_standsIn_X1_length : GoodIn w_y_X0_standsIn w_y_X1_length := goodIn_sub (fun w h => (List.mem_cons.mp h).elim (fun e => (List.mem_cons_of_mem _ (List.mem_append_left _ (List.mem_append_right _ (List.mem_append_left _ (List.mem_cons.mpr (Or.inl e))))))) (fun h => (List.mem_append.mp h).elim (fun h => (List.mem_cons_of_mem _ (List.mem_append_left _ (List.mem_append_right _ (List.mem_append_left _ (List.mem_cons_of_mem _ h)))))) (fun h => List.mem_cons_of_mem _ (List.mem_append_right _ h)))) w_y_X1_length_good
theorem g_y_X0_standsIn_X1_length_V100 : GoodIn w_y_X0_standsIn (wsV RX0 100 RX1 yX1_length w_y_X1_length) := goodIn_app (nb_g4 (List.mem_cons_of_mem _ (List.mem_append_left _ (List.mem_append_left _ (List.mem_of_getElem? (i := 1) rfl)))) (List.mem_cons_of_mem _ (List.mem_append_left _ (List.mem_append_left _ (List.mem_of_getElem? (i := 2) rfl)))) (List.mem_cons_of_mem _ (List.mem_append_left _ (List.mem_append_left _ (List.mem_of_getElem? (i := 3) rfl)))) (List.mem_cons_of_mem _ (List.mem_append_left _ (List.mem_append_left _ (List.mem_of_getElem? (i := 4) rfl)))) (by decide +kernel)) gg_y_X0_standsIn_X1_length
set_option maxHeartbeats 40000000 in
set_option maxRecDepth 100000 in
theorem c_y_X0_standsIn (l : Launch) (dC : Nat → ClassId) (dI : Nat → Nat → Nat) (cy : Nat → ClassId) (a z : Nat → Nat) (k0 : Nat) (L0 : LV) (σ0 : CS) (r0 : Int32 × CS) (h0 : y_X0_standsIn k0 0 L0 σ0 = some r0) (sz : Nat) : Met l yX0_standsIn w_y_X0_standsIn ({ frames := 1, cells := 0, slots := 0, locals := 22 }) (va_Pc [.ref (a 14), .int (L0.1 1), .int (L0.1 2)] (nIn (dC, dI) cy sz (vC cy a z σ0))) (va_Qi (fun (x : Int32) (_ : Unit) => x = r0.1) (fun _ t => nOut (dC, dI) cy (va_A (vC cy a z σ0) sz) (vC cy a z r0.2) t) (va_A (vC cy a z σ0) sz)) 0 0 (va_A (vC cy a z σ0) sz) := by
  refine Met.ofW (cc := cX0_standsIn) (maxL := 8) (ret := (some .boolean)) (by decide) rfl ?_
  intro p e s m args below meth c s₁ B hml hv
  obtain ⟨rfl, hsz, hP, hK, hD0, hG⟩ := hv
  have hx := B.exec
  have hb := B.bytes
  have hr := B.returns
  have hts := atoms_spec (ws := w_y_X0_standsIn) B.pre
  have hown : s.vm.findClass RX0 = some m.cls := findClass_of_methodNamed B.named
  have hlocks := B.notSynchronized
  subst hsz
  have hD := hD0.self (sz := s.heap.size)
  generalize hAe : va_A (vC cy a z σ0) s.heap.size = A at hD ⊢
  have hA : ∀ q : Nat, s.heap.size ≤ q → A q := fun q h => by rw [← hAe]; exact Or.inr h
  have hS : va_S A s.heap s.heap [] := va_S.rf
  have hl := lv_entry ([.ref (a 14), .int (L0.1 1), .int (L0.1 2)]) (n := 8) (Nat.le_of_ble_eq_true rfl)
  rw [lg_entry_eq]
  generalize (lg_sl ([.ref (a 14), .int (L0.1 1), .int (L0.1 2)]) ++ List.replicate (8 - (lg_sl ([.ref (a 14), .int (L0.1 1), .int (L0.1 2)])).length) Slot.unset).toArray = ls at hl ⊢
  have hl : lv_has ls 8 [(0, .ref (a 14)), (1, .int (L0.1 1)), (2, .int (L0.1 2))] := hl
  have blk : ∀ k : Nat, (bC p l e (headSpec w_y_X0_standsIn ({ frames := 1, cells := 0, slots := 0, locals := 22 })).room s m #[.ref (a 14), .int (L0.1 1), .int (L0.1 2)] below meth c dC dI cy a z A (kI dC dI cy a z A below #[.ref (a 14), .int (L0.1 1), .int (L0.1 2)] s) 8 (y_X0_standsIn k 0) (fun L => [(0, .ref (a 14)), (1, .int (L.1 1)), (2, .int (L.1 2))]) 0 (fun L => [])) ∧ (bC p l e (headSpec w_y_X0_standsIn ({ frames := 1, cells := 0, slots := 0, locals := 22 })).room s m #[.ref (a 14), .int (L0.1 1), .int (L0.1 2)] below meth c dC dI cy a z A (kI dC dI cy a z A below #[.ref (a 14), .int (L0.1 1), .int (L0.1 2)] s) 8 (y_X0_standsIn k 1) (fun L => [(0, .ref (a 14)), (1, .int (L.1 1)), (2, .int (L.1 2)), (3, .int (L.1 3)), (4, .int (L.1 4)), (5, .int (L.1 5))]) 24 (fun L => [])) ∧ (bC p l e (headSpec w_y_X0_standsIn ({ frames := 1, cells := 0, slots := 0, locals := 22 })).room s m #[.ref (a 14), .int (L0.1 1), .int (L0.1 2)] below meth c dC dI cy a z A (kI dC dI cy a z A below #[.ref (a 14), .int (L0.1 1), .int (L0.1 2)] s) 8 (y_X0_standsIn k 2) (fun L => []) 92 (fun L => [])) ∧ (bC p l e (headSpec w_y_X0_standsIn ({ frames := 1, cells := 0, slots := 0, locals := 22 })).room s m #[.ref (a 14), .int (L0.1 1), .int (L0.1 2)] below meth c dC dI cy a z A (kI dC dI cy a z A below #[.ref (a 14), .int (L0.1 1), .int (L0.1 2)] s) 8 (y_X0_standsIn k 3) (fun L => [(0, .ref (a 14)), (1, .int (L.1 1)), (2, .int (L.1 2)), (3, .int (L.1 3)), (4, .int (L.1 4)), (5, .int (L.1 5)), (6, .int (L.1 6)), (7, .int (L.1 7))]) 37 (fun L => [])) ∧ (bC p l e (headSpec w_y_X0_standsIn ({ frames := 1, cells := 0, slots := 0, locals := 22 })).room s m #[.ref (a 14), .int (L0.1 1), .int (L0.1 2)] below meth c dC dI cy a z A (kI dC dI cy a z A below #[.ref (a 14), .int (L0.1 1), .int (L0.1 2)] s) 8 (y_X0_standsIn k 4) (fun L => [(0, .ref (a 14)), (1, .int (L.1 1)), (2, .int (L.1 2)), (3, .int (L.1 3)), (4, .int (L.1 4)), (5, .int (L.1 5)), (6, .int (L.1 6))]) 78 (fun L => [])) ∧ (bC p l e (headSpec w_y_X0_standsIn ({ frames := 1, cells := 0, slots := 0, locals := 22 })).room s m #[.ref (a 14), .int (L0.1 1), .int (L0.1 2)] below meth c dC dI cy a z A (kI dC dI cy a z A below #[.ref (a 14), .int (L0.1 1), .int (L0.1 2)] s) 8 (y_X0_standsIn k 5) (fun L => [(0, .ref (a 14)), (1, .int (L.1 1)), (2, .int (L.1 2)), (3, .int (L.1 3)), (4, .int (L.1 4)), (5, .int (L.1 5))]) 86 (fun L => [])) := by
    intro k
    induction k with
    | zero => exact ⟨fun L σ r h => (by cases h), fun L σ r h => (by cases h), fun L σ r h => (by cases h), fun L σ r h => (by cases h), fun L σ r h => (by cases h), fun L σ r h => (by cases h)⟩
    | succ k ih =>
      refine ⟨?_, ?_, ?_, ?_, ?_, ?_⟩
      · intro L σ r h H locs ls hP hD hS hl
        rw [y_X0_standsIn] at h
        refine lv_aload_n hx hb dX0_standsIn_0 rfl (lv_at hl 0 rfl) ?_
        refine hg_14_0 hx hb hts in_y_X0_standsIn_X0 hown hK hP (hts _ (List.mem_cons_of_mem _ (List.mem_append_left _ (List.mem_append_left _ (List.mem_of_getElem? (i := 0) rfl))))) dX0_standsIn_1 ?_
        refine lv_iload_n hx hb dX0_standsIn_4 rfl (lv_at hl 1 rfl) ?_
        obtain ⟨r1, hc1, h⟩ := oc_ex h
        refine kc_i (va_runV (As := [.int (L.1 1)]) (rest := []) ⟨hx, hb, hml, hown, hts⟩ (c_y_X1_length l dC dI cy a z k (lI lZ 1 ((L.1 1))) σ r1 hc1 H.size) (cwV 1 hts g_y_X0_standsIn_X1_length_V100 rfl rfl rfl hd_y_X1_length ⟨Nat.le_of_ble_eq_true rfl, Nat.le_of_ble_eq_true rfl⟩) ⟨nb_blind, va_recv hK hP (ci := 1) (q0 := 0) rfl rfl, (kb_pre hK hG hP hD)⟩ rfl rfl hl.1 rfl (lv_room (Nat.le_of_ble_eq_true rfl)) dX0_standsIn_5 ⟨Nat.le_refl _, Nat.le_refl _⟩) hA hP hD hS (fun H locs hP hD hS => ?_)
        refine lv_istore_n (lv' := [(3, .int r1.1), (0, .ref (a 14)), (1, .int (L.1 1)), (2, .int (L.1 2))]) hx hb dX0_standsIn_8 rfl hl (by decide) rfl (fun ls hl => ?_)
        refine lv_aload_n hx hb dX0_standsIn_9 rfl (lv_at hl 1 rfl) ?_
        refine hg_14_0 hx hb hts in_y_X0_standsIn_X0 hown hK hP (hts _ (List.mem_cons_of_mem _ (List.mem_append_left _ (List.mem_append_left _ (List.mem_of_getElem? (i := 0) rfl))))) dX0_standsIn_10 ?_
        refine lv_iload_n hx hb dX0_standsIn_13 rfl (lv_at hl 3 rfl) ?_
        obtain ⟨r2, hc2, h⟩ := oc_ex h
        refine kc_i (va_runV (As := [.int (L.1 2)]) (rest := []) ⟨hx, hb, hml, hown, hts⟩ (c_y_X1_length l dC dI cy a z k (lI lZ 1 ((L.1 2))) r1.2 r2 hc2 H.size) (cwV 1 hts g_y_X0_standsIn_X1_length_V100 rfl rfl rfl hd_y_X1_length ⟨Nat.le_of_ble_eq_true rfl, Nat.le_of_ble_eq_true rfl⟩) ⟨nb_blind, va_recv hK hP (ci := 1) (q0 := 0) rfl rfl, (kb_pre hK hG hP hD)⟩ rfl rfl hl.1 rfl (lv_room (Nat.le_of_ble_eq_true rfl)) dX0_standsIn_14 ⟨Nat.le_refl _, Nat.le_refl _⟩) hA hP hD hS (fun H locs hP hD hS => ?_)
        refine lv_iload_n hx hb dX0_standsIn_17 rfl (lv_at hl 0 rfl) ?_
        refine lv_isub hx hb dX0_standsIn_18 ?_
        refine lv_istore (lv' := [(4, .int (r2.1 - r1.1)), (3, .int r1.1), (0, .ref (a 14)), (1, .int (L.1 1)), (2, .int (L.1 2))]) hx hb dX0_standsIn_19 hl (by decide) rfl (fun ls hl => ?_)
        refine lv_iconst (v := 0) hx hb dX0_standsIn_21 (by decide) ?_
        refine lv_istore (lv' := [(5, .int 0), (4, .int (r2.1 - r1.1)), (3, .int r1.1), (0, .ref (a 14)), (1, .int (L.1 1)), (2, .int (L.1 2))]) hx hb dX0_standsIn_22 hl (by decide) rfl (fun ls hl => ?_)
        exact ih.2.1 (lI (lI (lI L 3 r1.1) 4 ((r2.1 - r1.1))) 5 0) r2.2 r h H locs ls hP hD hS (lv_sub hl [3, 4, 5, 2, 1, 0] rfl)
      · intro L σ r h H locs ls hP hD hS hl
        rw [y_X0_standsIn] at h
        refine lv_iload hx hb dX0_standsIn_24 (lv_at hl 5 rfl) ?_
        refine lv_iload hx hb dX0_standsIn_26 (lv_at hl 4 rfl) ?_
        refine lv_icmp_gt (tgt := 92) hx hb dX0_standsIn_28 (by decide) (fun c1 => ?_) (fun c1 => ?_)
        · rw [if_pos c1] at h
          exact ih.2.2.1 L σ r h H locs ls hP hD hS (lv_sub hl [] rfl)
        · rw [if_neg c1] at h
          refine lv_iconst (v := 0) hx hb dX0_standsIn_31 (by decide) ?_
          refine lv_istore (lv' := [(6, .int 0), (0, .ref (a 14)), (1, .int (L.1 1)), (2, .int (L.1 2)), (3, .int (L.1 3)), (4, .int (L.1 4)), (5, .int (L.1 5))]) hx hb dX0_standsIn_32 hl (by decide) rfl (fun ls hl => ?_)
          refine lv_iconst (v := 0) hx hb dX0_standsIn_34 (by decide) ?_
          refine lv_istore (lv' := [(7, .int 0), (6, .int 0), (0, .ref (a 14)), (1, .int (L.1 1)), (2, .int (L.1 2)), (3, .int (L.1 3)), (4, .int (L.1 4)), (5, .int (L.1 5))]) hx hb dX0_standsIn_35 hl (by decide) rfl (fun ls hl => ?_)
          exact ih.2.2.2.1 (lI (lI L 6 0) 7 0) σ r h H locs ls hP hD hS (lv_sub hl [2, 3, 4, 5, 6, 7, 1, 0] rfl)
      · intro L σ r h H locs ls hP hD hS hl
        rw [y_X0_standsIn] at h
        refine lv_iconst (v := 0) hx hb dX0_standsIn_92 (by decide) ?_
        obtain rfl := Option.some.inj h
        exact W.zret (v := 0) hx hb hr rfl (fun t ht hW => ⟨⟨0, (), rfl, rfl, by rw [ht]; exact hP, va_K.moved hW.alike hK, hD⟩, hS.F ht⟩) hS.2.2 dX0_standsIn_93
      · intro L σ r h H locs ls hP hD hS hl
        rw [y_X0_standsIn] at h
        refine lv_iload hx hb dX0_standsIn_37 (lv_at hl 7 rfl) ?_
        refine lv_iload_n hx hb dX0_standsIn_39 rfl (lv_at hl 3 rfl) ?_
        refine lv_icmp_ge (tgt := 78) hx hb dX0_standsIn_40 (by decide) (fun c1 => ?_) (fun c1 => ?_)
        · rw [if_pos c1] at h
          exact ih.2.2.2.2.1 L σ r h H locs ls hP hD hS (lv_sub hl [0, 1, 2, 3, 4, 5, 6] rfl)
        · rw [if_neg c1] at h
          refine lv_aload_n hx hb dX0_standsIn_43 rfl (lv_at hl 0 rfl) ?_
          refine hg_14_0 hx hb hts in_y_X0_standsIn_X0 hown hK hP (hts _ (List.mem_cons_of_mem _ (List.mem_append_left _ (List.mem_append_left _ (List.mem_of_getElem? (i := 0) rfl))))) dX0_standsIn_44 ?_
          refine lv_iload_n hx hb dX0_standsIn_47 rfl (lv_at hl 1 rfl) ?_
          refine lv_iload hx hb dX0_standsIn_48 (lv_at hl 7 rfl) ?_
          obtain ⟨r2, hc2, h⟩ := oc_ex h
          refine kc_i (va_runV (As := [.int (L.1 1), .int (L.1 7)]) (rest := []) ⟨hx, hb, hml, hown, hts⟩ (c_y_X1_byteAt l dC dI cy a z k (lI (lI lZ 1 ((L.1 1))) 2 ((L.1 7))) σ r2 hc2 H.size) (cwV 2 hts g_y_X0_standsIn_X1_byteAt_V171 rfl rfl rfl hd_y_X1_byteAt ⟨Nat.le_of_ble_eq_true rfl, Nat.le_of_ble_eq_true rfl⟩) ⟨nb_blind, va_recv hK hP (ci := 1) (q0 := 0) rfl rfl, (kb_pre hK hG hP hD)⟩ rfl rfl hl.1 rfl (lv_room (Nat.le_of_ble_eq_true rfl)) dX0_standsIn_50 ⟨Nat.le_refl _, Nat.le_refl _⟩) hA hP hD hS (fun H locs hP hD hS => ?_)
          refine lv_aload_n hx hb dX0_standsIn_53 rfl (lv_at hl 0 rfl) ?_
          refine hg_14_0 hx hb hts in_y_X0_standsIn_X0 hown hK hP (hts _ (List.mem_cons_of_mem _ (List.mem_append_left _ (List.mem_append_left _ (List.mem_of_getElem? (i := 0) rfl))))) dX0_standsIn_54 ?_
          refine lv_iload_n hx hb dX0_standsIn_57 rfl (lv_at hl 2 rfl) ?_
          refine lv_iload hx hb dX0_standsIn_58 (lv_at hl 5 rfl) ?_
          refine lv_iload hx hb dX0_standsIn_60 (lv_at hl 7 rfl) ?_
          refine lv_iadd hx hb dX0_standsIn_62 ?_
          obtain ⟨r3, hc3, h⟩ := oc_ex h
          refine kc_i (va_runV (As := [.int (L.1 2), .int (((L.1 5)) + ((L.1 7)))]) (rest := [.int r2.1]) ⟨hx, hb, hml, hown, hts⟩ (c_y_X1_byteAt l dC dI cy a z k (lI (lI lZ 1 ((L.1 2))) 2 ((((L.1 5)) + ((L.1 7))))) r2.2 r3 hc3 H.size) (cwV 2 hts g_y_X0_standsIn_X1_byteAt_V171 rfl rfl rfl hd_y_X1_byteAt ⟨Nat.le_of_ble_eq_true rfl, Nat.le_of_ble_eq_true rfl⟩) ⟨nb_blind, va_recv hK hP (ci := 1) (q0 := 0) rfl rfl, (kb_pre hK hG hP hD)⟩ rfl rfl hl.1 rfl (lv_room (Nat.le_of_ble_eq_true rfl)) dX0_standsIn_63 ⟨Nat.le_refl _, Nat.le_refl _⟩) hA hP hD hS (fun H locs hP hD hS => ?_)
          refine lv_icmp_ne (tgt := 78) hx hb dX0_standsIn_66 (by decide) (fun c4 => ?_) (fun c4 => ?_)
          · rw [if_neg c4] at h
            exact ih.2.2.2.2.1 L r3.2 r h H locs ls hP hD hS (lv_sub hl [0, 1, 2, 3, 4, 5, 6] rfl)
          · rw [if_pos c4] at h
            refine lv_iinc (v := ((L.1 6)) + 1) (lv' := [(6, .int (((L.1 6)) + 1)), (0, .ref (a 14)), (1, .int (L.1 1)), (2, .int (L.1 2)), (3, .int (L.1 3)), (4, .int (L.1 4)), (5, .int (L.1 5)), (7, .int (L.1 7))]) hx hb dX0_standsIn_69 hl (k := 6) rfl rfl (by decide) rfl (fun ls hl => ?_)
            refine lv_iinc (v := ((L.1 7)) + 1) (lv' := [(7, .int (((L.1 7)) + 1)), (6, .int (((L.1 6)) + 1)), (0, .ref (a 14)), (1, .int (L.1 1)), (2, .int (L.1 2)), (3, .int (L.1 3)), (4, .int (L.1 4)), (5, .int (L.1 5))]) hx hb dX0_standsIn_72 hl (k := 7) rfl rfl (by decide) rfl (fun ls hl => ?_)
            refine lv_goto (tgt := 37) hx hb dX0_standsIn_75 (by decide) ?_
            exact ih.2.2.2.1 (lI (lI L 6 ((((L.1 6)) + 1))) 7 ((((L.1 7)) + 1))) r3.2 r h H locs ls hP hD hS (lv_sub hl [2, 3, 4, 5, 6, 7, 1, 0] rfl)
      · intro L σ r h H locs ls hP hD hS hl
        rw [y_X0_standsIn] at h
        refine lv_iload hx hb dX0_standsIn_78 (lv_at hl 6 rfl) ?_
        refine lv_iload_n hx hb dX0_standsIn_80 rfl (lv_at hl 3 rfl) ?_
        refine lv_icmp_ne (tgt := 86) hx hb dX0_standsIn_81 (by decide) (fun c1 => ?_) (fun c1 => ?_)
        · rw [if_neg c1] at h
          exact ih.2.2.2.2.2 L σ r h H locs ls hP hD hS (lv_sub hl [0, 1, 2, 3, 4, 5] rfl)
        · rw [if_pos c1] at h
          refine lv_iconst (v := 1) hx hb dX0_standsIn_84 (by decide) ?_
          obtain rfl := Option.some.inj h
          exact W.zret (v := 1) hx hb hr rfl (fun t ht hW => ⟨⟨1, (), rfl, rfl, by rw [ht]; exact hP, va_K.moved hW.alike hK, hD⟩, hS.F ht⟩) hS.2.2 dX0_standsIn_85
      · intro L σ r h H locs ls hP hD hS hl
        rw [y_X0_standsIn] at h
        refine lv_iinc (v := ((L.1 5)) + 1) (lv' := [(5, .int (((L.1 5)) + 1)), (0, .ref (a 14)), (1, .int (L.1 1)), (2, .int (L.1 2)), (3, .int (L.1 3)), (4, .int (L.1 4))]) hx hb dX0_standsIn_86 hl (k := 5) rfl rfl (by decide) rfl (fun ls hl => ?_)
        refine lv_goto (tgt := 24) hx hb dX0_standsIn_89 (by decide) ?_
        exact ih.2.1 (lI L 5 ((((L.1 5)) + 1))) σ r h H locs ls hP hD hS (lv_sub hl [1, 2, 3, 4, 5, 0] rfl)
  exact (blk k0).1 L0 σ0 r0 h0 s.heap [] ls hP hD hS hl
/-! X0_contains -/
def y_X0_contains : Nat → Nat → LV → CS → Option (Int32 × CS)
  | 0, _, _, _ => none
  | k + 1, 0, L, σ => oc (y_X1_kind k 0 (lI lZ 1 ((L.1 1))) σ) (fun r1 => if r1.1 = (4 : Int32) then (y_X0_contains k 1 L r1.2) else (if r1.1 = (5 : Int32) then (y_X0_contains k 2 L r1.2) else (if r1.1 = (6 : Int32) then (y_X0_contains k 3 L r1.2) else (y_X0_contains k 4 L r1.2))))
  | k + 1, 1, L, σ => oc (y_X1_kind k 0 (lI lZ 1 ((L.1 2))) σ) (fun r1 => if r1.1 = 4 then (oc (y_X0_standsIn k 0 (lI (lI lZ 1 ((L.1 2))) 2 ((L.1 1))) r1.2) (fun r3 => oc (y_X11_truth k 0 (lI lZ 0 r3.1) r3.2) (fun r4 => y_X0_contains k 6 (lI L 100 r4.1) r4.2))) else (y_X0_contains k 5 L r1.2))
  | k + 1, 2, L, σ => y_X0_contains k 7 (lI (lI L 3 0) 4 0) σ
  | k + 1, 3, L, σ => oc (y_X0_holds k 0 (lI (lI lZ 1 ((L.1 1))) 2 ((L.1 2))) σ) (fun r1 => oc (y_X11_truth k 0 (lI lZ 0 r1.1) r1.2) (fun r2 => some (r2.1, r2.2)))
  | k + 1, 4, L, σ => some ((-268435455), σ)
  | k + 1, 5, L, σ => y_X0_contains k 6 (lI L 100 ((-268435455))) σ
  | k + 1, 6, L, σ => some ((L.1 100), σ)
  | k + 1, 7, L, σ => oc (y_X1_length k 0 (lI lZ 1 ((L.1 1))) σ) (fun r1 => if r1.1 ≤ ((L.1 4)) then (y_X0_contains k 8 L r1.2) else (if ((L.1 3)) = 0 then (if ((L.1 2)) = ((-2147483648)) then (y_X0_contains k 8 L r1.2) else (oc (y_X1_member k 0 (lI (lI lZ 1 ((L.1 1))) 2 ((L.1 4))) r1.2) (fun r5 => oc (y_X1_same k 0 (lI (lI lZ 1 r5.1) 2 ((L.1 2))) r5.2) (fun r6 => y_X0_contains k 7 (lI (lI L 3 r6.1) 4 ((((L.1 4)) + 1))) r6.2)))) else (y_X0_contains k 8 L r1.2)))
  | k + 1, 8, L, σ => oc (y_X11_truth k 0 (lI lZ 0 ((L.1 3))) σ) (fun r1 => some (r1.1, r1.2))
  | _ + 1, _ + 9, _, _ => none
def o_y_X0_contains : List Cond := [.fieldLink RX0 22 "SetHouse$Algebra" "heap" "LSetHouse$Heap;", .methodLink RX0 87 yX1_kind, .instanceMethod yX1_kind, .selects RX1 yX1_kind yX1_kind, .initialized RX1, .methodLink RX0 168 yX0_standsIn, .instanceMethod yX0_standsIn, .selects RX0 yX0_standsIn yX0_standsIn, .initialized RX0, .initialized RX11, .static yX11_truth, .methodLink RX0 164 yX0_holds, .instanceMethod yX0_holds, .selects RX0 yX0_holds yX0_holds, .constant RX0 56 (-268435455), .methodLink RX0 100 yX1_length, .instanceMethod yX1_length, .selects RX1 yX1_length yX1_length, .constant RX0 167 (-2147483648), .methodLink RX0 154 yX1_member, .instanceMethod yX1_member, .selects RX1 yX1_member yX1_member, .methodLink RX0 60 yX1_same, .instanceMethod yX1_same, .selects RX1 yX1_same yX1_same]
theorem o_y_X0_contains_good : o_y_X0_contains.all goodWord = true := by decide +kernel
def p_y_X0_contains : List Cond := o_y_X0_contains ++ ((.code yX1_kind cX1_kind 2 (some .int) :: p_y_X1_kind) ++ ((.code yX0_standsIn cX0_standsIn 8 (some .boolean) :: p_y_X0_standsIn) ++ ((.code yX11_truth cX11_truth 1 (some .int) :: p_y_X11_truth) ++ ((.code yX0_holds cX0_holds 4 (some .boolean) :: p_y_X0_holds) ++ ((.code yX1_length cX1_length 2 (some .int) :: p_y_X1_length) ++ ((.code yX1_member cX1_member 3 (some .int) :: p_y_X1_member) ++ ((.code yX1_same cX1_same 3 (some .boolean) :: p_y_X1_same) ++ [])))))))
theorem p_y_X0_contains_good : p_y_X0_contains.all goodWord = true := nb_all2 o_y_X0_contains_good (nb_all2 (nb_allc (by decide +kernel) p_y_X1_kind_good) (nb_all2 (nb_allc (by decide +kernel) p_y_X0_standsIn_good) (nb_all2 (nb_allc (by decide +kernel) p_y_X11_truth_good) (nb_all2 (nb_allc (by decide +kernel) p_y_X0_holds_good) (nb_all2 (nb_allc (by decide +kernel) p_y_X1_length_good) (nb_all2 (nb_allc (by decide +kernel) p_y_X1_member_good) (nb_all2 (nb_allc (by decide +kernel) p_y_X1_same_good) rfl)))))))
def w_y_X0_contains : List Cond := .code yX0_contains cX0_contains 5 (some .int) :: (p_y_X0_contains ++ fC)
theorem w_y_X0_contains_good : w_y_X0_contains.all goodWord = true := nb_allc (by decide +kernel) (nb_all2 p_y_X0_contains_good fC_good)
theorem in_y_X0_contains_X0 : ∀ w ∈ wsX00, w ∈ w_y_X0_contains := fun _ h => List.mem_cons_of_mem _ (List.mem_append_right _ (List.mem_append_left _ h))
theorem hd_y_X0_contains : yX0_contains.cls = RX0 ∧ yX0_contains.cls ≠ "java/lang/invoke/MethodHandle" ∧ yX0_contains.cls ≠ "java/lang/invoke/VarHandle" ∧ (parseMethodDescriptor yX0_contains.desc).map (fun d => d.parameters.length) = some 2 := by decide +kernel
theorem gg_y_X0_contains_X0_holds : GoodIn w_y_X0_contains w_y_X0_holds := goodIn_sub (fun w h => (List.mem_cons.mp h).elim (fun e => (List.mem_cons_of_mem _ (List.mem_append_left _ (List.mem_append_right _ (List.mem_append_right _ (List.mem_append_right _ (List.mem_append_right _ (List.mem_append_left _ (List.mem_cons.mpr (Or.inl e)))))))))) (fun h => (List.mem_append.mp h).elim (fun h => (List.mem_cons_of_mem _ (List.mem_append_left _ (List.mem_append_right _ (List.mem_append_right _ (List.mem_append_right _ (List.mem_append_right _ (List.mem_append_left _ (List.mem_cons_of_mem _ h))))))))) (fun h => List.mem_cons_of_mem _ (List.mem_append_right _ h)))) w_y_X0_holds_good
theorem g_y_X0_contains_X0_holds_V164 : GoodIn w_y_X0_contains (wsV RX0 164 RX0 yX0_holds w_y_X0_holds) := goodIn_app (nb_g4 (List.mem_cons_of_mem _ (List.mem_append_left _ (List.mem_append_left _ (List.mem_of_getElem? (i := 11) rfl)))) (List.mem_cons_of_mem _ (List.mem_append_left _ (List.mem_append_left _ (List.mem_of_getElem? (i := 12) rfl)))) (List.mem_cons_of_mem _ (List.mem_append_left _ (List.mem_append_left _ (List.mem_of_getElem? (i := 13) rfl)))) (List.mem_cons_of_mem _ (List.mem_append_left _ (List.mem_append_left _ (List.mem_of_getElem? (i := 8) rfl)))) (by decide +kernel)) gg_y_X0_contains_X0_holds
theorem gg_y_X0_contains_X0_standsIn : GoodIn w_y_X0_contains w_y_X0_standsIn := goodIn_sub (fun w h => (List.mem_cons.mp h).elim (fun e => (List.mem_cons_of_mem _ (List.mem_append_left _ (List.mem_append_right _ (List.mem_append_right _ (List.mem_append_left _ (List.mem_cons.mpr (Or.inl e)))))))) (fun h => (List.mem_append.mp h).elim (fun h => (List.mem_cons_of_mem _ (List.mem_append_left _ (List.mem_append_right _ (List.mem_append_right _ (List.mem_append_left _ (List.mem_cons_of_mem _ h))))))) (fun h => List.mem_cons_of_mem _ (List.mem_append_right _ h)))) w_y_X0_standsIn_good
theorem g_y_X0_contains_X0_standsIn_V168 : GoodIn w_y_X0_contains (wsV RX0 168 RX0 yX0_standsIn w_y_X0_standsIn) := goodIn_app (nb_g4 (List.mem_cons_of_mem _ (List.mem_append_left _ (List.mem_append_left _ (List.mem_of_getElem? (i := 5) rfl)))) (List.mem_cons_of_mem _ (List.mem_append_left _ (List.mem_append_left _ (List.mem_of_getElem? (i := 6) rfl)))) (List.mem_cons_of_mem _ (List.mem_append_left _ (List.mem_append_left _ (List.mem_of_getElem? (i := 7) rfl)))) (List.mem_cons_of_mem _ (List.mem_append_left _ (List.mem_append_left _ (List.mem_of_getElem? (i := 8) rfl)))) (by decide +kernel)) gg_y_X0_contains_X0_standsIn
theorem gg_y_X0_contains_X11_truth : GoodIn w_y_X0_contains w_y_X11_truth := goodIn_sub (fun w h => (List.mem_cons.mp h).elim (fun e => (List.mem_cons_of_mem _ (List.mem_append_left _ (List.mem_append_right _ (List.mem_append_right _ (List.mem_append_right _ (List.mem_append_left _ (List.mem_cons.mpr (Or.inl e))))))))) (fun h => (List.mem_append.mp h).elim (fun h => (List.mem_cons_of_mem _ (List.mem_append_left _ (List.mem_append_right _ (List.mem_append_right _ (List.mem_append_right _ (List.mem_append_left _ (List.mem_cons_of_mem _ h)))))))) (fun h => List.mem_cons_of_mem _ (List.mem_append_right _ h)))) w_y_X11_truth_good
theorem g_y_X0_contains_X11_truth_SN65 : GoodIn w_y_X0_contains w_y_X11_truth := gg_y_X0_contains_X11_truth
theorem gg_y_X0_contains_X1_kind : GoodIn w_y_X0_contains w_y_X1_kind := goodIn_sub (fun w h => (List.mem_cons.mp h).elim (fun e => (List.mem_cons_of_mem _ (List.mem_append_left _ (List.mem_append_right _ (List.mem_append_left _ (List.mem_cons.mpr (Or.inl e))))))) (fun h => (List.mem_append.mp h).elim (fun h => (List.mem_cons_of_mem _ (List.mem_append_left _ (List.mem_append_right _ (List.mem_append_left _ (List.mem_cons_of_mem _ h)))))) (fun h => List.mem_cons_of_mem _ (List.mem_append_right _ h)))) w_y_X1_kind_good
theorem g_y_X0_contains_X1_kind_V87 : GoodIn w_y_X0_contains (wsV RX0 87 RX1 yX1_kind w_y_X1_kind) := goodIn_app (nb_g4 (List.mem_cons_of_mem _ (List.mem_append_left _ (List.mem_append_left _ (List.mem_of_getElem? (i := 1) rfl)))) (List.mem_cons_of_mem _ (List.mem_append_left _ (List.mem_append_left _ (List.mem_of_getElem? (i := 2) rfl)))) (List.mem_cons_of_mem _ (List.mem_append_left _ (List.mem_append_left _ (List.mem_of_getElem? (i := 3) rfl)))) (List.mem_cons_of_mem _ (List.mem_append_left _ (List.mem_append_left _ (List.mem_of_getElem? (i := 4) rfl)))) (by decide +kernel)) gg_y_X0_contains_X1_kind
theorem gg_y_X0_contains_X1_length : GoodIn w_y_X0_contains w_y_X1_length := goodIn_sub (fun w h => (List.mem_cons.mp h).elim (fun e => (List.mem_cons_of_mem _ (List.mem_append_left _ (List.mem_append_right _ (List.mem_append_right _ (List.mem_append_right _ (List.mem_append_right _ (List.mem_append_right _ (List.mem_append_left _ (List.mem_cons.mpr (Or.inl e))))))))))) (fun h => (List.mem_append.mp h).elim (fun h => (List.mem_cons_of_mem _ (List.mem_append_left _ (List.mem_append_right _ (List.mem_append_right _ (List.mem_append_right _ (List.mem_append_right _ (List.mem_append_right _ (List.mem_append_left _ (List.mem_cons_of_mem _ h)))))))))) (fun h => List.mem_cons_of_mem _ (List.mem_append_right _ h)))) w_y_X1_length_good
theorem g_y_X0_contains_X1_length_V100 : GoodIn w_y_X0_contains (wsV RX0 100 RX1 yX1_length w_y_X1_length) := goodIn_app (nb_g4 (List.mem_cons_of_mem _ (List.mem_append_left _ (List.mem_append_left _ (List.mem_of_getElem? (i := 15) rfl)))) (List.mem_cons_of_mem _ (List.mem_append_left _ (List.mem_append_left _ (List.mem_of_getElem? (i := 16) rfl)))) (List.mem_cons_of_mem _ (List.mem_append_left _ (List.mem_append_left _ (List.mem_of_getElem? (i := 17) rfl)))) (List.mem_cons_of_mem _ (List.mem_append_left _ (List.mem_append_left _ (List.mem_of_getElem? (i := 4) rfl)))) (by decide +kernel)) gg_y_X0_contains_X1_length
theorem gg_y_X0_contains_X1_member : GoodIn w_y_X0_contains w_y_X1_member := goodIn_sub (fun w h => (List.mem_cons.mp h).elim (fun e => (List.mem_cons_of_mem _ (List.mem_append_left _ (List.mem_append_right _ (List.mem_append_right _ (List.mem_append_right _ (List.mem_append_right _ (List.mem_append_right _ (List.mem_append_right _ (List.mem_append_left _ (List.mem_cons.mpr (Or.inl e)))))))))))) (fun h => (List.mem_append.mp h).elim (fun h => (List.mem_cons_of_mem _ (List.mem_append_left _ (List.mem_append_right _ (List.mem_append_right _ (List.mem_append_right _ (List.mem_append_right _ (List.mem_append_right _ (List.mem_append_right _ (List.mem_append_left _ (List.mem_cons_of_mem _ h))))))))))) (fun h => List.mem_cons_of_mem _ (List.mem_append_right _ h)))) w_y_X1_member_good
theorem g_y_X0_contains_X1_member_V154 : GoodIn w_y_X0_contains (wsV RX0 154 RX1 yX1_member w_y_X1_member) := goodIn_app (nb_g4 (List.mem_cons_of_mem _ (List.mem_append_left _ (List.mem_append_left _ (List.mem_of_getElem? (i := 19) rfl)))) (List.mem_cons_of_mem _ (List.mem_append_left _ (List.mem_append_left _ (List.mem_of_getElem? (i := 20) rfl)))) (List.mem_cons_of_mem _ (List.mem_append_left _ (List.mem_append_left _ (List.mem_of_getElem? (i := 21) rfl)))) (List.mem_cons_of_mem _ (List.mem_append_left _ (List.mem_append_left _ (List.mem_of_getElem? (i := 4) rfl)))) (by decide +kernel)) gg_y_X0_contains_X1_member
theorem gg_y_X0_contains_X1_same : GoodIn w_y_X0_contains w_y_X1_same := goodIn_sub (fun w h => (List.mem_cons.mp h).elim (fun e => (List.mem_cons_of_mem _ (List.mem_append_left _ (List.mem_append_right _ (List.mem_append_right _ (List.mem_append_right _ (List.mem_append_right _ (List.mem_append_right _ (List.mem_append_right _ (List.mem_append_right _ (List.mem_append_left _ (List.mem_cons.mpr (Or.inl e))))))))))))) (fun h => (List.mem_append.mp h).elim (fun h => (List.mem_cons_of_mem _ (List.mem_append_left _ (List.mem_append_right _ (List.mem_append_right _ (List.mem_append_right _ (List.mem_append_right _ (List.mem_append_right _ (List.mem_append_right _ (List.mem_append_right _ (List.mem_append_left _ (List.mem_cons_of_mem _ h)))))))))))) (fun h => List.mem_cons_of_mem _ (List.mem_append_right _ h)))) w_y_X1_same_good
theorem g_y_X0_contains_X1_same_V60 : GoodIn w_y_X0_contains (wsV RX0 60 RX1 yX1_same w_y_X1_same) := goodIn_app (nb_g4 (List.mem_cons_of_mem _ (List.mem_append_left _ (List.mem_append_left _ (List.mem_of_getElem? (i := 22) rfl)))) (List.mem_cons_of_mem _ (List.mem_append_left _ (List.mem_append_left _ (List.mem_of_getElem? (i := 23) rfl)))) (List.mem_cons_of_mem _ (List.mem_append_left _ (List.mem_append_left _ (List.mem_of_getElem? (i := 24) rfl)))) (List.mem_cons_of_mem _ (List.mem_append_left _ (List.mem_append_left _ (List.mem_of_getElem? (i := 4) rfl)))) (by decide +kernel)) gg_y_X0_contains_X1_same
set_option maxHeartbeats 40000000 in
set_option maxRecDepth 100000 in
theorem c_y_X0_contains (l : Launch) (dC : Nat → ClassId) (dI : Nat → Nat → Nat) (cy : Nat → ClassId) (a z : Nat → Nat) (k0 : Nat) (L0 : LV) (σ0 : CS) (r0 : Int32 × CS) (h0 : y_X0_contains k0 0 L0 σ0 = some r0) (sz : Nat) : Met l yX0_contains w_y_X0_contains ({ frames := 64, cells := 0, slots := 0, locals := 1788 }) (va_Pc [.ref (a 14), .int (L0.1 1), .int (L0.1 2)] (nIn (dC, dI) cy sz (vC cy a z σ0))) (va_Qi (fun (x : Int32) (_ : Unit) => x = r0.1) (fun _ t => nOut (dC, dI) cy (va_A (vC cy a z σ0) sz) (vC cy a z r0.2) t) (va_A (vC cy a z σ0) sz)) 0 0 (va_A (vC cy a z σ0) sz) := by
  refine Met.ofW (cc := cX0_contains) (maxL := 5) (ret := (some .int)) (by decide) rfl ?_
  intro p e s m args below meth c s₁ B hml hv
  obtain ⟨rfl, hsz, hP, hK, hD0, hG⟩ := hv
  have hx := B.exec
  have hb := B.bytes
  have hr := B.returns
  have hts := atoms_spec (ws := w_y_X0_contains) B.pre
  have hown : s.vm.findClass RX0 = some m.cls := findClass_of_methodNamed B.named
  have hlocks := B.notSynchronized
  subst hsz
  have hD := hD0.self (sz := s.heap.size)
  generalize hAe : va_A (vC cy a z σ0) s.heap.size = A at hD ⊢
  have hA : ∀ q : Nat, s.heap.size ≤ q → A q := fun q h => by rw [← hAe]; exact Or.inr h
  have hS : va_S A s.heap s.heap [] := va_S.rf
  have hl := lv_entry ([.ref (a 14), .int (L0.1 1), .int (L0.1 2)]) (n := 5) (Nat.le_of_ble_eq_true rfl)
  rw [lg_entry_eq]
  generalize (lg_sl ([.ref (a 14), .int (L0.1 1), .int (L0.1 2)]) ++ List.replicate (5 - (lg_sl ([.ref (a 14), .int (L0.1 1), .int (L0.1 2)])).length) Slot.unset).toArray = ls at hl ⊢
  have hl : lv_has ls 5 [(0, .ref (a 14)), (1, .int (L0.1 1)), (2, .int (L0.1 2))] := hl
  have blk : ∀ k : Nat, (bC p l e (headSpec w_y_X0_contains ({ frames := 64, cells := 0, slots := 0, locals := 1788 })).room s m #[.ref (a 14), .int (L0.1 1), .int (L0.1 2)] below meth c dC dI cy a z A (kI dC dI cy a z A below #[.ref (a 14), .int (L0.1 1), .int (L0.1 2)] s) 5 (y_X0_contains k 0) (fun L => [(0, .ref (a 14)), (1, .int (L.1 1)), (2, .int (L.1 2))]) 0 (fun L => [])) ∧ (bC p l e (headSpec w_y_X0_contains ({ frames := 64, cells := 0, slots := 0, locals := 1788 })).room s m #[.ref (a 14), .int (L0.1 1), .int (L0.1 2)] below meth c dC dI cy a z A (kI dC dI cy a z A below #[.ref (a 14), .int (L0.1 1), .int (L0.1 2)] s) 5 (y_X0_contains k 1) (fun L => [(0, .ref (a 14)), (1, .int (L.1 1)), (2, .int (L.1 2))]) 104 (fun L => [])) ∧ (bC p l e (headSpec w_y_X0_contains ({ frames := 64, cells := 0, slots := 0, locals := 1788 })).room s m #[.ref (a 14), .int (L0.1 1), .int (L0.1 2)] below meth c dC dI cy a z A (kI dC dI cy a z A below #[.ref (a 14), .int (L0.1 1), .int (L0.1 2)] s) 5 (y_X0_contains k 2) (fun L => [(0, .ref (a 14)), (1, .int (L.1 1)), (2, .int (L.1 2))]) 46 (fun L => [])) ∧ (bC p l e (headSpec w_y_X0_contains ({ frames := 64, cells := 0, slots := 0, locals := 1788 })).room s m #[.ref (a 14), .int (L0.1 1), .int (L0.1 2)] below meth c dC dI cy a z A (kI dC dI cy a z A below #[.ref (a 14), .int (L0.1 1), .int (L0.1 2)] s) 5 (y_X0_contains k 3) (fun L => [(0, .ref (a 14)), (1, .int (L.1 1)), (2, .int (L.1 2))]) 36 (fun L => [])) ∧ (bC p l e (headSpec w_y_X0_contains ({ frames := 64, cells := 0, slots := 0, locals := 1788 })).room s m #[.ref (a 14), .int (L0.1 1), .int (L0.1 2)] below meth c dC dI cy a z A (kI dC dI cy a z A below #[.ref (a 14), .int (L0.1 1), .int (L0.1 2)] s) 5 (y_X0_contains k 4) (fun L => []) 131 (fun L => [])) ∧ (bC p l e (headSpec w_y_X0_contains ({ frames := 64, cells := 0, slots := 0, locals := 1788 })).room s m #[.ref (a 14), .int (L0.1 1), .int (L0.1 2)] below meth c dC dI cy a z A (kI dC dI cy a z A below #[.ref (a 14), .int (L0.1 1), .int (L0.1 2)] s) 5 (y_X0_contains k 5) (fun L => []) 128 (fun L => [])) ∧ (bC p l e (headSpec w_y_X0_contains ({ frames := 64, cells := 0, slots := 0, locals := 1788 })).room s m #[.ref (a 14), .int (L0.1 1), .int (L0.1 2)] below meth c dC dI cy a z A (kI dC dI cy a z A below #[.ref (a 14), .int (L0.1 1), .int (L0.1 2)] s) 5 (y_X0_contains k 6) (fun L => []) 130 (fun L => [.int (L.1 100)])) ∧ (bC p l e (headSpec w_y_X0_contains ({ frames := 64, cells := 0, slots := 0, locals := 1788 })).room s m #[.ref (a 14), .int (L0.1 1), .int (L0.1 2)] below meth c dC dI cy a z A (kI dC dI cy a z A below #[.ref (a 14), .int (L0.1 1), .int (L0.1 2)] s) 5 (y_X0_contains k 7) (fun L => [(0, .ref (a 14)), (1, .int (L.1 1)), (2, .int (L.1 2)), (3, .int (L.1 3)), (4, .int (L.1 4))]) 51 (fun L => [])) ∧ (bC p l e (headSpec w_y_X0_contains ({ frames := 64, cells := 0, slots := 0, locals := 1788 })).room s m #[.ref (a 14), .int (L0.1 1), .int (L0.1 2)] below meth c dC dI cy a z A (kI dC dI cy a z A below #[.ref (a 14), .int (L0.1 1), .int (L0.1 2)] s) 5 (y_X0_contains k 8) (fun L => [(3, .int (L.1 3))]) 99 (fun L => [])) := by
    intro k
    induction k with
    | zero => exact ⟨fun L σ r h => (by cases h), fun L σ r h => (by cases h), fun L σ r h => (by cases h), fun L σ r h => (by cases h), fun L σ r h => (by cases h), fun L σ r h => (by cases h), fun L σ r h => (by cases h), fun L σ r h => (by cases h), fun L σ r h => (by cases h)⟩
    | succ k ih =>
      refine ⟨?_, ?_, ?_, ?_, ?_, ?_, ?_, ?_, ?_⟩
      · intro L σ r h H locs ls hP hD hS hl
        rw [y_X0_contains] at h
        refine lv_aload_n hx hb dX0_contains_0 rfl (lv_at hl 0 rfl) ?_
        refine hg_14_0 hx hb hts in_y_X0_contains_X0 hown hK hP (hts _ (List.mem_cons_of_mem _ (List.mem_append_left _ (List.mem_append_left _ (List.mem_of_getElem? (i := 0) rfl))))) dX0_contains_1 ?_
        refine lv_iload_n hx hb dX0_contains_4 rfl (lv_at hl 1 rfl) ?_
        obtain ⟨r1, hc1, h⟩ := oc_ex h
        refine kc_i (va_runV (As := [.int (L.1 1)]) (rest := []) ⟨hx, hb, hml, hown, hts⟩ (c_y_X1_kind l dC dI cy a z k (lI lZ 1 ((L.1 1))) σ r1 hc1 H.size) (cwV 1 hts g_y_X0_contains_X1_kind_V87 rfl rfl rfl hd_y_X1_kind ⟨Nat.le_of_ble_eq_true rfl, Nat.le_of_ble_eq_true rfl⟩) ⟨nb_blind, va_recv hK hP (ci := 1) (q0 := 0) rfl rfl, (kb_pre hK hG hP hD)⟩ rfl rfl hl.1 rfl (lv_room (Nat.le_of_ble_eq_true rfl)) dX0_contains_5 ⟨Nat.le_refl _, Nat.le_refl _⟩) hA hP hD hS (fun H locs hP hD hS => ?_)
        by_cases q2 : r1.1 = (4 : Int32)
        · rw [if_pos q2] at h
          refine lv_tableIn (off := 96) (tgt := 104) hx hb dX0_contains_8 (by rw [q2]; decide) (by rw [q2]; decide) (by rw [q2]; decide) (by decide) ?_
          exact ih.2.1 L r1.2 r h H locs ls hP hD hS (lv_sub hl [0, 1, 2] rfl)
        · rw [if_neg q2] at h
          by_cases q3 : r1.1 = (5 : Int32)
          · rw [if_pos q3] at h
            refine lv_tableIn (off := 38) (tgt := 46) hx hb dX0_contains_8 (by rw [q3]; decide) (by rw [q3]; decide) (by rw [q3]; decide) (by decide) ?_
            exact ih.2.2.1 L r1.2 r h H locs ls hP hD hS (lv_sub hl [0, 1, 2] rfl)
          · rw [if_neg q3] at h
            by_cases q4 : r1.1 = (6 : Int32)
            · rw [if_pos q4] at h
              refine lv_tableIn (off := 28) (tgt := 36) hx hb dX0_contains_8 (by rw [q4]; decide) (by rw [q4]; decide) (by rw [q4]; decide) (by decide) ?_
              exact ih.2.2.2.1 L r1.2 r h H locs ls hP hD hS (lv_sub hl [0, 1, 2] rfl)
            · rw [if_neg q4] at h
              have nq2 : ¬ (r1.1).toInt = 4 := nb_ti q2 rfl
              have nq3 : ¬ (r1.1).toInt = 5 := nb_ti q3 rfl
              have nq4 : ¬ (r1.1).toInt = 6 := nb_ti q4 rfl
              refine lv_tableOut (tgt := 131) hx hb dX0_contains_8 (by omega) (by decide) ?_
              exact ih.2.2.2.2.1 L r1.2 r h H locs ls hP hD hS (lv_sub hl [] rfl)
      · intro L σ r h H locs ls hP hD hS hl
        rw [y_X0_contains] at h
        refine lv_aload_n hx hb dX0_contains_104 rfl (lv_at hl 0 rfl) ?_
        refine hg_14_0 hx hb hts in_y_X0_contains_X0 hown hK hP (hts _ (List.mem_cons_of_mem _ (List.mem_append_left _ (List.mem_append_left _ (List.mem_of_getElem? (i := 0) rfl))))) dX0_contains_105 ?_
        refine lv_iload_n hx hb dX0_contains_108 rfl (lv_at hl 2 rfl) ?_
        obtain ⟨r1, hc1, h⟩ := oc_ex h
        refine kc_i (va_runV (As := [.int (L.1 2)]) (rest := []) ⟨hx, hb, hml, hown, hts⟩ (c_y_X1_kind l dC dI cy a z k (lI lZ 1 ((L.1 2))) σ r1 hc1 H.size) (cwV 1 hts g_y_X0_contains_X1_kind_V87 rfl rfl rfl hd_y_X1_kind ⟨Nat.le_of_ble_eq_true rfl, Nat.le_of_ble_eq_true rfl⟩) ⟨nb_blind, va_recv hK hP (ci := 1) (q0 := 0) rfl rfl, (kb_pre hK hG hP hD)⟩ rfl rfl hl.1 rfl (lv_room (Nat.le_of_ble_eq_true rfl)) dX0_contains_109 ⟨Nat.le_refl _, Nat.le_refl _⟩) hA hP hD hS (fun H locs hP hD hS => ?_)
        refine lv_iconst (v := 4) hx hb dX0_contains_112 (by decide) ?_
        refine lv_icmp_ne (tgt := 128) hx hb dX0_contains_113 (by decide) (fun c2 => ?_) (fun c2 => ?_)
        · rw [if_neg c2] at h
          exact ih.2.2.2.2.2.1 L r1.2 r h H locs ls hP hD hS (lv_sub hl [] rfl)
        · rw [if_pos c2] at h
          refine lv_aload_n hx hb dX0_contains_116 rfl (lv_at hl 0 rfl) ?_
          refine lv_iload_n hx hb dX0_contains_117 rfl (lv_at hl 2 rfl) ?_
          refine lv_iload_n hx hb dX0_contains_118 rfl (lv_at hl 1 rfl) ?_
          obtain ⟨r3, hc3, h⟩ := oc_ex h
          refine kc_i (va_runV (As := [.int (L.1 2), .int (L.1 1)]) (rest := []) ⟨hx, hb, hml, hown, hts⟩ (c_y_X0_standsIn l dC dI cy a z k (lI (lI lZ 1 ((L.1 2))) 2 ((L.1 1))) r1.2 r3 hc3 H.size) (cwV 2 hts g_y_X0_contains_X0_standsIn_V168 rfl rfl rfl hd_y_X0_standsIn ⟨Nat.le_of_ble_eq_true rfl, Nat.le_of_ble_eq_true rfl⟩) ⟨nb_blind, va_recv hK hP (ci := 0) (q0 := 14) rfl rfl, (kb_pre hK hG hP hD)⟩ rfl rfl hl.1 rfl (lv_room (Nat.le_of_ble_eq_true rfl)) dX0_contains_119 ⟨Nat.le_refl _, Nat.le_refl _⟩) hA hP hD hS (fun H locs hP hD hS => ?_)
          obtain ⟨r4, hc4, h⟩ := oc_ex h
          refine kc_i (va_runSN (As := [.int r3.1]) (rest := []) ⟨hx, hb, hml, hown, hts⟩ (c_y_X11_truth l dC dI cy a z k (lI lZ 0 r3.1) r3.2 r4 hc4 H.size) ⟨va_cnB 1 hts g_y_X0_contains_X11_truth_SN65 rfl rfl rfl (hG.1 _ (List.mem_of_getElem? (i := 106) rfl)) (hts _ (List.mem_cons_of_mem _ (List.mem_append_left _ (List.mem_append_left _ (List.mem_of_getElem? (i := 9) rfl))))) hd_y_X11_truth ⟨Nat.le_of_ble_eq_true rfl, Nat.le_of_ble_eq_true rfl⟩, (hts _ (List.mem_cons_of_mem _ (List.mem_append_left _ (List.mem_append_left _ (List.mem_of_getElem? (i := 10) rfl))))), trivial⟩ ⟨nb_blind, (kb_pre hK hG hP hD)⟩ rfl rfl hl.1 rfl (lv_room (Nat.le_of_ble_eq_true rfl)) dX0_contains_122 ⟨Nat.le_refl _, Nat.le_refl _⟩) hA hP hD hS (fun H locs hP hD hS => ?_)
          refine lv_goto (tgt := 130) hx hb dX0_contains_125 (by decide) ?_
          exact ih.2.2.2.2.2.2.1 (lI L 100 r4.1) r4.2 r h H locs ls hP hD hS (lv_sub hl [] rfl)
      · intro L σ r h H locs ls hP hD hS hl
        rw [y_X0_contains] at h
        refine lv_iconst (v := 0) hx hb dX0_contains_46 (by decide) ?_
        refine lv_istore_n (lv' := [(3, .int 0), (0, .ref (a 14)), (1, .int (L.1 1)), (2, .int (L.1 2))]) hx hb dX0_contains_47 rfl hl (by decide) rfl (fun ls hl => ?_)
        refine lv_iconst (v := 0) hx hb dX0_contains_48 (by decide) ?_
        refine lv_istore (lv' := [(4, .int 0), (3, .int 0), (0, .ref (a 14)), (1, .int (L.1 1)), (2, .int (L.1 2))]) hx hb dX0_contains_49 hl (by decide) rfl (fun ls hl => ?_)
        exact ih.2.2.2.2.2.2.2.1 (lI (lI L 3 0) 4 0) σ r h H locs ls hP hD hS (lv_sub hl [2, 3, 4, 1, 0] rfl)
      · intro L σ r h H locs ls hP hD hS hl
        rw [y_X0_contains] at h
        refine lv_aload_n hx hb dX0_contains_36 rfl (lv_at hl 0 rfl) ?_
        refine lv_iload_n hx hb dX0_contains_37 rfl (lv_at hl 1 rfl) ?_
        refine lv_iload_n hx hb dX0_contains_38 rfl (lv_at hl 2 rfl) ?_
        obtain ⟨r1, hc1, h⟩ := oc_ex h
        refine kc_i (va_runV (As := [.int (L.1 1), .int (L.1 2)]) (rest := []) ⟨hx, hb, hml, hown, hts⟩ (c_y_X0_holds l dC dI cy a z k (lI (lI lZ 1 ((L.1 1))) 2 ((L.1 2))) σ r1 hc1 H.size) (cwV 2 hts g_y_X0_contains_X0_holds_V164 rfl rfl rfl hd_y_X0_holds ⟨Nat.le_of_ble_eq_true rfl, Nat.le_of_ble_eq_true rfl⟩) ⟨nb_blind, va_recv hK hP (ci := 0) (q0 := 14) rfl rfl, (kb_pre hK hG hP hD)⟩ rfl rfl hl.1 rfl (lv_room (Nat.le_of_ble_eq_true rfl)) dX0_contains_39 ⟨Nat.le_refl _, Nat.le_refl _⟩) hA hP hD hS (fun H locs hP hD hS => ?_)
        obtain ⟨r2, hc2, h⟩ := oc_ex h
        refine kc_i (va_runSN (As := [.int r1.1]) (rest := []) ⟨hx, hb, hml, hown, hts⟩ (c_y_X11_truth l dC dI cy a z k (lI lZ 0 r1.1) r1.2 r2 hc2 H.size) ⟨va_cnB 1 hts g_y_X0_contains_X11_truth_SN65 rfl rfl rfl (hG.1 _ (List.mem_of_getElem? (i := 106) rfl)) (hts _ (List.mem_cons_of_mem _ (List.mem_append_left _ (List.mem_append_left _ (List.mem_of_getElem? (i := 9) rfl))))) hd_y_X11_truth ⟨Nat.le_of_ble_eq_true rfl, Nat.le_of_ble_eq_true rfl⟩, (hts _ (List.mem_cons_of_mem _ (List.mem_append_left _ (List.mem_append_left _ (List.mem_of_getElem? (i := 10) rfl))))), trivial⟩ ⟨nb_blind, (kb_pre hK hG hP hD)⟩ rfl rfl hl.1 rfl (lv_room (Nat.le_of_ble_eq_true rfl)) dX0_contains_42 ⟨Nat.le_refl _, Nat.le_refl _⟩) hA hP hD hS (fun H locs hP hD hS => ?_)
        obtain rfl := Option.some.inj h
        exact W.iret (v := r2.1) hx hb hr (fun t ht hW => ⟨⟨r2.1, (), rfl, rfl, by rw [ht]; exact hP, va_K.moved hW.alike hK, hD⟩, hS.F ht⟩) hS.2.2 dX0_contains_45
      · intro L σ r h H locs ls hP hD hS hl
        rw [y_X0_contains] at h
        refine lv_ldc (v := (-268435455)) hx hb hown (hts _ (List.mem_cons_of_mem _ (List.mem_append_left _ (List.mem_append_left _ (List.mem_of_getElem? (i := 14) rfl))))) dX0_contains_131 ?_
        obtain rfl := Option.some.inj h
        exact W.iret (v := (-268435455)) hx hb hr (fun t ht hW => ⟨⟨(-268435455), (), rfl, rfl, by rw [ht]; exact hP, va_K.moved hW.alike hK, hD⟩, hS.F ht⟩) hS.2.2 dX0_contains_133
      · intro L σ r h H locs ls hP hD hS hl
        rw [y_X0_contains] at h
        refine lv_ldc (v := (-268435455)) hx hb hown (hts _ (List.mem_cons_of_mem _ (List.mem_append_left _ (List.mem_append_left _ (List.mem_of_getElem? (i := 14) rfl))))) dX0_contains_128 ?_
        exact ih.2.2.2.2.2.2.1 (lI L 100 ((-268435455))) σ r h H locs ls hP hD hS (lv_sub hl [] rfl)
      · intro L σ r h H locs ls hP hD hS hl
        rw [y_X0_contains] at h
        obtain rfl := Option.some.inj h
        exact W.iret (v := (L.1 100)) hx hb hr (fun t ht hW => ⟨⟨(L.1 100), (), rfl, rfl, by rw [ht]; exact hP, va_K.moved hW.alike hK, hD⟩, hS.F ht⟩) hS.2.2 dX0_contains_130
      · intro L σ r h H locs ls hP hD hS hl
        rw [y_X0_contains] at h
        refine lv_iload hx hb dX0_contains_51 (lv_at hl 4 rfl) ?_
        refine lv_aload_n hx hb dX0_contains_53 rfl (lv_at hl 0 rfl) ?_
        refine hg_14_0 hx hb hts in_y_X0_contains_X0 hown hK hP (hts _ (List.mem_cons_of_mem _ (List.mem_append_left _ (List.mem_append_left _ (List.mem_of_getElem? (i := 0) rfl))))) dX0_contains_54 ?_
        refine lv_iload_n hx hb dX0_contains_57 rfl (lv_at hl 1 rfl) ?_
        obtain ⟨r1, hc1, h⟩ := oc_ex h
        refine kc_i (va_runV (As := [.int (L.1 1)]) (rest := [.int (L.1 4)]) ⟨hx, hb, hml, hown, hts⟩ (c_y_X1_length l dC dI cy a z k (lI lZ 1 ((L.1 1))) σ r1 hc1 H.size) (cwV 1 hts g_y_X0_contains_X1_length_V100 rfl rfl rfl hd_y_X1_length ⟨Nat.le_of_ble_eq_true rfl, Nat.le_of_ble_eq_true rfl⟩) ⟨nb_blind, va_recv hK hP (ci := 1) (q0 := 0) rfl rfl, (kb_pre hK hG hP hD)⟩ rfl rfl hl.1 rfl (lv_room (Nat.le_of_ble_eq_true rfl)) dX0_contains_58 ⟨Nat.le_refl _, Nat.le_refl _⟩) hA hP hD hS (fun H locs hP hD hS => ?_)
        refine lv_icmp_ge (tgt := 99) hx hb dX0_contains_61 (by decide) (fun c2 => ?_) (fun c2 => ?_)
        · rw [if_pos c2] at h
          exact ih.2.2.2.2.2.2.2.2 L r1.2 r h H locs ls hP hD hS (lv_sub hl [3] rfl)
        · rw [if_neg c2] at h
          refine lv_iload_n hx hb dX0_contains_64 rfl (lv_at hl 3 rfl) ?_
          refine lv_if_ne (tgt := 99) hx hb dX0_contains_65 (by decide) (fun c3 => ?_) (fun c3 => ?_)
          · rw [if_neg c3] at h
            exact ih.2.2.2.2.2.2.2.2 L r1.2 r h H locs ls hP hD hS (lv_sub hl [3] rfl)
          · rw [if_pos c3] at h
            refine lv_iload_n hx hb dX0_contains_68 rfl (lv_at hl 2 rfl) ?_
            refine lv_ldc (v := (-2147483648)) hx hb hown (hts _ (List.mem_cons_of_mem _ (List.mem_append_left _ (List.mem_append_left _ (List.mem_of_getElem? (i := 18) rfl))))) dX0_contains_69 ?_
            refine lv_icmp_eq (tgt := 99) hx hb dX0_contains_71 (by decide) (fun c4 => ?_) (fun c4 => ?_)
            · rw [if_pos c4] at h
              exact ih.2.2.2.2.2.2.2.2 L r1.2 r h H locs ls hP hD hS (lv_sub hl [3] rfl)
            · rw [if_neg c4] at h
              refine lv_aload_n hx hb dX0_contains_74 rfl (lv_at hl 0 rfl) ?_
              refine hg_14_0 hx hb hts in_y_X0_contains_X0 hown hK hP (hts _ (List.mem_cons_of_mem _ (List.mem_append_left _ (List.mem_append_left _ (List.mem_of_getElem? (i := 0) rfl))))) dX0_contains_75 ?_
              refine lv_aload_n hx hb dX0_contains_78 rfl (lv_at hl 0 rfl) ?_
              refine hg_14_0 hx hb hts in_y_X0_contains_X0 hown hK hP (hts _ (List.mem_cons_of_mem _ (List.mem_append_left _ (List.mem_append_left _ (List.mem_of_getElem? (i := 0) rfl))))) dX0_contains_79 ?_
              refine lv_iload_n hx hb dX0_contains_82 rfl (lv_at hl 1 rfl) ?_
              refine lv_iload hx hb dX0_contains_83 (lv_at hl 4 rfl) ?_
              obtain ⟨r5, hc5, h⟩ := oc_ex h
              refine kc_i (va_runV (As := [.int (L.1 1), .int (L.1 4)]) (rest := [.ref (a 0)]) ⟨hx, hb, hml, hown, hts⟩ (c_y_X1_member l dC dI cy a z k (lI (lI lZ 1 ((L.1 1))) 2 ((L.1 4))) r1.2 r5 hc5 H.size) (cwV 2 hts g_y_X0_contains_X1_member_V154 rfl rfl rfl hd_y_X1_member ⟨Nat.le_of_ble_eq_true rfl, Nat.le_of_ble_eq_true rfl⟩) ⟨nb_blind, va_recv hK hP (ci := 1) (q0 := 0) rfl rfl, (kb_pre hK hG hP hD)⟩ rfl rfl hl.1 rfl (lv_room (Nat.le_of_ble_eq_true rfl)) dX0_contains_85 ⟨Nat.le_refl _, Nat.le_refl _⟩) hA hP hD hS (fun H locs hP hD hS => ?_)
              refine lv_iload_n hx hb dX0_contains_88 rfl (lv_at hl 2 rfl) ?_
              obtain ⟨r6, hc6, h⟩ := oc_ex h
              refine kc_i (va_runV (As := [.int r5.1, .int (L.1 2)]) (rest := []) ⟨hx, hb, hml, hown, hts⟩ (c_y_X1_same l dC dI cy a z k (lI (lI lZ 1 r5.1) 2 ((L.1 2))) r5.2 r6 hc6 H.size) (cwV 2 hts g_y_X0_contains_X1_same_V60 rfl rfl rfl hd_y_X1_same ⟨Nat.le_of_ble_eq_true rfl, Nat.le_of_ble_eq_true rfl⟩) ⟨nb_blind, va_recv hK hP (ci := 1) (q0 := 0) rfl rfl, (kb_pre hK hG hP hD)⟩ rfl rfl hl.1 rfl (lv_room (Nat.le_of_ble_eq_true rfl)) dX0_contains_89 ⟨Nat.le_refl _, Nat.le_refl _⟩) hA hP hD hS (fun H locs hP hD hS => ?_)
              refine lv_istore_n (lv' := [(3, .int r6.1), (0, .ref (a 14)), (1, .int (L.1 1)), (2, .int (L.1 2)), (4, .int (L.1 4))]) hx hb dX0_contains_92 rfl hl (by decide) rfl (fun ls hl => ?_)
              refine lv_iinc (v := ((L.1 4)) + 1) (lv' := [(4, .int (((L.1 4)) + 1)), (3, .int r6.1), (0, .ref (a 14)), (1, .int (L.1 1)), (2, .int (L.1 2))]) hx hb dX0_contains_93 hl (k := 4) rfl rfl (by decide) rfl (fun ls hl => ?_)
              refine lv_goto (tgt := 51) hx hb dX0_contains_96 (by decide) ?_
              exact ih.2.2.2.2.2.2.2.1 (lI (lI L 3 r6.1) 4 ((((L.1 4)) + 1))) r6.2 r h H locs ls hP hD hS (lv_sub hl [2, 3, 4, 1, 0] rfl)
      · intro L σ r h H locs ls hP hD hS hl
        rw [y_X0_contains] at h
        refine lv_iload_n hx hb dX0_contains_99 rfl (lv_at hl 0 rfl) ?_
        obtain ⟨r1, hc1, h⟩ := oc_ex h
        refine kc_i (va_runSN (As := [.int (L.1 3)]) (rest := []) ⟨hx, hb, hml, hown, hts⟩ (c_y_X11_truth l dC dI cy a z k (lI lZ 0 ((L.1 3))) σ r1 hc1 H.size) ⟨va_cnB 1 hts g_y_X0_contains_X11_truth_SN65 rfl rfl rfl (hG.1 _ (List.mem_of_getElem? (i := 106) rfl)) (hts _ (List.mem_cons_of_mem _ (List.mem_append_left _ (List.mem_append_left _ (List.mem_of_getElem? (i := 9) rfl))))) hd_y_X11_truth ⟨Nat.le_of_ble_eq_true rfl, Nat.le_of_ble_eq_true rfl⟩, (hts _ (List.mem_cons_of_mem _ (List.mem_append_left _ (List.mem_append_left _ (List.mem_of_getElem? (i := 10) rfl))))), trivial⟩ ⟨nb_blind, (kb_pre hK hG hP hD)⟩ rfl rfl hl.1 rfl (lv_room (Nat.le_of_ble_eq_true rfl)) dX0_contains_100 ⟨Nat.le_refl _, Nat.le_refl _⟩) hA hP hD hS (fun H locs hP hD hS => ?_)
        obtain rfl := Option.some.inj h
        exact W.iret (v := r1.1) hx hb hr (fun t ht hW => ⟨⟨r1.1, (), rfl, rfl, by rw [ht]; exact hP, va_K.moved hW.alike hK, hD⟩, hS.F ht⟩) hS.2.2 dX0_contains_103
  exact (blk k0).1 L0 σ0 r0 h0 s.heap [] ls hP hD hS hl
/-! X0_isSubset -/
def y_X0_isSubset : Nat → Nat → LV → CS → Option (Int32 × CS)
  | 0, _, _, _ => none
  | k + 1, 0, L, σ => oc (y_X1_length k 0 (lI lZ 1 ((L.1 1))) σ) (fun r1 => oc (y_X1_length k 0 (lI lZ 1 ((L.1 2))) r1.2) (fun r2 => if r2.1 < r1.1 then (y_X0_isSubset k 1 L r2.2) else (y_X0_isSubset k 2 (lI L 100 1) r2.2)))
  | k + 1, 1, L, σ => y_X0_isSubset k 2 (lI L 100 0) σ
  | k + 1, 2, L, σ => y_X0_isSubset k 3 (lI (lI L 3 ((L.1 100))) 4 0) σ
  | k + 1, 3, L, σ => oc (y_X1_length k 0 (lI lZ 1 ((L.1 1))) σ) (fun r1 => if r1.1 ≤ ((L.1 4)) then (y_X0_isSubset k 4 L r1.2) else (if ((L.1 3)) = 0 then (y_X0_isSubset k 4 L r1.2) else (oc (y_X1_member k 0 (lI (lI lZ 1 ((L.1 1))) 2 ((L.1 4))) r1.2) (fun r4 => oc (y_X0_holds k 0 (lI (lI lZ 1 ((L.1 2))) 2 r4.1) r4.2) (fun r5 => y_X0_isSubset k 3 (lI (lI L 3 r5.1) 4 ((((L.1 4)) + 1))) r5.2)))))
  | k + 1, 4, L, σ => if ((L.1 3)) = 0 ∨ ((L.1 3)) = 1 then some ((L.1 3), σ) else none
  | _ + 1, _ + 5, _, _ => none
def o_y_X0_isSubset : List Cond := [.fieldLink RX0 22 "SetHouse$Algebra" "heap" "LSetHouse$Heap;", .methodLink RX0 100 yX1_length, .instanceMethod yX1_length, .selects RX1 yX1_length yX1_length, .initialized RX1, .methodLink RX0 154 yX1_member, .instanceMethod yX1_member, .selects RX1 yX1_member yX1_member, .methodLink RX0 164 yX0_holds, .instanceMethod yX0_holds, .selects RX0 yX0_holds yX0_holds, .initialized RX0]
theorem o_y_X0_isSubset_good : o_y_X0_isSubset.all goodWord = true := by decide +kernel
def p_y_X0_isSubset : List Cond := o_y_X0_isSubset ++ ((.code yX1_length cX1_length 2 (some .int) :: p_y_X1_length) ++ ((.code yX1_member cX1_member 3 (some .int) :: p_y_X1_member) ++ ((.code yX0_holds cX0_holds 4 (some .boolean) :: p_y_X0_holds) ++ [])))
theorem p_y_X0_isSubset_good : p_y_X0_isSubset.all goodWord = true := nb_all2 o_y_X0_isSubset_good (nb_all2 (nb_allc (by decide +kernel) p_y_X1_length_good) (nb_all2 (nb_allc (by decide +kernel) p_y_X1_member_good) (nb_all2 (nb_allc (by decide +kernel) p_y_X0_holds_good) rfl)))
def w_y_X0_isSubset : List Cond := .code yX0_isSubset cX0_isSubset 5 (some .boolean) :: (p_y_X0_isSubset ++ fC)
theorem w_y_X0_isSubset_good : w_y_X0_isSubset.all goodWord = true := nb_allc (by decide +kernel) (nb_all2 p_y_X0_isSubset_good fC_good)
theorem in_y_X0_isSubset_X0 : ∀ w ∈ wsX00, w ∈ w_y_X0_isSubset := fun _ h => List.mem_cons_of_mem _ (List.mem_append_right _ (List.mem_append_left _ h))
theorem hd_y_X0_isSubset : yX0_isSubset.cls = RX0 ∧ yX0_isSubset.cls ≠ "java/lang/invoke/MethodHandle" ∧ yX0_isSubset.cls ≠ "java/lang/invoke/VarHandle" ∧ (parseMethodDescriptor yX0_isSubset.desc).map (fun d => d.parameters.length) = some 2 := by decide +kernel
theorem gg_y_X0_isSubset_X0_holds : GoodIn w_y_X0_isSubset w_y_X0_holds := goodIn_sub (fun w h => (List.mem_cons.mp h).elim (fun e => (List.mem_cons_of_mem _ (List.mem_append_left _ (List.mem_append_right _ (List.mem_append_right _ (List.mem_append_right _ (List.mem_append_left _ (List.mem_cons.mpr (Or.inl e))))))))) (fun h => (List.mem_append.mp h).elim (fun h => (List.mem_cons_of_mem _ (List.mem_append_left _ (List.mem_append_right _ (List.mem_append_right _ (List.mem_append_right _ (List.mem_append_left _ (List.mem_cons_of_mem _ h)))))))) (fun h => List.mem_cons_of_mem _ (List.mem_append_right _ h)))) w_y_X0_holds_good
theorem g_y_X0_isSubset_X0_holds_V164 : GoodIn w_y_X0_isSubset (wsV RX0 164 RX0 yX0_holds w_y_X0_holds) := goodIn_app (nb_g4 (List.mem_cons_of_mem _ (List.mem_append_left _ (List.mem_append_left _ (List.mem_of_getElem? (i := 8) rfl)))) (List.mem_cons_of_mem _ (List.mem_append_left _ (List.mem_append_left _ (List.mem_of_getElem? (i := 9) rfl)))) (List.mem_cons_of_mem _ (List.mem_append_left _ (List.mem_append_left _ (List.mem_of_getElem? (i := 10) rfl)))) (List.mem_cons_of_mem _ (List.mem_append_left _ (List.mem_append_left _ (List.mem_of_getElem? (i := 11) rfl)))) (by decide +kernel)) gg_y_X0_isSubset_X0_holds
theorem gg_y_X0_isSubset_X1_length : GoodIn w_y_X0_isSubset w_y_X1_length := goodIn_sub (fun w h => (List.mem_cons.mp h).elim (fun e => (List.mem_cons_of_mem _ (List.mem_append_left _ (List.mem_append_right _ (List.mem_append_left _ (List.mem_cons.mpr (Or.inl e))))))) (fun h => (List.mem_append.mp h).elim (fun h => (List.mem_cons_of_mem _ (List.mem_append_left _ (List.mem_append_right _ (List.mem_append_left _ (List.mem_cons_of_mem _ h)))))) (fun h => List.mem_cons_of_mem _ (List.mem_append_right _ h)))) w_y_X1_length_good
theorem g_y_X0_isSubset_X1_length_V100 : GoodIn w_y_X0_isSubset (wsV RX0 100 RX1 yX1_length w_y_X1_length) := goodIn_app (nb_g4 (List.mem_cons_of_mem _ (List.mem_append_left _ (List.mem_append_left _ (List.mem_of_getElem? (i := 1) rfl)))) (List.mem_cons_of_mem _ (List.mem_append_left _ (List.mem_append_left _ (List.mem_of_getElem? (i := 2) rfl)))) (List.mem_cons_of_mem _ (List.mem_append_left _ (List.mem_append_left _ (List.mem_of_getElem? (i := 3) rfl)))) (List.mem_cons_of_mem _ (List.mem_append_left _ (List.mem_append_left _ (List.mem_of_getElem? (i := 4) rfl)))) (by decide +kernel)) gg_y_X0_isSubset_X1_length
theorem gg_y_X0_isSubset_X1_member : GoodIn w_y_X0_isSubset w_y_X1_member := goodIn_sub (fun w h => (List.mem_cons.mp h).elim (fun e => (List.mem_cons_of_mem _ (List.mem_append_left _ (List.mem_append_right _ (List.mem_append_right _ (List.mem_append_left _ (List.mem_cons.mpr (Or.inl e)))))))) (fun h => (List.mem_append.mp h).elim (fun h => (List.mem_cons_of_mem _ (List.mem_append_left _ (List.mem_append_right _ (List.mem_append_right _ (List.mem_append_left _ (List.mem_cons_of_mem _ h))))))) (fun h => List.mem_cons_of_mem _ (List.mem_append_right _ h)))) w_y_X1_member_good
theorem g_y_X0_isSubset_X1_member_V154 : GoodIn w_y_X0_isSubset (wsV RX0 154 RX1 yX1_member w_y_X1_member) := goodIn_app (nb_g4 (List.mem_cons_of_mem _ (List.mem_append_left _ (List.mem_append_left _ (List.mem_of_getElem? (i := 5) rfl)))) (List.mem_cons_of_mem _ (List.mem_append_left _ (List.mem_append_left _ (List.mem_of_getElem? (i := 6) rfl)))) (List.mem_cons_of_mem _ (List.mem_append_left _ (List.mem_append_left _ (List.mem_of_getElem? (i := 7) rfl)))) (List.mem_cons_of_mem _ (List.mem_append_left _ (List.mem_append_left _ (List.mem_of_getElem? (i := 4) rfl)))) (by decide +kernel)) gg_y_X0_isSubset_X1_member
set_option maxHeartbeats 40000000 in
set_option maxRecDepth 100000 in
theorem c_y_X0_isSubset (l : Launch) (dC : Nat → ClassId) (dI : Nat → Nat → Nat) (cy : Nat → ClassId) (a z : Nat → Nat) (k0 : Nat) (L0 : LV) (σ0 : CS) (r0 : Int32 × CS) (h0 : y_X0_isSubset k0 0 L0 σ0 = some r0) (sz : Nat) : Met l yX0_isSubset w_y_X0_isSubset ({ frames := 64, cells := 0, slots := 0, locals := 1788 }) (va_Pc [.ref (a 14), .int (L0.1 1), .int (L0.1 2)] (nIn (dC, dI) cy sz (vC cy a z σ0))) (va_Qi (fun (x : Int32) (_ : Unit) => x = r0.1) (fun _ t => nOut (dC, dI) cy (va_A (vC cy a z σ0) sz) (vC cy a z r0.2) t) (va_A (vC cy a z σ0) sz)) 0 0 (va_A (vC cy a z σ0) sz) := by
  refine Met.ofW (cc := cX0_isSubset) (maxL := 5) (ret := (some .boolean)) (by decide) rfl ?_
  intro p e s m args below meth c s₁ B hml hv
  obtain ⟨rfl, hsz, hP, hK, hD0, hG⟩ := hv
  have hx := B.exec
  have hb := B.bytes
  have hr := B.returns
  have hts := atoms_spec (ws := w_y_X0_isSubset) B.pre
  have hown : s.vm.findClass RX0 = some m.cls := findClass_of_methodNamed B.named
  have hlocks := B.notSynchronized
  subst hsz
  have hD := hD0.self (sz := s.heap.size)
  generalize hAe : va_A (vC cy a z σ0) s.heap.size = A at hD ⊢
  have hA : ∀ q : Nat, s.heap.size ≤ q → A q := fun q h => by rw [← hAe]; exact Or.inr h
  have hS : va_S A s.heap s.heap [] := va_S.rf
  have hl := lv_entry ([.ref (a 14), .int (L0.1 1), .int (L0.1 2)]) (n := 5) (Nat.le_of_ble_eq_true rfl)
  rw [lg_entry_eq]
  generalize (lg_sl ([.ref (a 14), .int (L0.1 1), .int (L0.1 2)]) ++ List.replicate (5 - (lg_sl ([.ref (a 14), .int (L0.1 1), .int (L0.1 2)])).length) Slot.unset).toArray = ls at hl ⊢
  have hl : lv_has ls 5 [(0, .ref (a 14)), (1, .int (L0.1 1)), (2, .int (L0.1 2))] := hl
  have blk : ∀ k : Nat, (bC p l e (headSpec w_y_X0_isSubset ({ frames := 64, cells := 0, slots := 0, locals := 1788 })).room s m #[.ref (a 14), .int (L0.1 1), .int (L0.1 2)] below meth c dC dI cy a z A (kI dC dI cy a z A below #[.ref (a 14), .int (L0.1 1), .int (L0.1 2)] s) 5 (y_X0_isSubset k 0) (fun L => [(0, .ref (a 14)), (1, .int (L.1 1)), (2, .int (L.1 2))]) 0 (fun L => [])) ∧ (bC p l e (headSpec w_y_X0_isSubset ({ frames := 64, cells := 0, slots := 0, locals := 1788 })).room s m #[.ref (a 14), .int (L0.1 1), .int (L0.1 2)] below meth c dC dI cy a z A (kI dC dI cy a z A below #[.ref (a 14), .int (L0.1 1), .int (L0.1 2)] s) 5 (y_X0_isSubset k 1) (fun L => [(0, .ref (a 14)), (1, .int (L.1 1)), (2, .int (L.1 2))]) 23 (fun L => [])) ∧ (bC p l e (headSpec w_y_X0_isSubset ({ frames := 64, cells := 0, slots := 0, locals := 1788 })).room s m #[.ref (a 14), .int (L0.1 1), .int (L0.1 2)] below meth c dC dI cy a z A (kI dC dI cy a z A below #[.ref (a 14), .int (L0.1 1), .int (L0.1 2)] s) 5 (y_X0_isSubset k 2) (fun L => [(0, .ref (a 14)), (1, .int (L.1 1)), (2, .int (L.1 2))]) 24 (fun L => [.int (L.1 100)])) ∧ (bC p l e (headSpec w_y_X0_isSubset ({ frames := 64, cells := 0, slots := 0, locals := 1788 })).room s m #[.ref (a 14), .int (L0.1 1), .int (L0.1 2)] below meth c dC dI cy a z A (kI dC dI cy a z A below #[.ref (a 14), .int (L0.1 1), .int (L0.1 2)] s) 5 (y_X0_isSubset k 3) (fun L => [(0, .ref (a 14)), (1, .int (L.1 1)), (2, .int (L.1 2)), (3, .int (L.1 3)), (4, .int (L.1 4))]) 28 (fun L => [])) ∧ (bC p l e (headSpec w_y_X0_isSubset ({ frames := 64, cells := 0, slots := 0, locals := 1788 })).room s m #[.ref (a 14), .int (L0.1 1), .int (L0.1 2)] below meth c dC dI cy a z A (kI dC dI cy a z A below #[.ref (a 14), .int (L0.1 1), .int (L0.1 2)] s) 5 (y_X0_isSubset k 4) (fun L => [(3, .int (L.1 3))]) 67 (fun L => [])) := by
    intro k
    induction k with
    | zero => exact ⟨fun L σ r h => (by cases h), fun L σ r h => (by cases h), fun L σ r h => (by cases h), fun L σ r h => (by cases h), fun L σ r h => (by cases h)⟩
    | succ k ih =>
      refine ⟨?_, ?_, ?_, ?_, ?_⟩
      · intro L σ r h H locs ls hP hD hS hl
        rw [y_X0_isSubset] at h
        refine lv_aload_n hx hb dX0_isSubset_0 rfl (lv_at hl 0 rfl) ?_
        refine hg_14_0 hx hb hts in_y_X0_isSubset_X0 hown hK hP (hts _ (List.mem_cons_of_mem _ (List.mem_append_left _ (List.mem_append_left _ (List.mem_of_getElem? (i := 0) rfl))))) dX0_isSubset_1 ?_
        refine lv_iload_n hx hb dX0_isSubset_4 rfl (lv_at hl 1 rfl) ?_
        obtain ⟨r1, hc1, h⟩ := oc_ex h
        refine kc_i (va_runV (As := [.int (L.1 1)]) (rest := []) ⟨hx, hb, hml, hown, hts⟩ (c_y_X1_length l dC dI cy a z k (lI lZ 1 ((L.1 1))) σ r1 hc1 H.size) (cwV 1 hts g_y_X0_isSubset_X1_length_V100 rfl rfl rfl hd_y_X1_length ⟨Nat.le_of_ble_eq_true rfl, Nat.le_of_ble_eq_true rfl⟩) ⟨nb_blind, va_recv hK hP (ci := 1) (q0 := 0) rfl rfl, (kb_pre hK hG hP hD)⟩ rfl rfl hl.1 rfl (lv_room (Nat.le_of_ble_eq_true rfl)) dX0_isSubset_5 ⟨Nat.le_refl _, Nat.le_refl _⟩) hA hP hD hS (fun H locs hP hD hS => ?_)
        refine lv_aload_n hx hb dX0_isSubset_8 rfl (lv_at hl 0 rfl) ?_
        refine hg_14_0 hx hb hts in_y_X0_isSubset_X0 hown hK hP (hts _ (List.mem_cons_of_mem _ (List.mem_append_left _ (List.mem_append_left _ (List.mem_of_getElem? (i := 0) rfl))))) dX0_isSubset_9 ?_
        refine lv_iload_n hx hb dX0_isSubset_12 rfl (lv_at hl 2 rfl) ?_
        obtain ⟨r2, hc2, h⟩ := oc_ex h
        refine kc_i (va_runV (As := [.int (L.1 2)]) (rest := [.int r1.1]) ⟨hx, hb, hml, hown, hts⟩ (c_y_X1_length l dC dI cy a z k (lI lZ 1 ((L.1 2))) r1.2 r2 hc2 H.size) (cwV 1 hts g_y_X0_isSubset_X1_length_V100 rfl rfl rfl hd_y_X1_length ⟨Nat.le_of_ble_eq_true rfl, Nat.le_of_ble_eq_true rfl⟩) ⟨nb_blind, va_recv hK hP (ci := 1) (q0 := 0) rfl rfl, (kb_pre hK hG hP hD)⟩ rfl rfl hl.1 rfl (lv_room (Nat.le_of_ble_eq_true rfl)) dX0_isSubset_13 ⟨Nat.le_refl _, Nat.le_refl _⟩) hA hP hD hS (fun H locs hP hD hS => ?_)
        refine lv_icmp_gt (tgt := 23) hx hb dX0_isSubset_16 (by decide) (fun c3 => ?_) (fun c3 => ?_)
        · rw [if_pos c3] at h
          exact ih.2.1 L r2.2 r h H locs ls hP hD hS (lv_sub hl [0, 1, 2] rfl)
        · rw [if_neg c3] at h
          refine lv_iconst (v := 1) hx hb dX0_isSubset_19 (by decide) ?_
          refine lv_goto (tgt := 24) hx hb dX0_isSubset_20 (by decide) ?_
          exact ih.2.2.1 (lI L 100 1) r2.2 r h H locs ls hP hD hS (lv_sub hl [0, 1, 2] rfl)
      · intro L σ r h H locs ls hP hD hS hl
        rw [y_X0_isSubset] at h
        refine lv_iconst (v := 0) hx hb dX0_isSubset_23 (by decide) ?_
        exact ih.2.2.1 (lI L 100 0) σ r h H locs ls hP hD hS (lv_sub hl [0, 1, 2] rfl)
      · intro L σ r h H locs ls hP hD hS hl
        rw [y_X0_isSubset] at h
        refine lv_istore_n (lv' := [(3, .int (L.1 100)), (0, .ref (a 14)), (1, .int (L.1 1)), (2, .int (L.1 2))]) hx hb dX0_isSubset_24 rfl hl (by decide) rfl (fun ls hl => ?_)
        refine lv_iconst (v := 0) hx hb dX0_isSubset_25 (by decide) ?_
        refine lv_istore (lv' := [(4, .int 0), (3, .int (L.1 100)), (0, .ref (a 14)), (1, .int (L.1 1)), (2, .int (L.1 2))]) hx hb dX0_isSubset_26 hl (by decide) rfl (fun ls hl => ?_)
        exact ih.2.2.2.1 (lI (lI L 3 ((L.1 100))) 4 0) σ r h H locs ls hP hD hS (lv_sub hl [2, 3, 4, 1, 0] rfl)
      · intro L σ r h H locs ls hP hD hS hl
        rw [y_X0_isSubset] at h
        refine lv_iload hx hb dX0_isSubset_28 (lv_at hl 4 rfl) ?_
        refine lv_aload_n hx hb dX0_isSubset_30 rfl (lv_at hl 0 rfl) ?_
        refine hg_14_0 hx hb hts in_y_X0_isSubset_X0 hown hK hP (hts _ (List.mem_cons_of_mem _ (List.mem_append_left _ (List.mem_append_left _ (List.mem_of_getElem? (i := 0) rfl))))) dX0_isSubset_31 ?_
        refine lv_iload_n hx hb dX0_isSubset_34 rfl (lv_at hl 1 rfl) ?_
        obtain ⟨r1, hc1, h⟩ := oc_ex h
        refine kc_i (va_runV (As := [.int (L.1 1)]) (rest := [.int (L.1 4)]) ⟨hx, hb, hml, hown, hts⟩ (c_y_X1_length l dC dI cy a z k (lI lZ 1 ((L.1 1))) σ r1 hc1 H.size) (cwV 1 hts g_y_X0_isSubset_X1_length_V100 rfl rfl rfl hd_y_X1_length ⟨Nat.le_of_ble_eq_true rfl, Nat.le_of_ble_eq_true rfl⟩) ⟨nb_blind, va_recv hK hP (ci := 1) (q0 := 0) rfl rfl, (kb_pre hK hG hP hD)⟩ rfl rfl hl.1 rfl (lv_room (Nat.le_of_ble_eq_true rfl)) dX0_isSubset_35 ⟨Nat.le_refl _, Nat.le_refl _⟩) hA hP hD hS (fun H locs hP hD hS => ?_)
        refine lv_icmp_ge (tgt := 67) hx hb dX0_isSubset_38 (by decide) (fun c2 => ?_) (fun c2 => ?_)
        · rw [if_pos c2] at h
          exact ih.2.2.2.2 L r1.2 r h H locs ls hP hD hS (lv_sub hl [3] rfl)
        · rw [if_neg c2] at h
          refine lv_iload_n hx hb dX0_isSubset_41 rfl (lv_at hl 3 rfl) ?_
          refine lv_if_eq (tgt := 67) hx hb dX0_isSubset_42 (by decide) (fun c3 => ?_) (fun c3 => ?_)
          · rw [if_pos c3] at h
            exact ih.2.2.2.2 L r1.2 r h H locs ls hP hD hS (lv_sub hl [3] rfl)
          · rw [if_neg c3] at h
            refine lv_aload_n hx hb dX0_isSubset_45 rfl (lv_at hl 0 rfl) ?_
            refine lv_iload_n hx hb dX0_isSubset_46 rfl (lv_at hl 2 rfl) ?_
            refine lv_aload_n hx hb dX0_isSubset_47 rfl (lv_at hl 0 rfl) ?_
            refine hg_14_0 hx hb hts in_y_X0_isSubset_X0 hown hK hP (hts _ (List.mem_cons_of_mem _ (List.mem_append_left _ (List.mem_append_left _ (List.mem_of_getElem? (i := 0) rfl))))) dX0_isSubset_48 ?_
            refine lv_iload_n hx hb dX0_isSubset_51 rfl (lv_at hl 1 rfl) ?_
            refine lv_iload hx hb dX0_isSubset_52 (lv_at hl 4 rfl) ?_
            obtain ⟨r4, hc4, h⟩ := oc_ex h
            refine kc_i (va_runV (As := [.int (L.1 1), .int (L.1 4)]) (rest := [.int (L.1 2), .ref (a 14)]) ⟨hx, hb, hml, hown, hts⟩ (c_y_X1_member l dC dI cy a z k (lI (lI lZ 1 ((L.1 1))) 2 ((L.1 4))) r1.2 r4 hc4 H.size) (cwV 2 hts g_y_X0_isSubset_X1_member_V154 rfl rfl rfl hd_y_X1_member ⟨Nat.le_of_ble_eq_true rfl, Nat.le_of_ble_eq_true rfl⟩) ⟨nb_blind, va_recv hK hP (ci := 1) (q0 := 0) rfl rfl, (kb_pre hK hG hP hD)⟩ rfl rfl hl.1 rfl (lv_room (Nat.le_of_ble_eq_true rfl)) dX0_isSubset_54 ⟨Nat.le_refl _, Nat.le_refl _⟩) hA hP hD hS (fun H locs hP hD hS => ?_)
            obtain ⟨r5, hc5, h⟩ := oc_ex h
            refine kc_i (va_runV (As := [.int (L.1 2), .int r4.1]) (rest := []) ⟨hx, hb, hml, hown, hts⟩ (c_y_X0_holds l dC dI cy a z k (lI (lI lZ 1 ((L.1 2))) 2 r4.1) r4.2 r5 hc5 H.size) (cwV 2 hts g_y_X0_isSubset_X0_holds_V164 rfl rfl rfl hd_y_X0_holds ⟨Nat.le_of_ble_eq_true rfl, Nat.le_of_ble_eq_true rfl⟩) ⟨nb_blind, va_recv hK hP (ci := 0) (q0 := 14) rfl rfl, (kb_pre hK hG hP hD)⟩ rfl rfl hl.1 rfl (lv_room (Nat.le_of_ble_eq_true rfl)) dX0_isSubset_57 ⟨Nat.le_refl _, Nat.le_refl _⟩) hA hP hD hS (fun H locs hP hD hS => ?_)
            refine lv_istore_n (lv' := [(3, .int r5.1), (0, .ref (a 14)), (1, .int (L.1 1)), (2, .int (L.1 2)), (4, .int (L.1 4))]) hx hb dX0_isSubset_60 rfl hl (by decide) rfl (fun ls hl => ?_)
            refine lv_iinc (v := ((L.1 4)) + 1) (lv' := [(4, .int (((L.1 4)) + 1)), (3, .int r5.1), (0, .ref (a 14)), (1, .int (L.1 1)), (2, .int (L.1 2))]) hx hb dX0_isSubset_61 hl (k := 4) rfl rfl (by decide) rfl (fun ls hl => ?_)
            refine lv_goto (tgt := 28) hx hb dX0_isSubset_64 (by decide) ?_
            exact ih.2.2.2.1 (lI (lI L 3 r5.1) 4 ((((L.1 4)) + 1))) r5.2 r h H locs ls hP hD hS (lv_sub hl [2, 3, 4, 1, 0] rfl)
      · intro L σ r h H locs ls hP hD hS hl
        rw [y_X0_isSubset] at h
        refine lv_iload_n hx hb dX0_isSubset_67 rfl (lv_at hl 0 rfl) ?_
        obtain ⟨q1, h⟩ := kb_ite1 h
        obtain rfl := Option.some.inj h
        exact W.zret (v := (L.1 3)) hx hb hr (nb_bz q1) (fun t ht hW => ⟨⟨(L.1 3), (), rfl, rfl, by rw [ht]; exact hP, va_K.moved hW.alike hK, hD⟩, hS.F ht⟩) hS.2.2 dX0_isSubset_68
  exact (blk k0).1 L0 σ0 r0 h0 s.heap [] ls hP hD hS hl
/-! X0_compared -/
def y_X0_compared : Nat → Nat → LV → CS → Option (Int32 × CS)
  | 0, _, _, _ => none
  | k + 1, 0, L, σ => oc (y_X1_kind k 0 (lI lZ 1 ((L.1 2))) σ) (fun r1 => oc (y_X1_kind k 0 (lI lZ 1 ((L.1 3))) r1.2) (fun r2 => if r1.1 = r2.1 then (if r1.1 = 2 then (y_X0_compared k 2 L r2.2) else (if r1.1 = 4 then (y_X0_compared k 2 L r2.2) else (y_X0_compared k 1 L r2.2))) else (y_X0_compared k 1 L r2.2)))
  | k + 1, 1, L, σ => some ((-268435455), σ)
  | k + 1, 2, L, σ => oc (y_X1_compare k 0 (lI (lI lZ 1 ((L.1 2))) 2 ((L.1 3))) σ) (fun r1 => if ((L.1 1)) = (136 : Int32) then (y_X0_compared k 3 (lI L 5 r1.1) r1.2) else (if ((L.1 1)) = (137 : Int32) then (y_X0_compared k 4 (lI L 5 r1.1) r1.2) else (if ((L.1 1)) = (138 : Int32) then (y_X0_compared k 5 (lI L 5 r1.1) r1.2) else (y_X0_compared k 6 (lI L 5 r1.1) r1.2))))
  | k + 1, 3, L, σ => if 0 ≤ ((L.1 5)) then (y_X0_compared k 7 L σ) else (y_X0_compared k 8 (lI L 100 1) σ)
  | k + 1, 4, L, σ => if 0 < ((L.1 5)) then (y_X0_compared k 9 L σ) else (y_X0_compared k 10 (lI L 100 1) σ)
  | k + 1, 5, L, σ => if ((L.1 5)) ≤ 0 then (y_X0_compared k 11 L σ) else (y_X0_compared k 12 (lI L 100 1) σ)
  | k + 1, 6, L, σ => if ((L.1 5)) < 0 then (y_X0_compared k 13 L σ) else (y_X0_compared k 14 (lI L 100 1) σ)
  | k + 1, 7, L, σ => y_X0_compared k 8 (lI L 100 0) σ
  | k + 1, 8, L, σ => oc (y_X11_truth k 0 (lI lZ 0 ((L.1 100))) σ) (fun r1 => some (r1.1, r1.2))
  | k + 1, 9, L, σ => y_X0_compared k 10 (lI L 100 0) σ
  | k + 1, 10, L, σ => oc (y_X11_truth k 0 (lI lZ 0 ((L.1 100))) σ) (fun r1 => some (r1.1, r1.2))
  | k + 1, 11, L, σ => y_X0_compared k 12 (lI L 100 0) σ
  | k + 1, 12, L, σ => oc (y_X11_truth k 0 (lI lZ 0 ((L.1 100))) σ) (fun r1 => some (r1.1, r1.2))
  | k + 1, 13, L, σ => y_X0_compared k 14 (lI L 100 0) σ
  | k + 1, 14, L, σ => oc (y_X11_truth k 0 (lI lZ 0 ((L.1 100))) σ) (fun r1 => some (r1.1, r1.2))
  | _ + 1, _ + 15, _, _ => none
def o_y_X0_compared : List Cond := [.fieldLink RX0 22 "SetHouse$Algebra" "heap" "LSetHouse$Heap;", .methodLink RX0 87 yX1_kind, .instanceMethod yX1_kind, .selects RX1 yX1_kind yX1_kind, .initialized RX1, .constant RX0 56 (-268435455), .methodLink RX0 91 yX1_compare, .instanceMethod yX1_compare, .selects RX1 yX1_compare yX1_compare, .initialized RX11, .static yX11_truth]
theorem o_y_X0_compared_good : o_y_X0_compared.all goodWord = true := by decide +kernel
def p_y_X0_compared : List Cond := o_y_X0_compared ++ ((.code yX1_kind cX1_kind 2 (some .int) :: p_y_X1_kind) ++ ((.code yX1_compare cX1_compare 9 (some .int) :: p_y_H1) ++ ((.code yX11_truth cX11_truth 1 (some .int) :: p_y_X11_truth) ++ [])))
theorem p_y_X0_compared_good : p_y_X0_compared.all goodWord = true := nb_all2 o_y_X0_compared_good (nb_all2 (nb_allc (by decide +kernel) p_y_X1_kind_good) (nb_all2 (nb_allc (by decide +kernel) p_y_H1_good) (nb_all2 (nb_allc (by decide +kernel) p_y_X11_truth_good) rfl)))
def w_y_X0_compared : List Cond := .code yX0_compared cX0_compared 6 (some .int) :: (p_y_X0_compared ++ fC)
theorem w_y_X0_compared_good : w_y_X0_compared.all goodWord = true := nb_allc (by decide +kernel) (nb_all2 p_y_X0_compared_good fC_good)
theorem in_y_X0_compared_X0 : ∀ w ∈ wsX00, w ∈ w_y_X0_compared := fun _ h => List.mem_cons_of_mem _ (List.mem_append_right _ (List.mem_append_left _ h))
theorem hd_y_X0_compared : yX0_compared.cls = RX0 ∧ yX0_compared.cls ≠ "java/lang/invoke/MethodHandle" ∧ yX0_compared.cls ≠ "java/lang/invoke/VarHandle" ∧ (parseMethodDescriptor yX0_compared.desc).map (fun d => d.parameters.length) = some 3 := by decide +kernel
theorem gg_y_X0_compared_X11_truth : GoodIn w_y_X0_compared w_y_X11_truth := goodIn_sub (fun w h => (List.mem_cons.mp h).elim (fun e => (List.mem_cons_of_mem _ (List.mem_append_left _ (List.mem_append_right _ (List.mem_append_right _ (List.mem_append_right _ (List.mem_append_left _ (List.mem_cons.mpr (Or.inl e))))))))) (fun h => (List.mem_append.mp h).elim (fun h => (List.mem_cons_of_mem _ (List.mem_append_left _ (List.mem_append_right _ (List.mem_append_right _ (List.mem_append_right _ (List.mem_append_left _ (List.mem_cons_of_mem _ h)))))))) (fun h => List.mem_cons_of_mem _ (List.mem_append_right _ h)))) w_y_X11_truth_good
theorem g_y_X0_compared_X11_truth_SN65 : GoodIn w_y_X0_compared w_y_X11_truth := gg_y_X0_compared_X11_truth
theorem gg_y_X0_compared_X1_compare : GoodIn w_y_X0_compared w_y_X1_compare := goodIn_sub (fun w h => (List.mem_cons.mp h).elim (fun e => (List.mem_cons_of_mem _ (List.mem_append_left _ (List.mem_append_right _ (List.mem_append_right _ (List.mem_append_left _ (List.mem_cons.mpr (Or.inl e)))))))) (fun h => (List.mem_append.mp h).elim (fun h => (List.mem_cons_of_mem _ (List.mem_append_left _ (List.mem_append_right _ (List.mem_append_right _ (List.mem_append_left _ (List.mem_cons_of_mem _ h))))))) (fun h => List.mem_cons_of_mem _ (List.mem_append_right _ h)))) w_y_X1_compare_good
theorem g_y_X0_compared_X1_compare_V91 : GoodIn w_y_X0_compared (wsV RX0 91 RX1 yX1_compare w_y_X1_compare) := goodIn_app (nb_g4 (List.mem_cons_of_mem _ (List.mem_append_left _ (List.mem_append_left _ (List.mem_of_getElem? (i := 6) rfl)))) (List.mem_cons_of_mem _ (List.mem_append_left _ (List.mem_append_left _ (List.mem_of_getElem? (i := 7) rfl)))) (List.mem_cons_of_mem _ (List.mem_append_left _ (List.mem_append_left _ (List.mem_of_getElem? (i := 8) rfl)))) (List.mem_cons_of_mem _ (List.mem_append_left _ (List.mem_append_left _ (List.mem_of_getElem? (i := 4) rfl)))) (by decide +kernel)) gg_y_X0_compared_X1_compare
theorem gg_y_X0_compared_X1_kind : GoodIn w_y_X0_compared w_y_X1_kind := goodIn_sub (fun w h => (List.mem_cons.mp h).elim (fun e => (List.mem_cons_of_mem _ (List.mem_append_left _ (List.mem_append_right _ (List.mem_append_left _ (List.mem_cons.mpr (Or.inl e))))))) (fun h => (List.mem_append.mp h).elim (fun h => (List.mem_cons_of_mem _ (List.mem_append_left _ (List.mem_append_right _ (List.mem_append_left _ (List.mem_cons_of_mem _ h)))))) (fun h => List.mem_cons_of_mem _ (List.mem_append_right _ h)))) w_y_X1_kind_good
theorem g_y_X0_compared_X1_kind_V87 : GoodIn w_y_X0_compared (wsV RX0 87 RX1 yX1_kind w_y_X1_kind) := goodIn_app (nb_g4 (List.mem_cons_of_mem _ (List.mem_append_left _ (List.mem_append_left _ (List.mem_of_getElem? (i := 1) rfl)))) (List.mem_cons_of_mem _ (List.mem_append_left _ (List.mem_append_left _ (List.mem_of_getElem? (i := 2) rfl)))) (List.mem_cons_of_mem _ (List.mem_append_left _ (List.mem_append_left _ (List.mem_of_getElem? (i := 3) rfl)))) (List.mem_cons_of_mem _ (List.mem_append_left _ (List.mem_append_left _ (List.mem_of_getElem? (i := 4) rfl)))) (by decide +kernel)) gg_y_X0_compared_X1_kind
set_option maxHeartbeats 40000000 in
set_option maxRecDepth 100000 in
theorem c_y_X0_compared (l : Launch) (dC : Nat → ClassId) (dI : Nat → Nat → Nat) (cy : Nat → ClassId) (a z : Nat → Nat) (k0 : Nat) (L0 : LV) (σ0 : CS) (r0 : Int32 × CS) (h0 : y_X0_compared k0 0 L0 σ0 = some r0) (sz : Nat) : Met l yX0_compared w_y_X0_compared ({ frames := 62, cells := 0, slots := 0, locals := 1738 }) (va_Pc [.ref (a 14), .int (L0.1 1), .int (L0.1 2), .int (L0.1 3)] (nIn (dC, dI) cy sz (vC cy a z σ0))) (va_Qi (fun (x : Int32) (_ : Unit) => x = r0.1) (fun _ t => nOut (dC, dI) cy (va_A (vC cy a z σ0) sz) (vC cy a z r0.2) t) (va_A (vC cy a z σ0) sz)) 0 0 (va_A (vC cy a z σ0) sz) := by
  refine Met.ofW (cc := cX0_compared) (maxL := 6) (ret := (some .int)) (by decide) rfl ?_
  intro p e s m args below meth c s₁ B hml hv
  obtain ⟨rfl, hsz, hP, hK, hD0, hG⟩ := hv
  have hx := B.exec
  have hb := B.bytes
  have hr := B.returns
  have hts := atoms_spec (ws := w_y_X0_compared) B.pre
  have hown : s.vm.findClass RX0 = some m.cls := findClass_of_methodNamed B.named
  have hlocks := B.notSynchronized
  subst hsz
  have hD := hD0.self (sz := s.heap.size)
  generalize hAe : va_A (vC cy a z σ0) s.heap.size = A at hD ⊢
  have hA : ∀ q : Nat, s.heap.size ≤ q → A q := fun q h => by rw [← hAe]; exact Or.inr h
  have hS : va_S A s.heap s.heap [] := va_S.rf
  have hl := lv_entry ([.ref (a 14), .int (L0.1 1), .int (L0.1 2), .int (L0.1 3)]) (n := 6) (Nat.le_of_ble_eq_true rfl)
  rw [lg_entry_eq]
  generalize (lg_sl ([.ref (a 14), .int (L0.1 1), .int (L0.1 2), .int (L0.1 3)]) ++ List.replicate (6 - (lg_sl ([.ref (a 14), .int (L0.1 1), .int (L0.1 2), .int (L0.1 3)])).length) Slot.unset).toArray = ls at hl ⊢
  have hl : lv_has ls 6 [(0, .ref (a 14)), (1, .int (L0.1 1)), (2, .int (L0.1 2)), (3, .int (L0.1 3))] := hl
  have blk : ∀ k : Nat, (bC p l e (headSpec w_y_X0_compared ({ frames := 62, cells := 0, slots := 0, locals := 1738 })).room s m #[.ref (a 14), .int (L0.1 1), .int (L0.1 2), .int (L0.1 3)] below meth c dC dI cy a z A (kI dC dI cy a z A below #[.ref (a 14), .int (L0.1 1), .int (L0.1 2), .int (L0.1 3)] s) 6 (y_X0_compared k 0) (fun L => [(0, .ref (a 14)), (1, .int (L.1 1)), (2, .int (L.1 2)), (3, .int (L.1 3))]) 0 (fun L => [])) ∧ (bC p l e (headSpec w_y_X0_compared ({ frames := 62, cells := 0, slots := 0, locals := 1738 })).room s m #[.ref (a 14), .int (L0.1 1), .int (L0.1 2), .int (L0.1 3)] below meth c dC dI cy a z A (kI dC dI cy a z A below #[.ref (a 14), .int (L0.1 1), .int (L0.1 2), .int (L0.1 3)] s) 6 (y_X0_compared k 1) (fun L => []) 35 (fun L => [])) ∧ (bC p l e (headSpec w_y_X0_compared ({ frames := 62, cells := 0, slots := 0, locals := 1738 })).room s m #[.ref (a 14), .int (L0.1 1), .int (L0.1 2), .int (L0.1 3)] below meth c dC dI cy a z A (kI dC dI cy a z A below #[.ref (a 14), .int (L0.1 1), .int (L0.1 2), .int (L0.1 3)] s) 6 (y_X0_compared k 2) (fun L => [(0, .ref (a 14)), (1, .int (L.1 1)), (2, .int (L.1 2)), (3, .int (L.1 3))]) 38 (fun L => [])) ∧ (bC p l e (headSpec w_y_X0_compared ({ frames := 62, cells := 0, slots := 0, locals := 1738 })).room s m #[.ref (a 14), .int (L0.1 1), .int (L0.1 2), .int (L0.1 3)] below meth c dC dI cy a z A (kI dC dI cy a z A below #[.ref (a 14), .int (L0.1 1), .int (L0.1 2), .int (L0.1 3)] s) 6 (y_X0_compared k 3) (fun L => [(5, .int (L.1 5))]) 76 (fun L => [])) ∧ (bC p l e (headSpec w_y_X0_compared ({ frames := 62, cells := 0, slots := 0, locals := 1738 })).room s m #[.ref (a 14), .int (L0.1 1), .int (L0.1 2), .int (L0.1 3)] below meth c dC dI cy a z A (kI dC dI cy a z A below #[.ref (a 14), .int (L0.1 1), .int (L0.1 2), .int (L0.1 3)] s) 6 (y_X0_compared k 4) (fun L => [(5, .int (L.1 5))]) 90 (fun L => [])) ∧ (bC p l e (headSpec w_y_X0_compared ({ frames := 62, cells := 0, slots := 0, locals := 1738 })).room s m #[.ref (a 14), .int (L0.1 1), .int (L0.1 2), .int (L0.1 3)] below meth c dC dI cy a z A (kI dC dI cy a z A below #[.ref (a 14), .int (L0.1 1), .int (L0.1 2), .int (L0.1 3)] s) 6 (y_X0_compared k 5) (fun L => [(5, .int (L.1 5))]) 104 (fun L => [])) ∧ (bC p l e (headSpec w_y_X0_compared ({ frames := 62, cells := 0, slots := 0, locals := 1738 })).room s m #[.ref (a 14), .int (L0.1 1), .int (L0.1 2), .int (L0.1 3)] below meth c dC dI cy a z A (kI dC dI cy a z A below #[.ref (a 14), .int (L0.1 1), .int (L0.1 2), .int (L0.1 3)] s) 6 (y_X0_compared k 6) (fun L => [(5, .int (L.1 5))]) 118 (fun L => [])) ∧ (bC p l e (headSpec w_y_X0_compared ({ frames := 62, cells := 0, slots := 0, locals := 1738 })).room s m #[.ref (a 14), .int (L0.1 1), .int (L0.1 2), .int (L0.1 3)] below meth c dC dI cy a z A (kI dC dI cy a z A below #[.ref (a 14), .int (L0.1 1), .int (L0.1 2), .int (L0.1 3)] s) 6 (y_X0_compared k 7) (fun L => []) 85 (fun L => [])) ∧ (bC p l e (headSpec w_y_X0_compared ({ frames := 62, cells := 0, slots := 0, locals := 1738 })).room s m #[.ref (a 14), .int (L0.1 1), .int (L0.1 2), .int (L0.1 3)] below meth c dC dI cy a z A (kI dC dI cy a z A below #[.ref (a 14), .int (L0.1 1), .int (L0.1 2), .int (L0.1 3)] s) 6 (y_X0_compared k 8) (fun L => []) 86 (fun L => [.int (L.1 100)])) ∧ (bC p l e (headSpec w_y_X0_compared ({ frames := 62, cells := 0, slots := 0, locals := 1738 })).room s m #[.ref (a 14), .int (L0.1 1), .int (L0.1 2), .int (L0.1 3)] below meth c dC dI cy a z A (kI dC dI cy a z A below #[.ref (a 14), .int (L0.1 1), .int (L0.1 2), .int (L0.1 3)] s) 6 (y_X0_compared k 9) (fun L => []) 99 (fun L => [])) ∧ (bC p l e (headSpec w_y_X0_compared ({ frames := 62, cells := 0, slots := 0, locals := 1738 })).room s m #[.ref (a 14), .int (L0.1 1), .int (L0.1 2), .int (L0.1 3)] below meth c dC dI cy a z A (kI dC dI cy a z A below #[.ref (a 14), .int (L0.1 1), .int (L0.1 2), .int (L0.1 3)] s) 6 (y_X0_compared k 10) (fun L => []) 100 (fun L => [.int (L.1 100)])) ∧ (bC p l e (headSpec w_y_X0_compared ({ frames := 62, cells := 0, slots := 0, locals := 1738 })).room s m #[.ref (a 14), .int (L0.1 1), .int (L0.1 2), .int (L0.1 3)] below meth c dC dI cy a z A (kI dC dI cy a z A below #[.ref (a 14), .int (L0.1 1), .int (L0.1 2), .int (L0.1 3)] s) 6 (y_X0_compared k 11) (fun L => []) 113 (fun L => [])) ∧ (bC p l e (headSpec w_y_X0_compared ({ frames := 62, cells := 0, slots := 0, locals := 1738 })).room s m #[.ref (a 14), .int (L0.1 1), .int (L0.1 2), .int (L0.1 3)] below meth c dC dI cy a z A (kI dC dI cy a z A below #[.ref (a 14), .int (L0.1 1), .int (L0.1 2), .int (L0.1 3)] s) 6 (y_X0_compared k 12) (fun L => []) 114 (fun L => [.int (L.1 100)])) ∧ (bC p l e (headSpec w_y_X0_compared ({ frames := 62, cells := 0, slots := 0, locals := 1738 })).room s m #[.ref (a 14), .int (L0.1 1), .int (L0.1 2), .int (L0.1 3)] below meth c dC dI cy a z A (kI dC dI cy a z A below #[.ref (a 14), .int (L0.1 1), .int (L0.1 2), .int (L0.1 3)] s) 6 (y_X0_compared k 13) (fun L => []) 127 (fun L => [])) ∧ (bC p l e (headSpec w_y_X0_compared ({ frames := 62, cells := 0, slots := 0, locals := 1738 })).room s m #[.ref (a 14), .int (L0.1 1), .int (L0.1 2), .int (L0.1 3)] below meth c dC dI cy a z A (kI dC dI cy a z A below #[.ref (a 14), .int (L0.1 1), .int (L0.1 2), .int (L0.1 3)] s) 6 (y_X0_compared k 14) (fun L => []) 128 (fun L => [.int (L.1 100)])) := by
    intro k
    induction k with
    | zero => exact ⟨fun L σ r h => (by cases h), fun L σ r h => (by cases h), fun L σ r h => (by cases h), fun L σ r h => (by cases h), fun L σ r h => (by cases h), fun L σ r h => (by cases h), fun L σ r h => (by cases h), fun L σ r h => (by cases h), fun L σ r h => (by cases h), fun L σ r h => (by cases h), fun L σ r h => (by cases h), fun L σ r h => (by cases h), fun L σ r h => (by cases h), fun L σ r h => (by cases h), fun L σ r h => (by cases h)⟩
    | succ k ih =>
      refine ⟨?_, ?_, ?_, ?_, ?_, ?_, ?_, ?_, ?_, ?_, ?_, ?_, ?_, ?_, ?_⟩
      · intro L σ r h H locs ls hP hD hS hl
        rw [y_X0_compared] at h
        refine lv_aload_n hx hb dX0_compared_0 rfl (lv_at hl 0 rfl) ?_
        refine hg_14_0 hx hb hts in_y_X0_compared_X0 hown hK hP (hts _ (List.mem_cons_of_mem _ (List.mem_append_left _ (List.mem_append_left _ (List.mem_of_getElem? (i := 0) rfl))))) dX0_compared_1 ?_
        refine lv_iload_n hx hb dX0_compared_4 rfl (lv_at hl 2 rfl) ?_
        obtain ⟨r1, hc1, h⟩ := oc_ex h
        refine kc_i (va_runV (As := [.int (L.1 2)]) (rest := []) ⟨hx, hb, hml, hown, hts⟩ (c_y_X1_kind l dC dI cy a z k (lI lZ 1 ((L.1 2))) σ r1 hc1 H.size) (cwV 1 hts g_y_X0_compared_X1_kind_V87 rfl rfl rfl hd_y_X1_kind ⟨Nat.le_of_ble_eq_true rfl, Nat.le_of_ble_eq_true rfl⟩) ⟨nb_blind, va_recv hK hP (ci := 1) (q0 := 0) rfl rfl, (kb_pre hK hG hP hD)⟩ rfl rfl hl.1 rfl (lv_room (Nat.le_of_ble_eq_true rfl)) dX0_compared_5 ⟨Nat.le_refl _, Nat.le_refl _⟩) hA hP hD hS (fun H locs hP hD hS => ?_)
        refine lv_istore (lv' := [(4, .int r1.1), (0, .ref (a 14)), (1, .int (L.1 1)), (2, .int (L.1 2)), (3, .int (L.1 3))]) hx hb dX0_compared_8 hl (by decide) rfl (fun ls hl => ?_)
        refine lv_iload hx hb dX0_compared_10 (lv_at hl 0 rfl) ?_
        refine lv_aload_n hx hb dX0_compared_12 rfl (lv_at hl 1 rfl) ?_
        refine hg_14_0 hx hb hts in_y_X0_compared_X0 hown hK hP (hts _ (List.mem_cons_of_mem _ (List.mem_append_left _ (List.mem_append_left _ (List.mem_of_getElem? (i := 0) rfl))))) dX0_compared_13 ?_
        refine lv_iload_n hx hb dX0_compared_16 rfl (lv_at hl 4 rfl) ?_
        obtain ⟨r2, hc2, h⟩ := oc_ex h
        refine kc_i (va_runV (As := [.int (L.1 3)]) (rest := [.int r1.1]) ⟨hx, hb, hml, hown, hts⟩ (c_y_X1_kind l dC dI cy a z k (lI lZ 1 ((L.1 3))) r1.2 r2 hc2 H.size) (cwV 1 hts g_y_X0_compared_X1_kind_V87 rfl rfl rfl hd_y_X1_kind ⟨Nat.le_of_ble_eq_true rfl, Nat.le_of_ble_eq_true rfl⟩) ⟨nb_blind, va_recv hK hP (ci := 1) (q0 := 0) rfl rfl, (kb_pre hK hG hP hD)⟩ rfl rfl hl.1 rfl (lv_room (Nat.le_of_ble_eq_true rfl)) dX0_compared_17 ⟨Nat.le_refl _, Nat.le_refl _⟩) hA hP hD hS (fun H locs hP hD hS => ?_)
        refine lv_icmp_ne (tgt := 35) hx hb dX0_compared_20 (by decide) (fun c3 => ?_) (fun c3 => ?_)
        · rw [if_neg c3] at h
          exact ih.2.1 L r2.2 r h H locs ls hP hD hS (lv_sub hl [] rfl)
        · rw [if_pos c3] at h
          refine lv_iload hx hb dX0_compared_23 (lv_at hl 0 rfl) ?_
          refine lv_iconst (v := 2) hx hb dX0_compared_25 (by decide) ?_
          refine lv_icmp_eq (tgt := 38) hx hb dX0_compared_26 (by decide) (fun c4 => ?_) (fun c4 => ?_)
          · rw [if_pos c4] at h
            exact ih.2.2.1 L r2.2 r h H locs ls hP hD hS (lv_sub hl [1, 2, 3, 4] rfl)
          · rw [if_neg c4] at h
            refine lv_iload hx hb dX0_compared_29 (lv_at hl 0 rfl) ?_
            refine lv_iconst (v := 4) hx hb dX0_compared_31 (by decide) ?_
            refine lv_icmp_eq (tgt := 38) hx hb dX0_compared_32 (by decide) (fun c5 => ?_) (fun c5 => ?_)
            · rw [if_pos c5] at h
              exact ih.2.2.1 L r2.2 r h H locs ls hP hD hS (lv_sub hl [1, 2, 3, 4] rfl)
            · rw [if_neg c5] at h
              exact ih.2.1 L r2.2 r h H locs ls hP hD hS (lv_sub hl [] rfl)
      · intro L σ r h H locs ls hP hD hS hl
        rw [y_X0_compared] at h
        refine lv_ldc (v := (-268435455)) hx hb hown (hts _ (List.mem_cons_of_mem _ (List.mem_append_left _ (List.mem_append_left _ (List.mem_of_getElem? (i := 5) rfl))))) dX0_compared_35 ?_
        obtain rfl := Option.some.inj h
        exact W.iret (v := (-268435455)) hx hb hr (fun t ht hW => ⟨⟨(-268435455), (), rfl, rfl, by rw [ht]; exact hP, va_K.moved hW.alike hK, hD⟩, hS.F ht⟩) hS.2.2 dX0_compared_37
      · intro L σ r h H locs ls hP hD hS hl
        rw [y_X0_compared] at h
        refine lv_aload_n hx hb dX0_compared_38 rfl (lv_at hl 0 rfl) ?_
        refine hg_14_0 hx hb hts in_y_X0_compared_X0 hown hK hP (hts _ (List.mem_cons_of_mem _ (List.mem_append_left _ (List.mem_append_left _ (List.mem_of_getElem? (i := 0) rfl))))) dX0_compared_39 ?_
        refine lv_iload_n hx hb dX0_compared_42 rfl (lv_at hl 2 rfl) ?_
        refine lv_iload_n hx hb dX0_compared_43 rfl (lv_at hl 3 rfl) ?_
        obtain ⟨r1, hc1, h⟩ := oc_ex h
        refine kc_i (va_runV (As := [.int (L.1 2), .int (L.1 3)]) (rest := []) ⟨hx, hb, hml, hown, hts⟩ (c_y_X1_compare l dC dI cy a z k (lI (lI lZ 1 ((L.1 2))) 2 ((L.1 3))) σ r1 hc1 H.size) (cwV 2 hts g_y_X0_compared_X1_compare_V91 rfl rfl rfl hd_y_X1_compare ⟨Nat.le_of_ble_eq_true rfl, Nat.le_of_ble_eq_true rfl⟩) ⟨nb_blind, va_recv hK hP (ci := 1) (q0 := 0) rfl rfl, (kb_pre hK hG hP hD)⟩ rfl rfl hl.1 rfl (lv_room (Nat.le_of_ble_eq_true rfl)) dX0_compared_44 ⟨Nat.le_refl _, Nat.le_refl _⟩) hA hP hD hS (fun H locs hP hD hS => ?_)
        refine lv_istore (lv' := [(5, .int r1.1), (0, .ref (a 14)), (1, .int (L.1 1)), (2, .int (L.1 2)), (3, .int (L.1 3))]) hx hb dX0_compared_47 hl (by decide) rfl (fun ls hl => ?_)
        refine lv_iload_n hx hb dX0_compared_49 rfl (lv_at hl 2 rfl) ?_
        by_cases q2 : ((L.1 1)) = (136 : Int32)
        · rw [if_pos q2] at h
          refine lv_tableIn (off := 26) (tgt := 76) hx hb dX0_compared_50 (by rw [q2]; decide) (by rw [q2]; decide) (by rw [q2]; decide) (by decide) ?_
          exact ih.2.2.2.1 (lI L 5 r1.1) r1.2 r h H locs ls hP hD hS (lv_sub hl [0] rfl)
        · rw [if_neg q2] at h
          by_cases q3 : ((L.1 1)) = (137 : Int32)
          · rw [if_pos q3] at h
            refine lv_tableIn (off := 40) (tgt := 90) hx hb dX0_compared_50 (by rw [q3]; decide) (by rw [q3]; decide) (by rw [q3]; decide) (by decide) ?_
            exact ih.2.2.2.2.1 (lI L 5 r1.1) r1.2 r h H locs ls hP hD hS (lv_sub hl [0] rfl)
          · rw [if_neg q3] at h
            by_cases q4 : ((L.1 1)) = (138 : Int32)
            · rw [if_pos q4] at h
              refine lv_tableIn (off := 54) (tgt := 104) hx hb dX0_compared_50 (by rw [q4]; decide) (by rw [q4]; decide) (by rw [q4]; decide) (by decide) ?_
              exact ih.2.2.2.2.2.1 (lI L 5 r1.1) r1.2 r h H locs ls hP hD hS (lv_sub hl [0] rfl)
            · rw [if_neg q4] at h
              have nq2 : ¬ ((L.1 1)).toInt = 136 := nb_ti q2 rfl
              have nq3 : ¬ ((L.1 1)).toInt = 137 := nb_ti q3 rfl
              have nq4 : ¬ ((L.1 1)).toInt = 138 := nb_ti q4 rfl
              refine lv_tableOut (tgt := 118) hx hb dX0_compared_50 (by omega) (by decide) ?_
              exact ih.2.2.2.2.2.2.1 (lI L 5 r1.1) r1.2 r h H locs ls hP hD hS (lv_sub hl [0] rfl)
      · intro L σ r h H locs ls hP hD hS hl
        rw [y_X0_compared] at h
        refine lv_iload hx hb dX0_compared_76 (lv_at hl 0 rfl) ?_
        refine lv_if_ge (tgt := 85) hx hb dX0_compared_78 (by decide) (fun c1 => ?_) (fun c1 => ?_)
        · rw [if_pos c1] at h
          exact ih.2.2.2.2.2.2.2.1 L σ r h H locs ls hP hD hS (lv_sub hl [] rfl)
        · rw [if_neg c1] at h
          refine lv_iconst (v := 1) hx hb dX0_compared_81 (by decide) ?_
          refine lv_goto (tgt := 86) hx hb dX0_compared_82 (by decide) ?_
          exact ih.2.2.2.2.2.2.2.2.1 (lI L 100 1) σ r h H locs ls hP hD hS (lv_sub hl [] rfl)
      · intro L σ r h H locs ls hP hD hS hl
        rw [y_X0_compared] at h
        refine lv_iload hx hb dX0_compared_90 (lv_at hl 0 rfl) ?_
        refine lv_if_gt (tgt := 99) hx hb dX0_compared_92 (by decide) (fun c1 => ?_) (fun c1 => ?_)
        · rw [if_pos c1] at h
          exact ih.2.2.2.2.2.2.2.2.2.1 L σ r h H locs ls hP hD hS (lv_sub hl [] rfl)
        · rw [if_neg c1] at h
          refine lv_iconst (v := 1) hx hb dX0_compared_95 (by decide) ?_
          refine lv_goto (tgt := 100) hx hb dX0_compared_96 (by decide) ?_
          exact ih.2.2.2.2.2.2.2.2.2.2.1 (lI L 100 1) σ r h H locs ls hP hD hS (lv_sub hl [] rfl)
      · intro L σ r h H locs ls hP hD hS hl
        rw [y_X0_compared] at h
        refine lv_iload hx hb dX0_compared_104 (lv_at hl 0 rfl) ?_
        refine lv_if_le (tgt := 113) hx hb dX0_compared_106 (by decide) (fun c1 => ?_) (fun c1 => ?_)
        · rw [if_pos c1] at h
          exact ih.2.2.2.2.2.2.2.2.2.2.2.1 L σ r h H locs ls hP hD hS (lv_sub hl [] rfl)
        · rw [if_neg c1] at h
          refine lv_iconst (v := 1) hx hb dX0_compared_109 (by decide) ?_
          refine lv_goto (tgt := 114) hx hb dX0_compared_110 (by decide) ?_
          exact ih.2.2.2.2.2.2.2.2.2.2.2.2.1 (lI L 100 1) σ r h H locs ls hP hD hS (lv_sub hl [] rfl)
      · intro L σ r h H locs ls hP hD hS hl
        rw [y_X0_compared] at h
        refine lv_iload hx hb dX0_compared_118 (lv_at hl 0 rfl) ?_
        refine lv_if_lt (tgt := 127) hx hb dX0_compared_120 (by decide) (fun c1 => ?_) (fun c1 => ?_)
        · rw [if_pos c1] at h
          exact ih.2.2.2.2.2.2.2.2.2.2.2.2.2.1 L σ r h H locs ls hP hD hS (lv_sub hl [] rfl)
        · rw [if_neg c1] at h
          refine lv_iconst (v := 1) hx hb dX0_compared_123 (by decide) ?_
          refine lv_goto (tgt := 128) hx hb dX0_compared_124 (by decide) ?_
          exact ih.2.2.2.2.2.2.2.2.2.2.2.2.2.2 (lI L 100 1) σ r h H locs ls hP hD hS (lv_sub hl [] rfl)
      · intro L σ r h H locs ls hP hD hS hl
        rw [y_X0_compared] at h
        refine lv_iconst (v := 0) hx hb dX0_compared_85 (by decide) ?_
        exact ih.2.2.2.2.2.2.2.2.1 (lI L 100 0) σ r h H locs ls hP hD hS (lv_sub hl [] rfl)
      · intro L σ r h H locs ls hP hD hS hl
        rw [y_X0_compared] at h
        obtain ⟨r1, hc1, h⟩ := oc_ex h
        refine kc_i (va_runSN (As := [.int (L.1 100)]) (rest := []) ⟨hx, hb, hml, hown, hts⟩ (c_y_X11_truth l dC dI cy a z k (lI lZ 0 ((L.1 100))) σ r1 hc1 H.size) ⟨va_cnB 1 hts g_y_X0_compared_X11_truth_SN65 rfl rfl rfl (hG.1 _ (List.mem_of_getElem? (i := 106) rfl)) (hts _ (List.mem_cons_of_mem _ (List.mem_append_left _ (List.mem_append_left _ (List.mem_of_getElem? (i := 9) rfl))))) hd_y_X11_truth ⟨Nat.le_of_ble_eq_true rfl, Nat.le_of_ble_eq_true rfl⟩, (hts _ (List.mem_cons_of_mem _ (List.mem_append_left _ (List.mem_append_left _ (List.mem_of_getElem? (i := 10) rfl))))), trivial⟩ ⟨nb_blind, (kb_pre hK hG hP hD)⟩ rfl rfl hl.1 rfl (lv_room (Nat.le_of_ble_eq_true rfl)) dX0_compared_86 ⟨Nat.le_refl _, Nat.le_refl _⟩) hA hP hD hS (fun H locs hP hD hS => ?_)
        obtain rfl := Option.some.inj h
        exact W.iret (v := r1.1) hx hb hr (fun t ht hW => ⟨⟨r1.1, (), rfl, rfl, by rw [ht]; exact hP, va_K.moved hW.alike hK, hD⟩, hS.F ht⟩) hS.2.2 dX0_compared_89
      · intro L σ r h H locs ls hP hD hS hl
        rw [y_X0_compared] at h
        refine lv_iconst (v := 0) hx hb dX0_compared_99 (by decide) ?_
        exact ih.2.2.2.2.2.2.2.2.2.2.1 (lI L 100 0) σ r h H locs ls hP hD hS (lv_sub hl [] rfl)
      · intro L σ r h H locs ls hP hD hS hl
        rw [y_X0_compared] at h
        obtain ⟨r1, hc1, h⟩ := oc_ex h
        refine kc_i (va_runSN (As := [.int (L.1 100)]) (rest := []) ⟨hx, hb, hml, hown, hts⟩ (c_y_X11_truth l dC dI cy a z k (lI lZ 0 ((L.1 100))) σ r1 hc1 H.size) ⟨va_cnB 1 hts g_y_X0_compared_X11_truth_SN65 rfl rfl rfl (hG.1 _ (List.mem_of_getElem? (i := 106) rfl)) (hts _ (List.mem_cons_of_mem _ (List.mem_append_left _ (List.mem_append_left _ (List.mem_of_getElem? (i := 9) rfl))))) hd_y_X11_truth ⟨Nat.le_of_ble_eq_true rfl, Nat.le_of_ble_eq_true rfl⟩, (hts _ (List.mem_cons_of_mem _ (List.mem_append_left _ (List.mem_append_left _ (List.mem_of_getElem? (i := 10) rfl))))), trivial⟩ ⟨nb_blind, (kb_pre hK hG hP hD)⟩ rfl rfl hl.1 rfl (lv_room (Nat.le_of_ble_eq_true rfl)) dX0_compared_100 ⟨Nat.le_refl _, Nat.le_refl _⟩) hA hP hD hS (fun H locs hP hD hS => ?_)
        obtain rfl := Option.some.inj h
        exact W.iret (v := r1.1) hx hb hr (fun t ht hW => ⟨⟨r1.1, (), rfl, rfl, by rw [ht]; exact hP, va_K.moved hW.alike hK, hD⟩, hS.F ht⟩) hS.2.2 dX0_compared_103
      · intro L σ r h H locs ls hP hD hS hl
        rw [y_X0_compared] at h
        refine lv_iconst (v := 0) hx hb dX0_compared_113 (by decide) ?_
        exact ih.2.2.2.2.2.2.2.2.2.2.2.2.1 (lI L 100 0) σ r h H locs ls hP hD hS (lv_sub hl [] rfl)
      · intro L σ r h H locs ls hP hD hS hl
        rw [y_X0_compared] at h
        obtain ⟨r1, hc1, h⟩ := oc_ex h
        refine kc_i (va_runSN (As := [.int (L.1 100)]) (rest := []) ⟨hx, hb, hml, hown, hts⟩ (c_y_X11_truth l dC dI cy a z k (lI lZ 0 ((L.1 100))) σ r1 hc1 H.size) ⟨va_cnB 1 hts g_y_X0_compared_X11_truth_SN65 rfl rfl rfl (hG.1 _ (List.mem_of_getElem? (i := 106) rfl)) (hts _ (List.mem_cons_of_mem _ (List.mem_append_left _ (List.mem_append_left _ (List.mem_of_getElem? (i := 9) rfl))))) hd_y_X11_truth ⟨Nat.le_of_ble_eq_true rfl, Nat.le_of_ble_eq_true rfl⟩, (hts _ (List.mem_cons_of_mem _ (List.mem_append_left _ (List.mem_append_left _ (List.mem_of_getElem? (i := 10) rfl))))), trivial⟩ ⟨nb_blind, (kb_pre hK hG hP hD)⟩ rfl rfl hl.1 rfl (lv_room (Nat.le_of_ble_eq_true rfl)) dX0_compared_114 ⟨Nat.le_refl _, Nat.le_refl _⟩) hA hP hD hS (fun H locs hP hD hS => ?_)
        obtain rfl := Option.some.inj h
        exact W.iret (v := r1.1) hx hb hr (fun t ht hW => ⟨⟨r1.1, (), rfl, rfl, by rw [ht]; exact hP, va_K.moved hW.alike hK, hD⟩, hS.F ht⟩) hS.2.2 dX0_compared_117
      · intro L σ r h H locs ls hP hD hS hl
        rw [y_X0_compared] at h
        refine lv_iconst (v := 0) hx hb dX0_compared_127 (by decide) ?_
        exact ih.2.2.2.2.2.2.2.2.2.2.2.2.2.2 (lI L 100 0) σ r h H locs ls hP hD hS (lv_sub hl [] rfl)
      · intro L σ r h H locs ls hP hD hS hl
        rw [y_X0_compared] at h
        obtain ⟨r1, hc1, h⟩ := oc_ex h
        refine kc_i (va_runSN (As := [.int (L.1 100)]) (rest := []) ⟨hx, hb, hml, hown, hts⟩ (c_y_X11_truth l dC dI cy a z k (lI lZ 0 ((L.1 100))) σ r1 hc1 H.size) ⟨va_cnB 1 hts g_y_X0_compared_X11_truth_SN65 rfl rfl rfl (hG.1 _ (List.mem_of_getElem? (i := 106) rfl)) (hts _ (List.mem_cons_of_mem _ (List.mem_append_left _ (List.mem_append_left _ (List.mem_of_getElem? (i := 9) rfl))))) hd_y_X11_truth ⟨Nat.le_of_ble_eq_true rfl, Nat.le_of_ble_eq_true rfl⟩, (hts _ (List.mem_cons_of_mem _ (List.mem_append_left _ (List.mem_append_left _ (List.mem_of_getElem? (i := 10) rfl))))), trivial⟩ ⟨nb_blind, (kb_pre hK hG hP hD)⟩ rfl rfl hl.1 rfl (lv_room (Nat.le_of_ble_eq_true rfl)) dX0_compared_128 ⟨Nat.le_refl _, Nat.le_refl _⟩) hA hP hD hS (fun H locs hP hD hS => ?_)
        obtain rfl := Option.some.inj h
        exact W.iret (v := r1.1) hx hb hr (fun t ht hW => ⟨⟨r1.1, (), rfl, rfl, by rw [ht]; exact hP, va_K.moved hW.alike hK, hD⟩, hS.F ht⟩) hS.2.2 dX0_compared_131
  exact (blk k0).1 L0 σ0 r0 h0 s.heap [] ls hP hD hS hl
/-! X0_binary -/
def y_X0_binary : Nat → Nat → LV → CS → Option (Int32 × CS)
  | 0, _, _, _ => none
  | k + 1, 0, L, σ => if ((L.1 1)) = (128 : Int32) then (y_X0_binary k 1 L σ) else (if ((L.1 1)) = (129 : Int32) then (y_X0_binary k 2 L σ) else (if ((L.1 1)) = (130 : Int32) then (y_X0_binary k 3 L σ) else (if ((L.1 1)) = (131 : Int32) then (y_X0_binary k 4 L σ) else (if ((L.1 1)) = (132 : Int32) then (y_X0_binary k 4 L σ) else (if ((L.1 1)) = (133 : Int32) then (y_X0_binary k 5 L σ) else (if ((L.1 1)) = (134 : Int32) then (y_X0_binary k 6 L σ) else (if ((L.1 1)) = (135 : Int32) then (y_X0_binary k 7 L σ) else (if ((L.1 1)) = (136 : Int32) then (y_X0_binary k 8 L σ) else (if ((L.1 1)) = (137 : Int32) then (y_X0_binary k 8 L σ) else (if ((L.1 1)) = (138 : Int32) then (y_X0_binary k 8 L σ) else (if ((L.1 1)) = (139 : Int32) then (y_X0_binary k 8 L σ) else (if ((L.1 1)) = (140 : Int32) then (y_X0_binary k 9 L σ) else (if ((L.1 1)) = (141 : Int32) then (y_X0_binary k 10 L σ) else (if ((L.1 1)) = (142 : Int32) then (y_X0_binary k 11 L σ) else (y_X0_binary k 8 L σ)))))))))))))))
  | k + 1, 1, L, σ => oc (y_X0_sum k 0 (lI (lI lZ 1 ((L.1 2))) 2 ((L.1 3))) σ) (fun r1 => some (r1.1, r1.2))
  | k + 1, 2, L, σ => oc (y_X0_difference k 0 (lI (lI lZ 1 ((L.1 2))) 2 ((L.1 3))) σ) (fun r1 => some (r1.1, r1.2))
  | k + 1, 3, L, σ => oc (y_X0_product k 0 (lI (lI lZ 1 ((L.1 2))) 2 ((L.1 3))) σ) (fun r1 => some (r1.1, r1.2))
  | k + 1, 4, L, σ => oc (y_X0_areWholes k 0 (lI (lI lZ 1 ((L.1 2))) 2 ((L.1 3))) σ) (fun r1 => if r1.1 = 0 then (y_X0_binary k 12 L r1.2) else (if ((L.1 1)) = 132 then (y_X0_binary k 14 (lI (lI (lI L 100 1) 101 ((L.1 3))) 102 ((L.1 2))) r1.2) else (y_X0_binary k 13 (lI (lI L 100 ((L.1 3))) 101 ((L.1 2))) r1.2)))
  | k + 1, 5, L, σ => oc (y_X0_areWholes k 0 (lI (lI lZ 1 ((L.1 2))) 2 ((L.1 3))) σ) (fun r1 => if r1.1 = 0 then (y_X0_binary k 15 L r1.2) else (oc (y_X10_power k 0 (lI (lI lZ 1 ((L.1 2))) 2 ((L.1 3))) r1.2) (fun r3 => y_X0_binary k 16 (lI L 100 r3.1) r3.2)))
  | k + 1, 6, L, σ => oc (y_X1_same k 0 (lI (lI lZ 1 ((L.1 2))) 2 ((L.1 3))) σ) (fun r1 => oc (y_X11_truth k 0 (lI lZ 0 r1.1) r1.2) (fun r2 => some (r2.1, r2.2)))
  | k + 1, 7, L, σ => oc (y_X1_same k 0 (lI (lI lZ 1 ((L.1 2))) 2 ((L.1 3))) σ) (fun r1 => if r1.1 = 0 then (y_X0_binary k 18 (lI L 100 1) r1.2) else (y_X0_binary k 17 L r1.2))
  | k + 1, 8, L, σ => oc (y_X0_compared k 0 (lI (lI (lI lZ 1 ((L.1 1))) 2 ((L.1 2))) 3 ((L.1 3))) σ) (fun r1 => some (r1.1, r1.2))
  | k + 1, 9, L, σ => oc (y_X0_contains k 0 (lI (lI lZ 1 ((L.1 3))) 2 ((L.1 2))) σ) (fun r1 => some (r1.1, r1.2))
  | k + 1, 10, L, σ => oc (y_X0_contains k 0 (lI (lI lZ 1 ((L.1 3))) 2 ((L.1 2))) σ) (fun r1 => oc (y_X11_isError k 0 (lI lZ 0 r1.1) r1.2) (fun r2 => if r2.1 = 0 then (y_X0_binary k 19 (lI L 4 r1.1) r2.2) else (y_X0_binary k 20 (lI L 100 r1.1) r2.2)))
  | k + 1, 11, L, σ => oc (y_X0_areSets k 0 (lI (lI lZ 1 ((L.1 2))) 2 ((L.1 3))) σ) (fun r1 => if r1.1 = 0 then (y_X0_binary k 21 L r1.2) else (oc (y_X0_isSubset k 0 (lI (lI lZ 1 ((L.1 2))) 2 ((L.1 3))) r1.2) (fun r3 => oc (y_X11_truth k 0 (lI lZ 0 r3.1) r3.2) (fun r4 => y_X0_binary k 22 (lI L 100 r4.1) r4.2))))
  | k + 1, 12, L, σ => y_X0_binary k 23 (lI L 100 ((-268435455))) σ
  | k + 1, 13, L, σ => y_X0_binary k 14 (lI (lI (lI L 100 0) 101 ((L.1 100))) 102 ((L.1 101))) σ
  | k + 1, 14, L, σ => oc (y_X10_divided k 0 (lI (lI (lI lZ 1 ((L.1 102))) 2 ((L.1 101))) 3 ((L.1 100))) σ) (fun r1 => y_X0_binary k 23 (lI L 100 r1.1) r1.2)
  | k + 1, 15, L, σ => y_X0_binary k 16 (lI L 100 ((-268435455))) σ
  | k + 1, 16, L, σ => some ((L.1 100), σ)
  | k + 1, 17, L, σ => y_X0_binary k 18 (lI L 100 0) σ
  | k + 1, 18, L, σ => oc (y_X11_truth k 0 (lI lZ 0 ((L.1 100))) σ) (fun r1 => some (r1.1, r1.2))
  | k + 1, 19, L, σ => if ((L.1 4)) = ((-1879048192)) then (y_X0_binary k 25 (lI L 100 1) σ) else (y_X0_binary k 24 L σ)
  | k + 1, 20, L, σ => some ((L.1 100), σ)
  | k + 1, 21, L, σ => y_X0_binary k 22 (lI L 100 ((-268435455))) σ
  | k + 1, 22, L, σ => some ((L.1 100), σ)
  | k + 1, 23, L, σ => some ((L.1 100), σ)
  | k + 1, 24, L, σ => y_X0_binary k 25 (lI L 100 0) σ
  | k + 1, 25, L, σ => oc (y_X11_truth k 0 (lI lZ 0 ((L.1 100))) σ) (fun r1 => y_X0_binary k 20 (lI L 100 r1.1) r1.2)
  | _ + 1, _ + 26, _, _ => none
def o_y_X0_binary : List Cond := [.methodLink RX0 34 yX0_sum, .instanceMethod yX0_sum, .selects RX0 yX0_sum yX0_sum, .initialized RX0, .methodLink RX0 38 yX0_difference, .instanceMethod yX0_difference, .selects RX0 yX0_difference yX0_difference, .methodLink RX0 41 yX0_product, .instanceMethod yX0_product, .selects RX0 yX0_product yX0_product, .methodLink RX0 44 yX0_areWholes, .instanceMethod yX0_areWholes, .selects RX0 yX0_areWholes yX0_areWholes, .fieldLink RX0 26 "SetHouse$Algebra" "wholes" "LSetHouse$Wholes;", .methodLink RX0 57 yX10_power, .instanceMethod yX10_power, .selects RX10 yX10_power yX10_power, .initialized RX10, .fieldLink RX0 22 "SetHouse$Algebra" "heap" "LSetHouse$Heap;", .methodLink RX0 60 yX1_same, .instanceMethod yX1_same, .selects RX1 yX1_same yX1_same, .initialized RX1, .initialized RX11, .static yX11_truth, .methodLink RX0 83 yX0_compared, .instanceMethod yX0_compared, .selects RX0 yX0_compared yX0_compared, .methodLink RX0 69 yX0_contains, .instanceMethod yX0_contains, .selects RX0 yX0_contains yX0_contains, .static yX11_isError, .methodLink RX0 77 yX0_areSets, .instanceMethod yX0_areSets, .selects RX0 yX0_areSets yX0_areSets, .methodLink RX0 80 yX0_isSubset, .instanceMethod yX0_isSubset, .selects RX0 yX0_isSubset yX0_isSubset, .constant RX0 56 (-268435455), .methodLink RX0 50 yX10_divided, .instanceMethod yX10_divided, .selects RX10 yX10_divided yX10_divided, .constant RX0 76 (-1879048192)]
theorem o_y_X0_binary_good : o_y_X0_binary.all goodWord = true := by decide +kernel
def p_y_X0_binary : List Cond := o_y_X0_binary ++ ((.code yX0_sum cX0_sum 5 (some .int) :: p_y_X0_sum) ++ ((.code yX0_difference cX0_difference 3 (some .int) :: p_y_X0_difference) ++ ((.code yX0_product cX0_product 4 (some .int) :: p_y_X0_product) ++ ((.code yX0_areWholes cX0_areWholes 3 (some .boolean) :: p_y_X0_areWholes) ++ ((.code yX10_power cX10_power 7 (some .int) :: p_y_X10_power) ++ ((.code yX1_same cX1_same 3 (some .boolean) :: p_y_X1_same) ++ ((.code yX11_truth cX11_truth 1 (some .int) :: p_y_X11_truth) ++ ((.code yX0_compared cX0_compared 6 (some .int) :: p_y_X0_compared) ++ ((.code yX0_contains cX0_contains 5 (some .int) :: p_y_X0_contains) ++ ((.code yX11_isError cX11_isError 1 (some .boolean) :: p_y_X11_isError) ++ ((.code yX0_areSets cX0_areSets 3 (some .boolean) :: p_y_X0_areSets) ++ ((.code yX0_isSubset cX0_isSubset 5 (some .boolean) :: p_y_X0_isSubset) ++ ((.code yX10_divided cX10_divided 10 (some .int) :: p_y_X10_divided) ++ [])))))))))))))
theorem p_y_X0_binary_good : p_y_X0_binary.all goodWord = true := nb_all2 o_y_X0_binary_good (nb_all2 (nb_allc (by decide +kernel) p_y_X0_sum_good) (nb_all2 (nb_allc (by decide +kernel) p_y_X0_difference_good) (nb_all2 (nb_allc (by decide +kernel) p_y_X0_product_good) (nb_all2 (nb_allc (by decide +kernel) p_y_X0_areWholes_good) (nb_all2 (nb_allc (by decide +kernel) p_y_X10_power_good) (nb_all2 (nb_allc (by decide +kernel) p_y_X1_same_good) (nb_all2 (nb_allc (by decide +kernel) p_y_X11_truth_good) (nb_all2 (nb_allc (by decide +kernel) p_y_X0_compared_good) (nb_all2 (nb_allc (by decide +kernel) p_y_X0_contains_good) (nb_all2 (nb_allc (by decide +kernel) p_y_X11_isError_good) (nb_all2 (nb_allc (by decide +kernel) p_y_X0_areSets_good) (nb_all2 (nb_allc (by decide +kernel) p_y_X0_isSubset_good) (nb_all2 (nb_allc (by decide +kernel) p_y_X10_divided_good) rfl)))))))))))))
def w_y_X0_binary : List Cond := .code yX0_binary cX0_binary 5 (some .int) :: (p_y_X0_binary ++ fC)
theorem w_y_X0_binary_good : w_y_X0_binary.all goodWord = true := nb_allc (by decide +kernel) (nb_all2 p_y_X0_binary_good fC_good)
theorem in_y_X0_binary_X0 : ∀ w ∈ wsX00, w ∈ w_y_X0_binary := fun _ h => List.mem_cons_of_mem _ (List.mem_append_right _ (List.mem_append_left _ h))
theorem hd_y_X0_binary : yX0_binary.cls = RX0 ∧ yX0_binary.cls ≠ "java/lang/invoke/MethodHandle" ∧ yX0_binary.cls ≠ "java/lang/invoke/VarHandle" ∧ (parseMethodDescriptor yX0_binary.desc).map (fun d => d.parameters.length) = some 3 := by decide +kernel
theorem gg_y_X0_binary_X0_areSets : GoodIn w_y_X0_binary w_y_X0_areSets := goodIn_sub (fun w h => (List.mem_cons.mp h).elim (fun e => (List.mem_cons_of_mem _ (List.mem_append_left _ (List.mem_append_right _ (List.mem_append_right _ (List.mem_append_right _ (List.mem_append_right _ (List.mem_append_right _ (List.mem_append_right _ (List.mem_append_right _ (List.mem_append_right _ (List.mem_append_right _ (List.mem_append_right _ (List.mem_append_right _ (List.mem_append_left _ (List.mem_cons.mpr (Or.inl e))))))))))))))))) (fun h => (List.mem_append.mp h).elim (fun h => (List.mem_cons_of_mem _ (List.mem_append_left _ (List.mem_append_right _ (List.mem_append_right _ (List.mem_append_right _ (List.mem_append_right _ (List.mem_append_right _ (List.mem_append_right _ (List.mem_append_right _ (List.mem_append_right _ (List.mem_append_right _ (List.mem_append_right _ (List.mem_append_right _ (List.mem_append_left _ (List.mem_cons_of_mem _ h)))))))))))))))) (fun h => List.mem_cons_of_mem _ (List.mem_append_right _ h)))) w_y_X0_areSets_good
theorem g_y_X0_binary_X0_areSets_V77 : GoodIn w_y_X0_binary (wsV RX0 77 RX0 yX0_areSets w_y_X0_areSets) := goodIn_app (nb_g4 (List.mem_cons_of_mem _ (List.mem_append_left _ (List.mem_append_left _ (List.mem_of_getElem? (i := 32) rfl)))) (List.mem_cons_of_mem _ (List.mem_append_left _ (List.mem_append_left _ (List.mem_of_getElem? (i := 33) rfl)))) (List.mem_cons_of_mem _ (List.mem_append_left _ (List.mem_append_left _ (List.mem_of_getElem? (i := 34) rfl)))) (List.mem_cons_of_mem _ (List.mem_append_left _ (List.mem_append_left _ (List.mem_of_getElem? (i := 3) rfl)))) (by decide +kernel)) gg_y_X0_binary_X0_areSets
theorem gg_y_X0_binary_X0_areWholes : GoodIn w_y_X0_binary w_y_X0_areWholes := goodIn_sub (fun w h => (List.mem_cons.mp h).elim (fun e => (List.mem_cons_of_mem _ (List.mem_append_left _ (List.mem_append_right _ (List.mem_append_right _ (List.mem_append_right _ (List.mem_append_right _ (List.mem_append_left _ (List.mem_cons.mpr (Or.inl e)))))))))) (fun h => (List.mem_append.mp h).elim (fun h => (List.mem_cons_of_mem _ (List.mem_append_left _ (List.mem_append_right _ (List.mem_append_right _ (List.mem_append_right _ (List.mem_append_right _ (List.mem_append_left _ (List.mem_cons_of_mem _ h))))))))) (fun h => List.mem_cons_of_mem _ (List.mem_append_right _ h)))) w_y_X0_areWholes_good
theorem g_y_X0_binary_X0_areWholes_V44 : GoodIn w_y_X0_binary (wsV RX0 44 RX0 yX0_areWholes w_y_X0_areWholes) := goodIn_app (nb_g4 (List.mem_cons_of_mem _ (List.mem_append_left _ (List.mem_append_left _ (List.mem_of_getElem? (i := 10) rfl)))) (List.mem_cons_of_mem _ (List.mem_append_left _ (List.mem_append_left _ (List.mem_of_getElem? (i := 11) rfl)))) (List.mem_cons_of_mem _ (List.mem_append_left _ (List.mem_append_left _ (List.mem_of_getElem? (i := 12) rfl)))) (List.mem_cons_of_mem _ (List.mem_append_left _ (List.mem_append_left _ (List.mem_of_getElem? (i := 3) rfl)))) (by decide +kernel)) gg_y_X0_binary_X0_areWholes
theorem gg_y_X0_binary_X0_compared : GoodIn w_y_X0_binary w_y_X0_compared := goodIn_sub (fun w h => (List.mem_cons.mp h).elim (fun e => (List.mem_cons_of_mem _ (List.mem_append_left _ (List.mem_append_right _ (List.mem_append_right _ (List.mem_append_right _ (List.mem_append_right _ (List.mem_append_right _ (List.mem_append_right _ (List.mem_append_right _ (List.mem_append_right _ (List.mem_append_left _ (List.mem_cons.mpr (Or.inl e)))))))))))))) (fun h => (List.mem_append.mp h).elim (fun h => (List.mem_cons_of_mem _ (List.mem_append_left _ (List.mem_append_right _ (List.mem_append_right _ (List.mem_append_right _ (List.mem_append_right _ (List.mem_append_right _ (List.mem_append_right _ (List.mem_append_right _ (List.mem_append_right _ (List.mem_append_left _ (List.mem_cons_of_mem _ h))))))))))))) (fun h => List.mem_cons_of_mem _ (List.mem_append_right _ h)))) w_y_X0_compared_good
theorem g_y_X0_binary_X0_compared_V83 : GoodIn w_y_X0_binary (wsV RX0 83 RX0 yX0_compared w_y_X0_compared) := goodIn_app (nb_g4 (List.mem_cons_of_mem _ (List.mem_append_left _ (List.mem_append_left _ (List.mem_of_getElem? (i := 25) rfl)))) (List.mem_cons_of_mem _ (List.mem_append_left _ (List.mem_append_left _ (List.mem_of_getElem? (i := 26) rfl)))) (List.mem_cons_of_mem _ (List.mem_append_left _ (List.mem_append_left _ (List.mem_of_getElem? (i := 27) rfl)))) (List.mem_cons_of_mem _ (List.mem_append_left _ (List.mem_append_left _ (List.mem_of_getElem? (i := 3) rfl)))) (by decide +kernel)) gg_y_X0_binary_X0_compared
theorem gg_y_X0_binary_X0_contains : GoodIn w_y_X0_binary w_y_X0_contains := goodIn_sub (fun w h => (List.mem_cons.mp h).elim (fun e => (List.mem_cons_of_mem _ (List.mem_append_left _ (List.mem_append_right _ (List.mem_append_right _ (List.mem_append_right _ (List.mem_append_right _ (List.mem_append_right _ (List.mem_append_right _ (List.mem_append_right _ (List.mem_append_right _ (List.mem_append_right _ (List.mem_append_left _ (List.mem_cons.mpr (Or.inl e))))))))))))))) (fun h => (List.mem_append.mp h).elim (fun h => (List.mem_cons_of_mem _ (List.mem_append_left _ (List.mem_append_right _ (List.mem_append_right _ (List.mem_append_right _ (List.mem_append_right _ (List.mem_append_right _ (List.mem_append_right _ (List.mem_append_right _ (List.mem_append_right _ (List.mem_append_right _ (List.mem_append_left _ (List.mem_cons_of_mem _ h)))))))))))))) (fun h => List.mem_cons_of_mem _ (List.mem_append_right _ h)))) w_y_X0_contains_good
theorem g_y_X0_binary_X0_contains_V69 : GoodIn w_y_X0_binary (wsV RX0 69 RX0 yX0_contains w_y_X0_contains) := goodIn_app (nb_g4 (List.mem_cons_of_mem _ (List.mem_append_left _ (List.mem_append_left _ (List.mem_of_getElem? (i := 28) rfl)))) (List.mem_cons_of_mem _ (List.mem_append_left _ (List.mem_append_left _ (List.mem_of_getElem? (i := 29) rfl)))) (List.mem_cons_of_mem _ (List.mem_append_left _ (List.mem_append_left _ (List.mem_of_getElem? (i := 30) rfl)))) (List.mem_cons_of_mem _ (List.mem_append_left _ (List.mem_append_left _ (List.mem_of_getElem? (i := 3) rfl)))) (by decide +kernel)) gg_y_X0_binary_X0_contains
theorem gg_y_X0_binary_X0_difference : GoodIn w_y_X0_binary w_y_X0_difference := goodIn_sub (fun w h => (List.mem_cons.mp h).elim (fun e => (List.mem_cons_of_mem _ (List.mem_append_left _ (List.mem_append_right _ (List.mem_append_right _ (List.mem_append_left _ (List.mem_cons.mpr (Or.inl e)))))))) (fun h => (List.mem_append.mp h).elim (fun h => (List.mem_cons_of_mem _ (List.mem_append_left _ (List.mem_append_right _ (List.mem_append_right _ (List.mem_append_left _ (List.mem_cons_of_mem _ h))))))) (fun h => List.mem_cons_of_mem _ (List.mem_append_right _ h)))) w_y_X0_difference_good
theorem g_y_X0_binary_X0_difference_V38 : GoodIn w_y_X0_binary (wsV RX0 38 RX0 yX0_difference w_y_X0_difference) := goodIn_app (nb_g4 (List.mem_cons_of_mem _ (List.mem_append_left _ (List.mem_append_left _ (List.mem_of_getElem? (i := 4) rfl)))) (List.mem_cons_of_mem _ (List.mem_append_left _ (List.mem_append_left _ (List.mem_of_getElem? (i := 5) rfl)))) (List.mem_cons_of_mem _ (List.mem_append_left _ (List.mem_append_left _ (List.mem_of_getElem? (i := 6) rfl)))) (List.mem_cons_of_mem _ (List.mem_append_left _ (List.mem_append_left _ (List.mem_of_getElem? (i := 3) rfl)))) (by decide +kernel)) gg_y_X0_binary_X0_difference
theorem gg_y_X0_binary_X0_isSubset : GoodIn w_y_X0_binary w_y_X0_isSubset := goodIn_sub (fun w h => (List.mem_cons.mp h).elim (fun e => (List.mem_cons_of_mem _ (List.mem_append_left _ (List.mem_append_right _ (List.mem_append_right _ (List.mem_append_right _ (List.mem_append_right _ (List.mem_append_right _ (List.mem_append_right _ (List.mem_append_right _ (List.mem_append_right _ (List.mem_append_right _ (List.mem_append_right _ (List.mem_append_right _ (List.mem_append_right _ (List.mem_append_left _ (List.mem_cons.mpr (Or.inl e)))))))))))))))))) (fun h => (List.mem_append.mp h).elim (fun h => (List.mem_cons_of_mem _ (List.mem_append_left _ (List.mem_append_right _ (List.mem_append_right _ (List.mem_append_right _ (List.mem_append_right _ (List.mem_append_right _ (List.mem_append_right _ (List.mem_append_right _ (List.mem_append_right _ (List.mem_append_right _ (List.mem_append_right _ (List.mem_append_right _ (List.mem_append_right _ (List.mem_append_left _ (List.mem_cons_of_mem _ h))))))))))))))))) (fun h => List.mem_cons_of_mem _ (List.mem_append_right _ h)))) w_y_X0_isSubset_good
theorem g_y_X0_binary_X0_isSubset_V80 : GoodIn w_y_X0_binary (wsV RX0 80 RX0 yX0_isSubset w_y_X0_isSubset) := goodIn_app (nb_g4 (List.mem_cons_of_mem _ (List.mem_append_left _ (List.mem_append_left _ (List.mem_of_getElem? (i := 35) rfl)))) (List.mem_cons_of_mem _ (List.mem_append_left _ (List.mem_append_left _ (List.mem_of_getElem? (i := 36) rfl)))) (List.mem_cons_of_mem _ (List.mem_append_left _ (List.mem_append_left _ (List.mem_of_getElem? (i := 37) rfl)))) (List.mem_cons_of_mem _ (List.mem_append_left _ (List.mem_append_left _ (List.mem_of_getElem? (i := 3) rfl)))) (by decide +kernel)) gg_y_X0_binary_X0_isSubset
theorem gg_y_X0_binary_X0_product : GoodIn w_y_X0_binary w_y_X0_product := goodIn_sub (fun w h => (List.mem_cons.mp h).elim (fun e => (List.mem_cons_of_mem _ (List.mem_append_left _ (List.mem_append_right _ (List.mem_append_right _ (List.mem_append_right _ (List.mem_append_left _ (List.mem_cons.mpr (Or.inl e))))))))) (fun h => (List.mem_append.mp h).elim (fun h => (List.mem_cons_of_mem _ (List.mem_append_left _ (List.mem_append_right _ (List.mem_append_right _ (List.mem_append_right _ (List.mem_append_left _ (List.mem_cons_of_mem _ h)))))))) (fun h => List.mem_cons_of_mem _ (List.mem_append_right _ h)))) w_y_X0_product_good
theorem g_y_X0_binary_X0_product_V41 : GoodIn w_y_X0_binary (wsV RX0 41 RX0 yX0_product w_y_X0_product) := goodIn_app (nb_g4 (List.mem_cons_of_mem _ (List.mem_append_left _ (List.mem_append_left _ (List.mem_of_getElem? (i := 7) rfl)))) (List.mem_cons_of_mem _ (List.mem_append_left _ (List.mem_append_left _ (List.mem_of_getElem? (i := 8) rfl)))) (List.mem_cons_of_mem _ (List.mem_append_left _ (List.mem_append_left _ (List.mem_of_getElem? (i := 9) rfl)))) (List.mem_cons_of_mem _ (List.mem_append_left _ (List.mem_append_left _ (List.mem_of_getElem? (i := 3) rfl)))) (by decide +kernel)) gg_y_X0_binary_X0_product
theorem gg_y_X0_binary_X0_sum : GoodIn w_y_X0_binary w_y_X0_sum := goodIn_sub (fun w h => (List.mem_cons.mp h).elim (fun e => (List.mem_cons_of_mem _ (List.mem_append_left _ (List.mem_append_right _ (List.mem_append_left _ (List.mem_cons.mpr (Or.inl e))))))) (fun h => (List.mem_append.mp h).elim (fun h => (List.mem_cons_of_mem _ (List.mem_append_left _ (List.mem_append_right _ (List.mem_append_left _ (List.mem_cons_of_mem _ h)))))) (fun h => List.mem_cons_of_mem _ (List.mem_append_right _ h)))) w_y_X0_sum_good
theorem g_y_X0_binary_X0_sum_V34 : GoodIn w_y_X0_binary (wsV RX0 34 RX0 yX0_sum w_y_X0_sum) := goodIn_app (nb_g4 (List.mem_cons_of_mem _ (List.mem_append_left _ (List.mem_append_left _ (List.mem_of_getElem? (i := 0) rfl)))) (List.mem_cons_of_mem _ (List.mem_append_left _ (List.mem_append_left _ (List.mem_of_getElem? (i := 1) rfl)))) (List.mem_cons_of_mem _ (List.mem_append_left _ (List.mem_append_left _ (List.mem_of_getElem? (i := 2) rfl)))) (List.mem_cons_of_mem _ (List.mem_append_left _ (List.mem_append_left _ (List.mem_of_getElem? (i := 3) rfl)))) (by decide +kernel)) gg_y_X0_binary_X0_sum
theorem gg_y_X0_binary_X10_divided : GoodIn w_y_X0_binary w_y_X10_divided := goodIn_sub (fun w h => (List.mem_cons.mp h).elim (fun e => (List.mem_cons_of_mem _ (List.mem_append_left _ (List.mem_append_right _ (List.mem_append_right _ (List.mem_append_right _ (List.mem_append_right _ (List.mem_append_right _ (List.mem_append_right _ (List.mem_append_right _ (List.mem_append_right _ (List.mem_append_right _ (List.mem_append_right _ (List.mem_append_right _ (List.mem_append_right _ (List.mem_append_right _ (List.mem_append_left _ (List.mem_cons.mpr (Or.inl e))))))))))))))))))) (fun h => (List.mem_append.mp h).elim (fun h => (List.mem_cons_of_mem _ (List.mem_append_left _ (List.mem_append_right _ (List.mem_append_right _ (List.mem_append_right _ (List.mem_append_right _ (List.mem_append_right _ (List.mem_append_right _ (List.mem_append_right _ (List.mem_append_right _ (List.mem_append_right _ (List.mem_append_right _ (List.mem_append_right _ (List.mem_append_right _ (List.mem_append_right _ (List.mem_append_left _ (List.mem_cons_of_mem _ h)))))))))))))))))) (fun h => List.mem_cons_of_mem _ (List.mem_append_right _ h)))) w_y_X10_divided_good
theorem g_y_X0_binary_X10_divided_V50 : GoodIn w_y_X0_binary (wsV RX0 50 RX10 yX10_divided w_y_X10_divided) := goodIn_app (nb_g4 (List.mem_cons_of_mem _ (List.mem_append_left _ (List.mem_append_left _ (List.mem_of_getElem? (i := 39) rfl)))) (List.mem_cons_of_mem _ (List.mem_append_left _ (List.mem_append_left _ (List.mem_of_getElem? (i := 40) rfl)))) (List.mem_cons_of_mem _ (List.mem_append_left _ (List.mem_append_left _ (List.mem_of_getElem? (i := 41) rfl)))) (List.mem_cons_of_mem _ (List.mem_append_left _ (List.mem_append_left _ (List.mem_of_getElem? (i := 17) rfl)))) (by decide +kernel)) gg_y_X0_binary_X10_divided
theorem gg_y_X0_binary_X10_power : GoodIn w_y_X0_binary w_y_X10_power := goodIn_sub (fun w h => (List.mem_cons.mp h).elim (fun e => (List.mem_cons_of_mem _ (List.mem_append_left _ (List.mem_append_right _ (List.mem_append_right _ (List.mem_append_right _ (List.mem_append_right _ (List.mem_append_right _ (List.mem_append_left _ (List.mem_cons.mpr (Or.inl e))))))))))) (fun h => (List.mem_append.mp h).elim (fun h => (List.mem_cons_of_mem _ (List.mem_append_left _ (List.mem_append_right _ (List.mem_append_right _ (List.mem_append_right _ (List.mem_append_right _ (List.mem_append_right _ (List.mem_append_left _ (List.mem_cons_of_mem _ h)))))))))) (fun h => List.mem_cons_of_mem _ (List.mem_append_right _ h)))) w_y_X10_power_good
theorem g_y_X0_binary_X10_power_V57 : GoodIn w_y_X0_binary (wsV RX0 57 RX10 yX10_power w_y_X10_power) := goodIn_app (nb_g4 (List.mem_cons_of_mem _ (List.mem_append_left _ (List.mem_append_left _ (List.mem_of_getElem? (i := 14) rfl)))) (List.mem_cons_of_mem _ (List.mem_append_left _ (List.mem_append_left _ (List.mem_of_getElem? (i := 15) rfl)))) (List.mem_cons_of_mem _ (List.mem_append_left _ (List.mem_append_left _ (List.mem_of_getElem? (i := 16) rfl)))) (List.mem_cons_of_mem _ (List.mem_append_left _ (List.mem_append_left _ (List.mem_of_getElem? (i := 17) rfl)))) (by decide +kernel)) gg_y_X0_binary_X10_power
theorem gg_y_X0_binary_X11_isError : GoodIn w_y_X0_binary w_y_X11_isError := goodIn_sub (fun w h => (List.mem_cons.mp h).elim (fun e => (List.mem_cons_of_mem _ (List.mem_append_left _ (List.mem_append_right _ (List.mem_append_right _ (List.mem_append_right _ (List.mem_append_right _ (List.mem_append_right _ (List.mem_append_right _ (List.mem_append_right _ (List.mem_append_right _ (List.mem_append_right _ (List.mem_append_right _ (List.mem_append_left _ (List.mem_cons.mpr (Or.inl e)))))))))))))))) (fun h => (List.mem_append.mp h).elim (fun h => (List.mem_cons_of_mem _ (List.mem_append_left _ (List.mem_append_right _ (List.mem_append_right _ (List.mem_append_right _ (List.mem_append_right _ (List.mem_append_right _ (List.mem_append_right _ (List.mem_append_right _ (List.mem_append_right _ (List.mem_append_right _ (List.mem_append_right _ (List.mem_append_left _ (List.mem_cons_of_mem _ h))))))))))))))) (fun h => List.mem_cons_of_mem _ (List.mem_append_right _ h)))) w_y_X11_isError_good
theorem g_y_X0_binary_X11_isError_SN72 : GoodIn w_y_X0_binary w_y_X11_isError := gg_y_X0_binary_X11_isError
theorem gg_y_X0_binary_X11_truth : GoodIn w_y_X0_binary w_y_X11_truth := goodIn_sub (fun w h => (List.mem_cons.mp h).elim (fun e => (List.mem_cons_of_mem _ (List.mem_append_left _ (List.mem_append_right _ (List.mem_append_right _ (List.mem_append_right _ (List.mem_append_right _ (List.mem_append_right _ (List.mem_append_right _ (List.mem_append_right _ (List.mem_append_left _ (List.mem_cons.mpr (Or.inl e))))))))))))) (fun h => (List.mem_append.mp h).elim (fun h => (List.mem_cons_of_mem _ (List.mem_append_left _ (List.mem_append_right _ (List.mem_append_right _ (List.mem_append_right _ (List.mem_append_right _ (List.mem_append_right _ (List.mem_append_right _ (List.mem_append_right _ (List.mem_append_left _ (List.mem_cons_of_mem _ h)))))))))))) (fun h => List.mem_cons_of_mem _ (List.mem_append_right _ h)))) w_y_X11_truth_good
theorem g_y_X0_binary_X11_truth_SN65 : GoodIn w_y_X0_binary w_y_X11_truth := gg_y_X0_binary_X11_truth
theorem gg_y_X0_binary_X1_same : GoodIn w_y_X0_binary w_y_X1_same := goodIn_sub (fun w h => (List.mem_cons.mp h).elim (fun e => (List.mem_cons_of_mem _ (List.mem_append_left _ (List.mem_append_right _ (List.mem_append_right _ (List.mem_append_right _ (List.mem_append_right _ (List.mem_append_right _ (List.mem_append_right _ (List.mem_append_left _ (List.mem_cons.mpr (Or.inl e)))))))))))) (fun h => (List.mem_append.mp h).elim (fun h => (List.mem_cons_of_mem _ (List.mem_append_left _ (List.mem_append_right _ (List.mem_append_right _ (List.mem_append_right _ (List.mem_append_right _ (List.mem_append_right _ (List.mem_append_right _ (List.mem_append_left _ (List.mem_cons_of_mem _ h))))))))))) (fun h => List.mem_cons_of_mem _ (List.mem_append_right _ h)))) w_y_X1_same_good
theorem g_y_X0_binary_X1_same_V60 : GoodIn w_y_X0_binary (wsV RX0 60 RX1 yX1_same w_y_X1_same) := goodIn_app (nb_g4 (List.mem_cons_of_mem _ (List.mem_append_left _ (List.mem_append_left _ (List.mem_of_getElem? (i := 19) rfl)))) (List.mem_cons_of_mem _ (List.mem_append_left _ (List.mem_append_left _ (List.mem_of_getElem? (i := 20) rfl)))) (List.mem_cons_of_mem _ (List.mem_append_left _ (List.mem_append_left _ (List.mem_of_getElem? (i := 21) rfl)))) (List.mem_cons_of_mem _ (List.mem_append_left _ (List.mem_append_left _ (List.mem_of_getElem? (i := 22) rfl)))) (by decide +kernel)) gg_y_X0_binary_X1_same
set_option maxHeartbeats 40000000 in
set_option maxRecDepth 100000 in
theorem c_y_X0_binary (l : Launch) (dC : Nat → ClassId) (dI : Nat → Nat → Nat) (cy : Nat → ClassId) (a z : Nat → Nat) (k0 : Nat) (L0 : LV) (σ0 : CS) (r0 : Int32 × CS) (h0 : y_X0_binary k0 0 L0 σ0 = some r0) (sz : Nat) : Met l yX0_binary w_y_X0_binary ({ frames := 65, cells := 0, slots := 0, locals := 1816 }) (va_Pc [.ref (a 14), .int (L0.1 1), .int (L0.1 2), .int (L0.1 3)] (nIn (dC, dI) cy sz (vC cy a z σ0))) (va_Qi (fun (x : Int32) (_ : Unit) => x = r0.1) (fun _ t => nOut (dC, dI) cy (va_A (vC cy a z σ0) sz) (vC cy a z r0.2) t) (va_A (vC cy a z σ0) sz)) 0 0 (va_A (vC cy a z σ0) sz) := by
  refine Met.ofW (cc := cX0_binary) (maxL := 5) (ret := (some .int)) (by decide) rfl ?_
  intro p e s m args below meth c s₁ B hml hv
  obtain ⟨rfl, hsz, hP, hK, hD0, hG⟩ := hv
  have hx := B.exec
  have hb := B.bytes
  have hr := B.returns
  have hts := atoms_spec (ws := w_y_X0_binary) B.pre
  have hown : s.vm.findClass RX0 = some m.cls := findClass_of_methodNamed B.named
  have hlocks := B.notSynchronized
  subst hsz
  have hD := hD0.self (sz := s.heap.size)
  generalize hAe : va_A (vC cy a z σ0) s.heap.size = A at hD ⊢
  have hA : ∀ q : Nat, s.heap.size ≤ q → A q := fun q h => by rw [← hAe]; exact Or.inr h
  have hS : va_S A s.heap s.heap [] := va_S.rf
  have hl := lv_entry ([.ref (a 14), .int (L0.1 1), .int (L0.1 2), .int (L0.1 3)]) (n := 5) (Nat.le_of_ble_eq_true rfl)
  rw [lg_entry_eq]
  generalize (lg_sl ([.ref (a 14), .int (L0.1 1), .int (L0.1 2), .int (L0.1 3)]) ++ List.replicate (5 - (lg_sl ([.ref (a 14), .int (L0.1 1), .int (L0.1 2), .int (L0.1 3)])).length) Slot.unset).toArray = ls at hl ⊢
  have hl : lv_has ls 5 [(0, .ref (a 14)), (1, .int (L0.1 1)), (2, .int (L0.1 2)), (3, .int (L0.1 3))] := hl
  have blk : ∀ k : Nat, (bC p l e (headSpec w_y_X0_binary ({ frames := 65, cells := 0, slots := 0, locals := 1816 })).room s m #[.ref (a 14), .int (L0.1 1), .int (L0.1 2), .int (L0.1 3)] below meth c dC dI cy a z A (kI dC dI cy a z A below #[.ref (a 14), .int (L0.1 1), .int (L0.1 2), .int (L0.1 3)] s) 5 (y_X0_binary k 0) (fun L => [(0, .ref (a 14)), (1, .int (L.1 1)), (2, .int (L.1 2)), (3, .int (L.1 3))]) 0 (fun L => [])) ∧ (bC p l e (headSpec w_y_X0_binary ({ frames := 65, cells := 0, slots := 0, locals := 1816 })).room s m #[.ref (a 14), .int (L0.1 1), .int (L0.1 2), .int (L0.1 3)] below meth c dC dI cy a z A (kI dC dI cy a z A below #[.ref (a 14), .int (L0.1 1), .int (L0.1 2), .int (L0.1 3)] s) 5 (y_X0_binary k 1) (fun L => [(0, .ref (a 14)), (2, .int (L.1 2)), (3, .int (L.1 3))]) 76 (fun L => [])) ∧ (bC p l e (headSpec w_y_X0_binary ({ frames := 65, cells := 0, slots := 0, locals := 1816 })).room s m #[.ref (a 14), .int (L0.1 1), .int (L0.1 2), .int (L0.1 3)] below meth c dC dI cy a z A (kI dC dI cy a z A below #[.ref (a 14), .int (L0.1 1), .int (L0.1 2), .int (L0.1 3)] s) 5 (y_X0_binary k 2) (fun L => [(0, .ref (a 14)), (2, .int (L.1 2)), (3, .int (L.1 3))]) 83 (fun L => [])) ∧ (bC p l e (headSpec w_y_X0_binary ({ frames := 65, cells := 0, slots := 0, locals := 1816 })).room s m #[.ref (a 14), .int (L0.1 1), .int (L0.1 2), .int (L0.1 3)] below meth c dC dI cy a z A (kI dC dI cy a z A below #[.ref (a 14), .int (L0.1 1), .int (L0.1 2), .int (L0.1 3)] s) 5 (y_X0_binary k 3) (fun L => [(0, .ref (a 14)), (2, .int (L.1 2)), (3, .int (L.1 3))]) 90 (fun L => [])) ∧ (bC p l e (headSpec w_y_X0_binary ({ frames := 65, cells := 0, slots := 0, locals := 1816 })).room s m #[.ref (a 14), .int (L0.1 1), .int (L0.1 2), .int (L0.1 3)] below meth c dC dI cy a z A (kI dC dI cy a z A below #[.ref (a 14), .int (L0.1 1), .int (L0.1 2), .int (L0.1 3)] s) 5 (y_X0_binary k 4) (fun L => [(0, .ref (a 14)), (1, .int (L.1 1)), (2, .int (L.1 2)), (3, .int (L.1 3))]) 97 (fun L => [])) ∧ (bC p l e (headSpec w_y_X0_binary ({ frames := 65, cells := 0, slots := 0, locals := 1816 })).room s m #[.ref (a 14), .int (L0.1 1), .int (L0.1 2), .int (L0.1 3)] below meth c dC dI cy a z A (kI dC dI cy a z A below #[.ref (a 14), .int (L0.1 1), .int (L0.1 2), .int (L0.1 3)] s) 5 (y_X0_binary k 5) (fun L => [(0, .ref (a 14)), (2, .int (L.1 2)), (3, .int (L.1 3))]) 133 (fun L => [])) ∧ (bC p l e (headSpec w_y_X0_binary ({ frames := 65, cells := 0, slots := 0, locals := 1816 })).room s m #[.ref (a 14), .int (L0.1 1), .int (L0.1 2), .int (L0.1 3)] below meth c dC dI cy a z A (kI dC dI cy a z A below #[.ref (a 14), .int (L0.1 1), .int (L0.1 2), .int (L0.1 3)] s) 5 (y_X0_binary k 6) (fun L => [(0, .ref (a 14)), (2, .int (L.1 2)), (3, .int (L.1 3))]) 157 (fun L => [])) ∧ (bC p l e (headSpec w_y_X0_binary ({ frames := 65, cells := 0, slots := 0, locals := 1816 })).room s m #[.ref (a 14), .int (L0.1 1), .int (L0.1 2), .int (L0.1 3)] below meth c dC dI cy a z A (kI dC dI cy a z A below #[.ref (a 14), .int (L0.1 1), .int (L0.1 2), .int (L0.1 3)] s) 5 (y_X0_binary k 7) (fun L => [(0, .ref (a 14)), (2, .int (L.1 2)), (3, .int (L.1 3))]) 170 (fun L => [])) ∧ (bC p l e (headSpec w_y_X0_binary ({ frames := 65, cells := 0, slots := 0, locals := 1816 })).room s m #[.ref (a 14), .int (L0.1 1), .int (L0.1 2), .int (L0.1 3)] below meth c dC dI cy a z A (kI dC dI cy a z A below #[.ref (a 14), .int (L0.1 1), .int (L0.1 2), .int (L0.1 3)] s) 5 (y_X0_binary k 8) (fun L => [(0, .ref (a 14)), (1, .int (L.1 1)), (2, .int (L.1 2)), (3, .int (L.1 3))]) 259 (fun L => [])) ∧ (bC p l e (headSpec w_y_X0_binary ({ frames := 65, cells := 0, slots := 0, locals := 1816 })).room s m #[.ref (a 14), .int (L0.1 1), .int (L0.1 2), .int (L0.1 3)] below meth c dC dI cy a z A (kI dC dI cy a z A below #[.ref (a 14), .int (L0.1 1), .int (L0.1 2), .int (L0.1 3)] s) 5 (y_X0_binary k 9) (fun L => [(0, .ref (a 14)), (2, .int (L.1 2)), (3, .int (L.1 3))]) 191 (fun L => [])) ∧ (bC p l e (headSpec w_y_X0_binary ({ frames := 65, cells := 0, slots := 0, locals := 1816 })).room s m #[.ref (a 14), .int (L0.1 1), .int (L0.1 2), .int (L0.1 3)] below meth c dC dI cy a z A (kI dC dI cy a z A below #[.ref (a 14), .int (L0.1 1), .int (L0.1 2), .int (L0.1 3)] s) 5 (y_X0_binary k 10) (fun L => [(0, .ref (a 14)), (2, .int (L.1 2)), (3, .int (L.1 3))]) 198 (fun L => [])) ∧ (bC p l e (headSpec w_y_X0_binary ({ frames := 65, cells := 0, slots := 0, locals := 1816 })).room s m #[.ref (a 14), .int (L0.1 1), .int (L0.1 2), .int (L0.1 3)] below meth c dC dI cy a z A (kI dC dI cy a z A below #[.ref (a 14), .int (L0.1 1), .int (L0.1 2), .int (L0.1 3)] s) 5 (y_X0_binary k 11) (fun L => [(0, .ref (a 14)), (2, .int (L.1 2)), (3, .int (L.1 3))]) 235 (fun L => [])) ∧ (bC p l e (headSpec w_y_X0_binary ({ frames := 65, cells := 0, slots := 0, locals := 1816 })).room s m #[.ref (a 14), .int (L0.1 1), .int (L0.1 2), .int (L0.1 3)] below meth c dC dI cy a z A (kI dC dI cy a z A below #[.ref (a 14), .int (L0.1 1), .int (L0.1 2), .int (L0.1 3)] s) 5 (y_X0_binary k 12) (fun L => []) 130 (fun L => [])) ∧ (bC p l e (headSpec w_y_X0_binary ({ frames := 65, cells := 0, slots := 0, locals := 1816 })).room s m #[.ref (a 14), .int (L0.1 1), .int (L0.1 2), .int (L0.1 3)] below meth c dC dI cy a z A (kI dC dI cy a z A below #[.ref (a 14), .int (L0.1 1), .int (L0.1 2), .int (L0.1 3)] s) 5 (y_X0_binary k 13) (fun L => []) 123 (fun L => [.int (L.1 100), .int (L.1 101), .ref (a 4)])) ∧ (bC p l e (headSpec w_y_X0_binary ({ frames := 65, cells := 0, slots := 0, locals := 1816 })).room s m #[.ref (a 14), .int (L0.1 1), .int (L0.1 2), .int (L0.1 3)] below meth c dC dI cy a z A (kI dC dI cy a z A below #[.ref (a 14), .int (L0.1 1), .int (L0.1 2), .int (L0.1 3)] s) 5 (y_X0_binary k 14) (fun L => []) 124 (fun L => [.int (L.1 100), .int (L.1 101), .int (L.1 102), .ref (a 4)])) ∧ (bC p l e (headSpec w_y_X0_binary ({ frames := 65, cells := 0, slots := 0, locals := 1816 })).room s m #[.ref (a 14), .int (L0.1 1), .int (L0.1 2), .int (L0.1 3)] below meth c dC dI cy a z A (kI dC dI cy a z A below #[.ref (a 14), .int (L0.1 1), .int (L0.1 2), .int (L0.1 3)] s) 5 (y_X0_binary k 15) (fun L => []) 154 (fun L => [])) ∧ (bC p l e (headSpec w_y_X0_binary ({ frames := 65, cells := 0, slots := 0, locals := 1816 })).room s m #[.ref (a 14), .int (L0.1 1), .int (L0.1 2), .int (L0.1 3)] below meth c dC dI cy a z A (kI dC dI cy a z A below #[.ref (a 14), .int (L0.1 1), .int (L0.1 2), .int (L0.1 3)] s) 5 (y_X0_binary k 16) (fun L => []) 156 (fun L => [.int (L.1 100)])) ∧ (bC p l e (headSpec w_y_X0_binary ({ frames := 65, cells := 0, slots := 0, locals := 1816 })).room s m #[.ref (a 14), .int (L0.1 1), .int (L0.1 2), .int (L0.1 3)] below meth c dC dI cy a z A (kI dC dI cy a z A below #[.ref (a 14), .int (L0.1 1), .int (L0.1 2), .int (L0.1 3)] s) 5 (y_X0_binary k 17) (fun L => []) 186 (fun L => [])) ∧ (bC p l e (headSpec w_y_X0_binary ({ frames := 65, cells := 0, slots := 0, locals := 1816 })).room s m #[.ref (a 14), .int (L0.1 1), .int (L0.1 2), .int (L0.1 3)] below meth c dC dI cy a z A (kI dC dI cy a z A below #[.ref (a 14), .int (L0.1 1), .int (L0.1 2), .int (L0.1 3)] s) 5 (y_X0_binary k 18) (fun L => []) 187 (fun L => [.int (L.1 100)])) ∧ (bC p l e (headSpec w_y_X0_binary ({ frames := 65, cells := 0, slots := 0, locals := 1816 })).room s m #[.ref (a 14), .int (L0.1 1), .int (L0.1 2), .int (L0.1 3)] below meth c dC dI cy a z A (kI dC dI cy a z A below #[.ref (a 14), .int (L0.1 1), .int (L0.1 2), .int (L0.1 3)] s) 5 (y_X0_binary k 19) (fun L => [(4, .int (L.1 4))]) 219 (fun L => [])) ∧ (bC p l e (headSpec w_y_X0_binary ({ frames := 65, cells := 0, slots := 0, locals := 1816 })).room s m #[.ref (a 14), .int (L0.1 1), .int (L0.1 2), .int (L0.1 3)] below meth c dC dI cy a z A (kI dC dI cy a z A below #[.ref (a 14), .int (L0.1 1), .int (L0.1 2), .int (L0.1 3)] s) 5 (y_X0_binary k 20) (fun L => []) 234 (fun L => [.int (L.1 100)])) ∧ (bC p l e (headSpec w_y_X0_binary ({ frames := 65, cells := 0, slots := 0, locals := 1816 })).room s m #[.ref (a 14), .int (L0.1 1), .int (L0.1 2), .int (L0.1 3)] below meth c dC dI cy a z A (kI dC dI cy a z A below #[.ref (a 14), .int (L0.1 1), .int (L0.1 2), .int (L0.1 3)] s) 5 (y_X0_binary k 21) (fun L => []) 256 (fun L => [])) ∧ (bC p l e (headSpec w_y_X0_binary ({ frames := 65, cells := 0, slots := 0, locals := 1816 })).room s m #[.ref (a 14), .int (L0.1 1), .int (L0.1 2), .int (L0.1 3)] below meth c dC dI cy a z A (kI dC dI cy a z A below #[.ref (a 14), .int (L0.1 1), .int (L0.1 2), .int (L0.1 3)] s) 5 (y_X0_binary k 22) (fun L => []) 258 (fun L => [.int (L.1 100)])) ∧ (bC p l e (headSpec w_y_X0_binary ({ frames := 65, cells := 0, slots := 0, locals := 1816 })).room s m #[.ref (a 14), .int (L0.1 1), .int (L0.1 2), .int (L0.1 3)] below meth c dC dI cy a z A (kI dC dI cy a z A below #[.ref (a 14), .int (L0.1 1), .int (L0.1 2), .int (L0.1 3)] s) 5 (y_X0_binary k 23) (fun L => []) 132 (fun L => [.int (L.1 100)])) ∧ (bC p l e (headSpec w_y_X0_binary ({ frames := 65, cells := 0, slots := 0, locals := 1816 })).room s m #[.ref (a 14), .int (L0.1 1), .int (L0.1 2), .int (L0.1 3)] below meth c dC dI cy a z A (kI dC dI cy a z A below #[.ref (a 14), .int (L0.1 1), .int (L0.1 2), .int (L0.1 3)] s) 5 (y_X0_binary k 24) (fun L => []) 230 (fun L => [])) ∧ (bC p l e (headSpec w_y_X0_binary ({ frames := 65, cells := 0, slots := 0, locals := 1816 })).room s m #[.ref (a 14), .int (L0.1 1), .int (L0.1 2), .int (L0.1 3)] below meth c dC dI cy a z A (kI dC dI cy a z A below #[.ref (a 14), .int (L0.1 1), .int (L0.1 2), .int (L0.1 3)] s) 5 (y_X0_binary k 25) (fun L => []) 231 (fun L => [.int (L.1 100)])) := by
    intro k
    induction k with
    | zero => exact ⟨fun L σ r h => (by cases h), fun L σ r h => (by cases h), fun L σ r h => (by cases h), fun L σ r h => (by cases h), fun L σ r h => (by cases h), fun L σ r h => (by cases h), fun L σ r h => (by cases h), fun L σ r h => (by cases h), fun L σ r h => (by cases h), fun L σ r h => (by cases h), fun L σ r h => (by cases h), fun L σ r h => (by cases h), fun L σ r h => (by cases h), fun L σ r h => (by cases h), fun L σ r h => (by cases h), fun L σ r h => (by cases h), fun L σ r h => (by cases h), fun L σ r h => (by cases h), fun L σ r h => (by cases h), fun L σ r h => (by cases h), fun L σ r h => (by cases h), fun L σ r h => (by cases h), fun L σ r h => (by cases h), fun L σ r h => (by cases h), fun L σ r h => (by cases h), fun L σ r h => (by cases h)⟩
    | succ k ih =>
      refine ⟨?_, ?_, ?_, ?_, ?_, ?_, ?_, ?_, ?_, ?_, ?_, ?_, ?_, ?_, ?_, ?_, ?_, ?_, ?_, ?_, ?_, ?_, ?_, ?_, ?_, ?_⟩
      · intro L σ r h H locs ls hP hD hS hl
        rw [y_X0_binary] at h
        refine lv_iload_n hx hb dX0_binary_0 rfl (lv_at hl 1 rfl) ?_
        by_cases q1 : ((L.1 1)) = (128 : Int32)
        · rw [if_pos q1] at h
          refine lv_tableIn (off := 75) (tgt := 76) hx hb dX0_binary_1 (by rw [q1]; decide) (by rw [q1]; decide) (by rw [q1]; decide) (by decide) ?_
          exact ih.2.1 L σ r h H locs ls hP hD hS (lv_sub hl [0, 2, 3] rfl)
        · rw [if_neg q1] at h
          by_cases q2 : ((L.1 1)) = (129 : Int32)
          · rw [if_pos q2] at h
            refine lv_tableIn (off := 82) (tgt := 83) hx hb dX0_binary_1 (by rw [q2]; decide) (by rw [q2]; decide) (by rw [q2]; decide) (by decide) ?_
            exact ih.2.2.1 L σ r h H locs ls hP hD hS (lv_sub hl [0, 2, 3] rfl)
          · rw [if_neg q2] at h
            by_cases q3 : ((L.1 1)) = (130 : Int32)
            · rw [if_pos q3] at h
              refine lv_tableIn (off := 89) (tgt := 90) hx hb dX0_binary_1 (by rw [q3]; decide) (by rw [q3]; decide) (by rw [q3]; decide) (by decide) ?_
              exact ih.2.2.2.1 L σ r h H locs ls hP hD hS (lv_sub hl [0, 2, 3] rfl)
            · rw [if_neg q3] at h
              by_cases q4 : ((L.1 1)) = (131 : Int32)
              · rw [if_pos q4] at h
                refine lv_tableIn (off := 96) (tgt := 97) hx hb dX0_binary_1 (by rw [q4]; decide) (by rw [q4]; decide) (by rw [q4]; decide) (by decide) ?_
                exact ih.2.2.2.2.1 L σ r h H locs ls hP hD hS (lv_sub hl [0, 1, 2, 3] rfl)
              · rw [if_neg q4] at h
                by_cases q5 : ((L.1 1)) = (132 : Int32)
                · rw [if_pos q5] at h
                  refine lv_tableIn (off := 96) (tgt := 97) hx hb dX0_binary_1 (by rw [q5]; decide) (by rw [q5]; decide) (by rw [q5]; decide) (by decide) ?_
                  exact ih.2.2.2.2.1 L σ r h H locs ls hP hD hS (lv_sub hl [0, 1, 2, 3] rfl)
                · rw [if_neg q5] at h
                  by_cases q6 : ((L.1 1)) = (133 : Int32)
                  · rw [if_pos q6] at h
                    refine lv_tableIn (off := 132) (tgt := 133) hx hb dX0_binary_1 (by rw [q6]; decide) (by rw [q6]; decide) (by rw [q6]; decide) (by decide) ?_
                    exact ih.2.2.2.2.2.1 L σ r h H locs ls hP hD hS (lv_sub hl [0, 2, 3] rfl)
                  · rw [if_neg q6] at h
                    by_cases q7 : ((L.1 1)) = (134 : Int32)
                    · rw [if_pos q7] at h
                      refine lv_tableIn (off := 156) (tgt := 157) hx hb dX0_binary_1 (by rw [q7]; decide) (by rw [q7]; decide) (by rw [q7]; decide) (by decide) ?_
                      exact ih.2.2.2.2.2.2.1 L σ r h H locs ls hP hD hS (lv_sub hl [0, 2, 3] rfl)
                    · rw [if_neg q7] at h
                      by_cases q8 : ((L.1 1)) = (135 : Int32)
                      · rw [if_pos q8] at h
                        refine lv_tableIn (off := 169) (tgt := 170) hx hb dX0_binary_1 (by rw [q8]; decide) (by rw [q8]; decide) (by rw [q8]; decide) (by decide) ?_
                        exact ih.2.2.2.2.2.2.2.1 L σ r h H locs ls hP hD hS (lv_sub hl [0, 2, 3] rfl)
                      · rw [if_neg q8] at h
                        by_cases q9 : ((L.1 1)) = (136 : Int32)
                        · rw [if_pos q9] at h
                          refine lv_tableIn (off := 258) (tgt := 259) hx hb dX0_binary_1 (by rw [q9]; decide) (by rw [q9]; decide) (by rw [q9]; decide) (by decide) ?_
                          exact ih.2.2.2.2.2.2.2.2.1 L σ r h H locs ls hP hD hS (lv_sub hl [0, 1, 2, 3] rfl)
                        · rw [if_neg q9] at h
                          by_cases q10 : ((L.1 1)) = (137 : Int32)
                          · rw [if_pos q10] at h
                            refine lv_tableIn (off := 258) (tgt := 259) hx hb dX0_binary_1 (by rw [q10]; decide) (by rw [q10]; decide) (by rw [q10]; decide) (by decide) ?_
                            exact ih.2.2.2.2.2.2.2.2.1 L σ r h H locs ls hP hD hS (lv_sub hl [0, 1, 2, 3] rfl)
                          · rw [if_neg q10] at h
                            by_cases q11 : ((L.1 1)) = (138 : Int32)
                            · rw [if_pos q11] at h
                              refine lv_tableIn (off := 258) (tgt := 259) hx hb dX0_binary_1 (by rw [q11]; decide) (by rw [q11]; decide) (by rw [q11]; decide) (by decide) ?_
                              exact ih.2.2.2.2.2.2.2.2.1 L σ r h H locs ls hP hD hS (lv_sub hl [0, 1, 2, 3] rfl)
                            · rw [if_neg q11] at h
                              by_cases q12 : ((L.1 1)) = (139 : Int32)
                              · rw [if_pos q12] at h
                                refine lv_tableIn (off := 258) (tgt := 259) hx hb dX0_binary_1 (by rw [q12]; decide) (by rw [q12]; decide) (by rw [q12]; decide) (by decide) ?_
                                exact ih.2.2.2.2.2.2.2.2.1 L σ r h H locs ls hP hD hS (lv_sub hl [0, 1, 2, 3] rfl)
                              · rw [if_neg q12] at h
                                by_cases q13 : ((L.1 1)) = (140 : Int32)
                                · rw [if_pos q13] at h
                                  refine lv_tableIn (off := 190) (tgt := 191) hx hb dX0_binary_1 (by rw [q13]; decide) (by rw [q13]; decide) (by rw [q13]; decide) (by decide) ?_
                                  exact ih.2.2.2.2.2.2.2.2.2.1 L σ r h H locs ls hP hD hS (lv_sub hl [0, 2, 3] rfl)
                                · rw [if_neg q13] at h
                                  by_cases q14 : ((L.1 1)) = (141 : Int32)
                                  · rw [if_pos q14] at h
                                    refine lv_tableIn (off := 197) (tgt := 198) hx hb dX0_binary_1 (by rw [q14]; decide) (by rw [q14]; decide) (by rw [q14]; decide) (by decide) ?_
                                    exact ih.2.2.2.2.2.2.2.2.2.2.1 L σ r h H locs ls hP hD hS (lv_sub hl [0, 2, 3] rfl)
                                  · rw [if_neg q14] at h
                                    by_cases q15 : ((L.1 1)) = (142 : Int32)
                                    · rw [if_pos q15] at h
                                      refine lv_tableIn (off := 234) (tgt := 235) hx hb dX0_binary_1 (by rw [q15]; decide) (by rw [q15]; decide) (by rw [q15]; decide) (by decide) ?_
                                      exact ih.2.2.2.2.2.2.2.2.2.2.2.1 L σ r h H locs ls hP hD hS (lv_sub hl [0, 2, 3] rfl)
                                    · rw [if_neg q15] at h
                                      have nq1 : ¬ ((L.1 1)).toInt = 128 := nb_ti q1 rfl
                                      have nq2 : ¬ ((L.1 1)).toInt = 129 := nb_ti q2 rfl
                                      have nq3 : ¬ ((L.1 1)).toInt = 130 := nb_ti q3 rfl
                                      have nq4 : ¬ ((L.1 1)).toInt = 131 := nb_ti q4 rfl
                                      have nq5 : ¬ ((L.1 1)).toInt = 132 := nb_ti q5 rfl
                                      have nq6 : ¬ ((L.1 1)).toInt = 133 := nb_ti q6 rfl
                                      have nq7 : ¬ ((L.1 1)).toInt = 134 := nb_ti q7 rfl
                                      have nq8 : ¬ ((L.1 1)).toInt = 135 := nb_ti q8 rfl
                                      have nq9 : ¬ ((L.1 1)).toInt = 136 := nb_ti q9 rfl
                                      have nq10 : ¬ ((L.1 1)).toInt = 137 := nb_ti q10 rfl
                                      have nq11 : ¬ ((L.1 1)).toInt = 138 := nb_ti q11 rfl
                                      have nq12 : ¬ ((L.1 1)).toInt = 139 := nb_ti q12 rfl
                                      have nq13 : ¬ ((L.1 1)).toInt = 140 := nb_ti q13 rfl
                                      have nq14 : ¬ ((L.1 1)).toInt = 141 := nb_ti q14 rfl
                                      have nq15 : ¬ ((L.1 1)).toInt = 142 := nb_ti q15 rfl
                                      refine lv_tableOut (tgt := 259) hx hb dX0_binary_1 (by omega) (by decide) ?_
                                      exact ih.2.2.2.2.2.2.2.2.1 L σ r h H locs ls hP hD hS (lv_sub hl [0, 1, 2, 3] rfl)
      · intro L σ r h H locs ls hP hD hS hl
        rw [y_X0_binary] at h
        refine lv_aload_n hx hb dX0_binary_76 rfl (lv_at hl 0 rfl) ?_
        refine lv_iload_n hx hb dX0_binary_77 rfl (lv_at hl 1 rfl) ?_
        refine lv_iload_n hx hb dX0_binary_78 rfl (lv_at hl 2 rfl) ?_
        obtain ⟨r1, hc1, h⟩ := oc_ex h
        refine kc_i (va_runV (As := [.int (L.1 2), .int (L.1 3)]) (rest := []) ⟨hx, hb, hml, hown, hts⟩ (c_y_X0_sum l dC dI cy a z k (lI (lI lZ 1 ((L.1 2))) 2 ((L.1 3))) σ r1 hc1 H.size) (cwV 2 hts g_y_X0_binary_X0_sum_V34 rfl rfl rfl hd_y_X0_sum ⟨Nat.le_of_ble_eq_true rfl, Nat.le_of_ble_eq_true rfl⟩) ⟨nb_blind, va_recv hK hP (ci := 0) (q0 := 14) rfl rfl, (kb_pre hK hG hP hD)⟩ rfl rfl hl.1 rfl (lv_room (Nat.le_of_ble_eq_true rfl)) dX0_binary_79 ⟨Nat.le_refl _, Nat.le_refl _⟩) hA hP hD hS (fun H locs hP hD hS => ?_)
        obtain rfl := Option.some.inj h
        exact W.iret (v := r1.1) hx hb hr (fun t ht hW => ⟨⟨r1.1, (), rfl, rfl, by rw [ht]; exact hP, va_K.moved hW.alike hK, hD⟩, hS.F ht⟩) hS.2.2 dX0_binary_82
      · intro L σ r h H locs ls hP hD hS hl
        rw [y_X0_binary] at h
        refine lv_aload_n hx hb dX0_binary_83 rfl (lv_at hl 0 rfl) ?_
        refine lv_iload_n hx hb dX0_binary_84 rfl (lv_at hl 1 rfl) ?_
        refine lv_iload_n hx hb dX0_binary_85 rfl (lv_at hl 2 rfl) ?_
        obtain ⟨r1, hc1, h⟩ := oc_ex h
        refine kc_i (va_runV (As := [.int (L.1 2), .int (L.1 3)]) (rest := []) ⟨hx, hb, hml, hown, hts⟩ (c_y_X0_difference l dC dI cy a z k (lI (lI lZ 1 ((L.1 2))) 2 ((L.1 3))) σ r1 hc1 H.size) (cwV 2 hts g_y_X0_binary_X0_difference_V38 rfl rfl rfl hd_y_X0_difference ⟨Nat.le_of_ble_eq_true rfl, Nat.le_of_ble_eq_true rfl⟩) ⟨nb_blind, va_recv hK hP (ci := 0) (q0 := 14) rfl rfl, (kb_pre hK hG hP hD)⟩ rfl rfl hl.1 rfl (lv_room (Nat.le_of_ble_eq_true rfl)) dX0_binary_86 ⟨Nat.le_refl _, Nat.le_refl _⟩) hA hP hD hS (fun H locs hP hD hS => ?_)
        obtain rfl := Option.some.inj h
        exact W.iret (v := r1.1) hx hb hr (fun t ht hW => ⟨⟨r1.1, (), rfl, rfl, by rw [ht]; exact hP, va_K.moved hW.alike hK, hD⟩, hS.F ht⟩) hS.2.2 dX0_binary_89
      · intro L σ r h H locs ls hP hD hS hl
        rw [y_X0_binary] at h
        refine lv_aload_n hx hb dX0_binary_90 rfl (lv_at hl 0 rfl) ?_
        refine lv_iload_n hx hb dX0_binary_91 rfl (lv_at hl 1 rfl) ?_
        refine lv_iload_n hx hb dX0_binary_92 rfl (lv_at hl 2 rfl) ?_
        obtain ⟨r1, hc1, h⟩ := oc_ex h
        refine kc_i (va_runV (As := [.int (L.1 2), .int (L.1 3)]) (rest := []) ⟨hx, hb, hml, hown, hts⟩ (c_y_X0_product l dC dI cy a z k (lI (lI lZ 1 ((L.1 2))) 2 ((L.1 3))) σ r1 hc1 H.size) (cwV 2 hts g_y_X0_binary_X0_product_V41 rfl rfl rfl hd_y_X0_product ⟨Nat.le_of_ble_eq_true rfl, Nat.le_of_ble_eq_true rfl⟩) ⟨nb_blind, va_recv hK hP (ci := 0) (q0 := 14) rfl rfl, (kb_pre hK hG hP hD)⟩ rfl rfl hl.1 rfl (lv_room (Nat.le_of_ble_eq_true rfl)) dX0_binary_93 ⟨Nat.le_refl _, Nat.le_refl _⟩) hA hP hD hS (fun H locs hP hD hS => ?_)
        obtain rfl := Option.some.inj h
        exact W.iret (v := r1.1) hx hb hr (fun t ht hW => ⟨⟨r1.1, (), rfl, rfl, by rw [ht]; exact hP, va_K.moved hW.alike hK, hD⟩, hS.F ht⟩) hS.2.2 dX0_binary_96
      · intro L σ r h H locs ls hP hD hS hl
        rw [y_X0_binary] at h
        refine lv_aload_n hx hb dX0_binary_97 rfl (lv_at hl 0 rfl) ?_
        refine lv_iload_n hx hb dX0_binary_98 rfl (lv_at hl 2 rfl) ?_
        refine lv_iload_n hx hb dX0_binary_99 rfl (lv_at hl 3 rfl) ?_
        obtain ⟨r1, hc1, h⟩ := oc_ex h
        refine kc_i (va_runV (As := [.int (L.1 2), .int (L.1 3)]) (rest := []) ⟨hx, hb, hml, hown, hts⟩ (c_y_X0_areWholes l dC dI cy a z k (lI (lI lZ 1 ((L.1 2))) 2 ((L.1 3))) σ r1 hc1 H.size) (cwV 2 hts g_y_X0_binary_X0_areWholes_V44 rfl rfl rfl hd_y_X0_areWholes ⟨Nat.le_of_ble_eq_true rfl, Nat.le_of_ble_eq_true rfl⟩) ⟨nb_blind, va_recv hK hP (ci := 0) (q0 := 14) rfl rfl, (kb_pre hK hG hP hD)⟩ rfl rfl hl.1 rfl (lv_room (Nat.le_of_ble_eq_true rfl)) dX0_binary_100 ⟨Nat.le_refl _, Nat.le_refl _⟩) hA hP hD hS (fun H locs hP hD hS => ?_)
        refine lv_if_eq (tgt := 130) hx hb dX0_binary_103 (by decide) (fun c2 => ?_) (fun c2 => ?_)
        · rw [if_pos c2] at h
          exact ih.2.2.2.2.2.2.2.2.2.2.2.2.1 L r1.2 r h H locs ls hP hD hS (lv_sub hl [] rfl)
        · rw [if_neg c2] at h
          refine lv_aload_n hx hb dX0_binary_106 rfl (lv_at hl 0 rfl) ?_
          refine hg_14_1 hx hb hts in_y_X0_binary_X0 hown hK hP (hts _ (List.mem_cons_of_mem _ (List.mem_append_left _ (List.mem_append_left _ (List.mem_of_getElem? (i := 13) rfl))))) dX0_binary_107 ?_
          refine lv_iload_n hx hb dX0_binary_110 rfl (lv_at hl 2 rfl) ?_
          refine lv_iload_n hx hb dX0_binary_111 rfl (lv_at hl 3 rfl) ?_
          refine lv_iload_n hx hb dX0_binary_112 rfl (lv_at hl 1 rfl) ?_
          refine lv_sipush (v := 132) hx hb dX0_binary_113 (by decide) ?_
          refine lv_icmp_ne (tgt := 123) hx hb dX0_binary_116 (by decide) (fun c3 => ?_) (fun c3 => ?_)
          · rw [if_neg c3] at h
            exact ih.2.2.2.2.2.2.2.2.2.2.2.2.2.1 (lI (lI L 100 ((L.1 3))) 101 ((L.1 2))) r1.2 r h H locs ls hP hD hS (lv_sub hl [] rfl)
          · rw [if_pos c3] at h
            refine lv_iconst (v := 1) hx hb dX0_binary_119 (by decide) ?_
            refine lv_goto (tgt := 124) hx hb dX0_binary_120 (by decide) ?_
            exact ih.2.2.2.2.2.2.2.2.2.2.2.2.2.2.1 (lI (lI (lI L 100 1) 101 ((L.1 3))) 102 ((L.1 2))) r1.2 r h H locs ls hP hD hS (lv_sub hl [] rfl)
      · intro L σ r h H locs ls hP hD hS hl
        rw [y_X0_binary] at h
        refine lv_aload_n hx hb dX0_binary_133 rfl (lv_at hl 0 rfl) ?_
        refine lv_iload_n hx hb dX0_binary_134 rfl (lv_at hl 1 rfl) ?_
        refine lv_iload_n hx hb dX0_binary_135 rfl (lv_at hl 2 rfl) ?_
        obtain ⟨r1, hc1, h⟩ := oc_ex h
        refine kc_i (va_runV (As := [.int (L.1 2), .int (L.1 3)]) (rest := []) ⟨hx, hb, hml, hown, hts⟩ (c_y_X0_areWholes l dC dI cy a z k (lI (lI lZ 1 ((L.1 2))) 2 ((L.1 3))) σ r1 hc1 H.size) (cwV 2 hts g_y_X0_binary_X0_areWholes_V44 rfl rfl rfl hd_y_X0_areWholes ⟨Nat.le_of_ble_eq_true rfl, Nat.le_of_ble_eq_true rfl⟩) ⟨nb_blind, va_recv hK hP (ci := 0) (q0 := 14) rfl rfl, (kb_pre hK hG hP hD)⟩ rfl rfl hl.1 rfl (lv_room (Nat.le_of_ble_eq_true rfl)) dX0_binary_136 ⟨Nat.le_refl _, Nat.le_refl _⟩) hA hP hD hS (fun H locs hP hD hS => ?_)
        refine lv_if_eq (tgt := 154) hx hb dX0_binary_139 (by decide) (fun c2 => ?_) (fun c2 => ?_)
        · rw [if_pos c2] at h
          exact ih.2.2.2.2.2.2.2.2.2.2.2.2.2.2.2.1 L r1.2 r h H locs ls hP hD hS (lv_sub hl [] rfl)
        · rw [if_neg c2] at h
          refine lv_aload_n hx hb dX0_binary_142 rfl (lv_at hl 0 rfl) ?_
          refine hg_14_1 hx hb hts in_y_X0_binary_X0 hown hK hP (hts _ (List.mem_cons_of_mem _ (List.mem_append_left _ (List.mem_append_left _ (List.mem_of_getElem? (i := 13) rfl))))) dX0_binary_143 ?_
          refine lv_iload_n hx hb dX0_binary_146 rfl (lv_at hl 1 rfl) ?_
          refine lv_iload_n hx hb dX0_binary_147 rfl (lv_at hl 2 rfl) ?_
          obtain ⟨r3, hc3, h⟩ := oc_ex h
          refine kc_i (va_runV (As := [.int (L.1 2), .int (L.1 3)]) (rest := []) ⟨hx, hb, hml, hown, hts⟩ (c_y_X10_power l dC dI cy a z k (lI (lI lZ 1 ((L.1 2))) 2 ((L.1 3))) r1.2 r3 hc3 H.size) (cwV 2 hts g_y_X0_binary_X10_power_V57 rfl rfl rfl hd_y_X10_power ⟨Nat.le_of_ble_eq_true rfl, Nat.le_of_ble_eq_true rfl⟩) ⟨nb_blind, va_recv hK hP (ci := 9) (q0 := 4) rfl rfl, (kb_pre hK hG hP hD)⟩ rfl rfl hl.1 rfl (lv_room (Nat.le_of_ble_eq_true rfl)) dX0_binary_148 ⟨Nat.le_refl _, Nat.le_refl _⟩) hA hP hD hS (fun H locs hP hD hS => ?_)
          refine lv_goto (tgt := 156) hx hb dX0_binary_151 (by decide) ?_
          exact ih.2.2.2.2.2.2.2.2.2.2.2.2.2.2.2.2.1 (lI L 100 r3.1) r3.2 r h H locs ls hP hD hS (lv_sub hl [] rfl)
      · intro L σ r h H locs ls hP hD hS hl
        rw [y_X0_binary] at h
        refine lv_aload_n hx hb dX0_binary_157 rfl (lv_at hl 0 rfl) ?_
        refine hg_14_0 hx hb hts in_y_X0_binary_X0 hown hK hP (hts _ (List.mem_cons_of_mem _ (List.mem_append_left _ (List.mem_append_left _ (List.mem_of_getElem? (i := 18) rfl))))) dX0_binary_158 ?_
        refine lv_iload_n hx hb dX0_binary_161 rfl (lv_at hl 1 rfl) ?_
        refine lv_iload_n hx hb dX0_binary_162 rfl (lv_at hl 2 rfl) ?_
        obtain ⟨r1, hc1, h⟩ := oc_ex h
        refine kc_i (va_runV (As := [.int (L.1 2), .int (L.1 3)]) (rest := []) ⟨hx, hb, hml, hown, hts⟩ (c_y_X1_same l dC dI cy a z k (lI (lI lZ 1 ((L.1 2))) 2 ((L.1 3))) σ r1 hc1 H.size) (cwV 2 hts g_y_X0_binary_X1_same_V60 rfl rfl rfl hd_y_X1_same ⟨Nat.le_of_ble_eq_true rfl, Nat.le_of_ble_eq_true rfl⟩) ⟨nb_blind, va_recv hK hP (ci := 1) (q0 := 0) rfl rfl, (kb_pre hK hG hP hD)⟩ rfl rfl hl.1 rfl (lv_room (Nat.le_of_ble_eq_true rfl)) dX0_binary_163 ⟨Nat.le_refl _, Nat.le_refl _⟩) hA hP hD hS (fun H locs hP hD hS => ?_)
        obtain ⟨r2, hc2, h⟩ := oc_ex h
        refine kc_i (va_runSN (As := [.int r1.1]) (rest := []) ⟨hx, hb, hml, hown, hts⟩ (c_y_X11_truth l dC dI cy a z k (lI lZ 0 r1.1) r1.2 r2 hc2 H.size) ⟨va_cnB 1 hts g_y_X0_binary_X11_truth_SN65 rfl rfl rfl (hG.1 _ (List.mem_of_getElem? (i := 106) rfl)) (hts _ (List.mem_cons_of_mem _ (List.mem_append_left _ (List.mem_append_left _ (List.mem_of_getElem? (i := 23) rfl))))) hd_y_X11_truth ⟨Nat.le_of_ble_eq_true rfl, Nat.le_of_ble_eq_true rfl⟩, (hts _ (List.mem_cons_of_mem _ (List.mem_append_left _ (List.mem_append_left _ (List.mem_of_getElem? (i := 24) rfl))))), trivial⟩ ⟨nb_blind, (kb_pre hK hG hP hD)⟩ rfl rfl hl.1 rfl (lv_room (Nat.le_of_ble_eq_true rfl)) dX0_binary_166 ⟨Nat.le_refl _, Nat.le_refl _⟩) hA hP hD hS (fun H locs hP hD hS => ?_)
        obtain rfl := Option.some.inj h
        exact W.iret (v := r2.1) hx hb hr (fun t ht hW => ⟨⟨r2.1, (), rfl, rfl, by rw [ht]; exact hP, va_K.moved hW.alike hK, hD⟩, hS.F ht⟩) hS.2.2 dX0_binary_169
      · intro L σ r h H locs ls hP hD hS hl
        rw [y_X0_binary] at h
        refine lv_aload_n hx hb dX0_binary_170 rfl (lv_at hl 0 rfl) ?_
        refine hg_14_0 hx hb hts in_y_X0_binary_X0 hown hK hP (hts _ (List.mem_cons_of_mem _ (List.mem_append_left _ (List.mem_append_left _ (List.mem_of_getElem? (i := 18) rfl))))) dX0_binary_171 ?_
        refine lv_iload_n hx hb dX0_binary_174 rfl (lv_at hl 1 rfl) ?_
        refine lv_iload_n hx hb dX0_binary_175 rfl (lv_at hl 2 rfl) ?_
        obtain ⟨r1, hc1, h⟩ := oc_ex h
        refine kc_i (va_runV (As := [.int (L.1 2), .int (L.1 3)]) (rest := []) ⟨hx, hb, hml, hown, hts⟩ (c_y_X1_same l dC dI cy a z k (lI (lI lZ 1 ((L.1 2))) 2 ((L.1 3))) σ r1 hc1 H.size) (cwV 2 hts g_y_X0_binary_X1_same_V60 rfl rfl rfl hd_y_X1_same ⟨Nat.le_of_ble_eq_true rfl, Nat.le_of_ble_eq_true rfl⟩) ⟨nb_blind, va_recv hK hP (ci := 1) (q0 := 0) rfl rfl, (kb_pre hK hG hP hD)⟩ rfl rfl hl.1 rfl (lv_room (Nat.le_of_ble_eq_true rfl)) dX0_binary_176 ⟨Nat.le_refl _, Nat.le_refl _⟩) hA hP hD hS (fun H locs hP hD hS => ?_)
        refine lv_if_ne (tgt := 186) hx hb dX0_binary_179 (by decide) (fun c2 => ?_) (fun c2 => ?_)
        · rw [if_neg c2] at h
          exact ih.2.2.2.2.2.2.2.2.2.2.2.2.2.2.2.2.2.1 L r1.2 r h H locs ls hP hD hS (lv_sub hl [] rfl)
        · rw [if_pos c2] at h
          refine lv_iconst (v := 1) hx hb dX0_binary_182 (by decide) ?_
          refine lv_goto (tgt := 187) hx hb dX0_binary_183 (by decide) ?_
          exact ih.2.2.2.2.2.2.2.2.2.2.2.2.2.2.2.2.2.2.1 (lI L 100 1) r1.2 r h H locs ls hP hD hS (lv_sub hl [] rfl)
      · intro L σ r h H locs ls hP hD hS hl
        rw [y_X0_binary] at h
        refine lv_aload_n hx hb dX0_binary_259 rfl (lv_at hl 0 rfl) ?_
        refine lv_iload_n hx hb dX0_binary_260 rfl (lv_at hl 1 rfl) ?_
        refine lv_iload_n hx hb dX0_binary_261 rfl (lv_at hl 2 rfl) ?_
        refine lv_iload_n hx hb dX0_binary_262 rfl (lv_at hl 3 rfl) ?_
        obtain ⟨r1, hc1, h⟩ := oc_ex h
        refine kc_i (va_runV (As := [.int (L.1 1), .int (L.1 2), .int (L.1 3)]) (rest := []) ⟨hx, hb, hml, hown, hts⟩ (c_y_X0_compared l dC dI cy a z k (lI (lI (lI lZ 1 ((L.1 1))) 2 ((L.1 2))) 3 ((L.1 3))) σ r1 hc1 H.size) (cwV 3 hts g_y_X0_binary_X0_compared_V83 rfl rfl rfl hd_y_X0_compared ⟨Nat.le_of_ble_eq_true rfl, Nat.le_of_ble_eq_true rfl⟩) ⟨nb_blind, va_recv hK hP (ci := 0) (q0 := 14) rfl rfl, (kb_pre hK hG hP hD)⟩ rfl rfl hl.1 rfl (lv_room (Nat.le_of_ble_eq_true rfl)) dX0_binary_263 ⟨Nat.le_refl _, Nat.le_refl _⟩) hA hP hD hS (fun H locs hP hD hS => ?_)
        obtain rfl := Option.some.inj h
        exact W.iret (v := r1.1) hx hb hr (fun t ht hW => ⟨⟨r1.1, (), rfl, rfl, by rw [ht]; exact hP, va_K.moved hW.alike hK, hD⟩, hS.F ht⟩) hS.2.2 dX0_binary_266
      · intro L σ r h H locs ls hP hD hS hl
        rw [y_X0_binary] at h
        refine lv_aload_n hx hb dX0_binary_191 rfl (lv_at hl 0 rfl) ?_
        refine lv_iload_n hx hb dX0_binary_192 rfl (lv_at hl 2 rfl) ?_
        refine lv_iload_n hx hb dX0_binary_193 rfl (lv_at hl 1 rfl) ?_
        obtain ⟨r1, hc1, h⟩ := oc_ex h
        refine kc_i (va_runV (As := [.int (L.1 3), .int (L.1 2)]) (rest := []) ⟨hx, hb, hml, hown, hts⟩ (c_y_X0_contains l dC dI cy a z k (lI (lI lZ 1 ((L.1 3))) 2 ((L.1 2))) σ r1 hc1 H.size) (cwV 2 hts g_y_X0_binary_X0_contains_V69 rfl rfl rfl hd_y_X0_contains ⟨Nat.le_of_ble_eq_true rfl, Nat.le_of_ble_eq_true rfl⟩) ⟨nb_blind, va_recv hK hP (ci := 0) (q0 := 14) rfl rfl, (kb_pre hK hG hP hD)⟩ rfl rfl hl.1 rfl (lv_room (Nat.le_of_ble_eq_true rfl)) dX0_binary_194 ⟨Nat.le_refl _, Nat.le_refl _⟩) hA hP hD hS (fun H locs hP hD hS => ?_)
        obtain rfl := Option.some.inj h
        exact W.iret (v := r1.1) hx hb hr (fun t ht hW => ⟨⟨r1.1, (), rfl, rfl, by rw [ht]; exact hP, va_K.moved hW.alike hK, hD⟩, hS.F ht⟩) hS.2.2 dX0_binary_197
      · intro L σ r h H locs ls hP hD hS hl
        rw [y_X0_binary] at h
        refine lv_aload_n hx hb dX0_binary_198 rfl (lv_at hl 0 rfl) ?_
        refine lv_iload_n hx hb dX0_binary_199 rfl (lv_at hl 2 rfl) ?_
        refine lv_iload_n hx hb dX0_binary_200 rfl (lv_at hl 1 rfl) ?_
        obtain ⟨r1, hc1, h⟩ := oc_ex h
        refine kc_i (va_runV (As := [.int (L.1 3), .int (L.1 2)]) (rest := []) ⟨hx, hb, hml, hown, hts⟩ (c_y_X0_contains l dC dI cy a z k (lI (lI lZ 1 ((L.1 3))) 2 ((L.1 2))) σ r1 hc1 H.size) (cwV 2 hts g_y_X0_binary_X0_contains_V69 rfl rfl rfl hd_y_X0_contains ⟨Nat.le_of_ble_eq_true rfl, Nat.le_of_ble_eq_true rfl⟩) ⟨nb_blind, va_recv hK hP (ci := 0) (q0 := 14) rfl rfl, (kb_pre hK hG hP hD)⟩ rfl rfl hl.1 rfl (lv_room (Nat.le_of_ble_eq_true rfl)) dX0_binary_201 ⟨Nat.le_refl _, Nat.le_refl _⟩) hA hP hD hS (fun H locs hP hD hS => ?_)
        refine lv_istore (lv' := [(4, .int r1.1), (0, .ref (a 14)), (2, .int (L.1 2)), (3, .int (L.1 3))]) hx hb dX0_binary_204 hl (by decide) rfl (fun ls hl => ?_)
        refine lv_iload hx hb dX0_binary_206 (lv_at hl 0 rfl) ?_
        obtain ⟨r2, hc2, h⟩ := oc_ex h
        refine kc_i (va_runSN (As := [.int r1.1]) (rest := []) ⟨hx, hb, hml, hown, hts⟩ (c_y_X11_isError l dC dI cy a z k (lI lZ 0 r1.1) r1.2 r2 hc2 H.size) ⟨va_cnB 1 hts g_y_X0_binary_X11_isError_SN72 rfl rfl rfl (hG.1 _ (List.mem_of_getElem? (i := 105) rfl)) (hts _ (List.mem_cons_of_mem _ (List.mem_append_left _ (List.mem_append_left _ (List.mem_of_getElem? (i := 23) rfl))))) hd_y_X11_isError ⟨Nat.le_of_ble_eq_true rfl, Nat.le_of_ble_eq_true rfl⟩, (hts _ (List.mem_cons_of_mem _ (List.mem_append_left _ (List.mem_append_left _ (List.mem_of_getElem? (i := 31) rfl))))), trivial⟩ ⟨nb_blind, (kb_pre hK hG hP hD)⟩ rfl rfl hl.1 rfl (lv_room (Nat.le_of_ble_eq_true rfl)) dX0_binary_208 ⟨Nat.le_refl _, Nat.le_refl _⟩) hA hP hD hS (fun H locs hP hD hS => ?_)
        refine lv_if_eq (tgt := 219) hx hb dX0_binary_211 (by decide) (fun c3 => ?_) (fun c3 => ?_)
        · rw [if_pos c3] at h
          exact ih.2.2.2.2.2.2.2.2.2.2.2.2.2.2.2.2.2.2.2.1 (lI L 4 r1.1) r2.2 r h H locs ls hP hD hS (lv_sub hl [0] rfl)
        · rw [if_neg c3] at h
          refine lv_iload hx hb dX0_binary_214 (lv_at hl 0 rfl) ?_
          refine lv_goto (tgt := 234) hx hb dX0_binary_216 (by decide) ?_
          exact ih.2.2.2.2.2.2.2.2.2.2.2.2.2.2.2.2.2.2.2.2.1 (lI L 100 r1.1) r2.2 r h H locs ls hP hD hS (lv_sub hl [] rfl)
      · intro L σ r h H locs ls hP hD hS hl
        rw [y_X0_binary] at h
        refine lv_aload_n hx hb dX0_binary_235 rfl (lv_at hl 0 rfl) ?_
        refine lv_iload_n hx hb dX0_binary_236 rfl (lv_at hl 1 rfl) ?_
        refine lv_iload_n hx hb dX0_binary_237 rfl (lv_at hl 2 rfl) ?_
        obtain ⟨r1, hc1, h⟩ := oc_ex h
        refine kc_i (va_runV (As := [.int (L.1 2), .int (L.1 3)]) (rest := []) ⟨hx, hb, hml, hown, hts⟩ (c_y_X0_areSets l dC dI cy a z k (lI (lI lZ 1 ((L.1 2))) 2 ((L.1 3))) σ r1 hc1 H.size) (cwV 2 hts g_y_X0_binary_X0_areSets_V77 rfl rfl rfl hd_y_X0_areSets ⟨Nat.le_of_ble_eq_true rfl, Nat.le_of_ble_eq_true rfl⟩) ⟨nb_blind, va_recv hK hP (ci := 0) (q0 := 14) rfl rfl, (kb_pre hK hG hP hD)⟩ rfl rfl hl.1 rfl (lv_room (Nat.le_of_ble_eq_true rfl)) dX0_binary_238 ⟨Nat.le_refl _, Nat.le_refl _⟩) hA hP hD hS (fun H locs hP hD hS => ?_)
        refine lv_if_eq (tgt := 256) hx hb dX0_binary_241 (by decide) (fun c2 => ?_) (fun c2 => ?_)
        · rw [if_pos c2] at h
          exact ih.2.2.2.2.2.2.2.2.2.2.2.2.2.2.2.2.2.2.2.2.2.1 L r1.2 r h H locs ls hP hD hS (lv_sub hl [] rfl)
        · rw [if_neg c2] at h
          refine lv_aload_n hx hb dX0_binary_244 rfl (lv_at hl 0 rfl) ?_
          refine lv_iload_n hx hb dX0_binary_245 rfl (lv_at hl 1 rfl) ?_
          refine lv_iload_n hx hb dX0_binary_246 rfl (lv_at hl 2 rfl) ?_
          obtain ⟨r3, hc3, h⟩ := oc_ex h
          refine kc_i (va_runV (As := [.int (L.1 2), .int (L.1 3)]) (rest := []) ⟨hx, hb, hml, hown, hts⟩ (c_y_X0_isSubset l dC dI cy a z k (lI (lI lZ 1 ((L.1 2))) 2 ((L.1 3))) r1.2 r3 hc3 H.size) (cwV 2 hts g_y_X0_binary_X0_isSubset_V80 rfl rfl rfl hd_y_X0_isSubset ⟨Nat.le_of_ble_eq_true rfl, Nat.le_of_ble_eq_true rfl⟩) ⟨nb_blind, va_recv hK hP (ci := 0) (q0 := 14) rfl rfl, (kb_pre hK hG hP hD)⟩ rfl rfl hl.1 rfl (lv_room (Nat.le_of_ble_eq_true rfl)) dX0_binary_247 ⟨Nat.le_refl _, Nat.le_refl _⟩) hA hP hD hS (fun H locs hP hD hS => ?_)
          obtain ⟨r4, hc4, h⟩ := oc_ex h
          refine kc_i (va_runSN (As := [.int r3.1]) (rest := []) ⟨hx, hb, hml, hown, hts⟩ (c_y_X11_truth l dC dI cy a z k (lI lZ 0 r3.1) r3.2 r4 hc4 H.size) ⟨va_cnB 1 hts g_y_X0_binary_X11_truth_SN65 rfl rfl rfl (hG.1 _ (List.mem_of_getElem? (i := 106) rfl)) (hts _ (List.mem_cons_of_mem _ (List.mem_append_left _ (List.mem_append_left _ (List.mem_of_getElem? (i := 23) rfl))))) hd_y_X11_truth ⟨Nat.le_of_ble_eq_true rfl, Nat.le_of_ble_eq_true rfl⟩, (hts _ (List.mem_cons_of_mem _ (List.mem_append_left _ (List.mem_append_left _ (List.mem_of_getElem? (i := 24) rfl))))), trivial⟩ ⟨nb_blind, (kb_pre hK hG hP hD)⟩ rfl rfl hl.1 rfl (lv_room (Nat.le_of_ble_eq_true rfl)) dX0_binary_250 ⟨Nat.le_refl _, Nat.le_refl _⟩) hA hP hD hS (fun H locs hP hD hS => ?_)
          refine lv_goto (tgt := 258) hx hb dX0_binary_253 (by decide) ?_
          exact ih.2.2.2.2.2.2.2.2.2.2.2.2.2.2.2.2.2.2.2.2.2.2.1 (lI L 100 r4.1) r4.2 r h H locs ls hP hD hS (lv_sub hl [] rfl)
      · intro L σ r h H locs ls hP hD hS hl
        rw [y_X0_binary] at h
        refine lv_ldc (v := (-268435455)) hx hb hown (hts _ (List.mem_cons_of_mem _ (List.mem_append_left _ (List.mem_append_left _ (List.mem_of_getElem? (i := 38) rfl))))) dX0_binary_130 ?_
        exact ih.2.2.2.2.2.2.2.2.2.2.2.2.2.2.2.2.2.2.2.2.2.2.2.1 (lI L 100 ((-268435455))) σ r h H locs ls hP hD hS (lv_sub hl [] rfl)
      · intro L σ r h H locs ls hP hD hS hl
        rw [y_X0_binary] at h
        refine lv_iconst (v := 0) hx hb dX0_binary_123 (by decide) ?_
        exact ih.2.2.2.2.2.2.2.2.2.2.2.2.2.2.1 (lI (lI (lI L 100 0) 101 ((L.1 100))) 102 ((L.1 101))) σ r h H locs ls hP hD hS (lv_sub hl [] rfl)
      · intro L σ r h H locs ls hP hD hS hl
        rw [y_X0_binary] at h
        obtain ⟨r1, hc1, h⟩ := oc_ex h
        refine kc_i (va_runV (As := [.int (L.1 102), .int (L.1 101), .int (L.1 100)]) (rest := []) ⟨hx, hb, hml, hown, hts⟩ (c_y_X10_divided l dC dI cy a z k (lI (lI (lI lZ 1 ((L.1 102))) 2 ((L.1 101))) 3 ((L.1 100))) σ r1 hc1 H.size) (cwV 3 hts g_y_X0_binary_X10_divided_V50 rfl rfl rfl hd_y_X10_divided ⟨Nat.le_of_ble_eq_true rfl, Nat.le_of_ble_eq_true rfl⟩) ⟨nb_blind, va_recv hK hP (ci := 9) (q0 := 4) rfl rfl, (kb_pre hK hG hP hD)⟩ rfl rfl hl.1 rfl (lv_room (Nat.le_of_ble_eq_true rfl)) dX0_binary_124 ⟨Nat.le_refl _, Nat.le_refl _⟩) hA hP hD hS (fun H locs hP hD hS => ?_)
        refine lv_goto (tgt := 132) hx hb dX0_binary_127 (by decide) ?_
        exact ih.2.2.2.2.2.2.2.2.2.2.2.2.2.2.2.2.2.2.2.2.2.2.2.1 (lI L 100 r1.1) r1.2 r h H locs ls hP hD hS (lv_sub hl [] rfl)
      · intro L σ r h H locs ls hP hD hS hl
        rw [y_X0_binary] at h
        refine lv_ldc (v := (-268435455)) hx hb hown (hts _ (List.mem_cons_of_mem _ (List.mem_append_left _ (List.mem_append_left _ (List.mem_of_getElem? (i := 38) rfl))))) dX0_binary_154 ?_
        exact ih.2.2.2.2.2.2.2.2.2.2.2.2.2.2.2.2.1 (lI L 100 ((-268435455))) σ r h H locs ls hP hD hS (lv_sub hl [] rfl)
      · intro L σ r h H locs ls hP hD hS hl
        rw [y_X0_binary] at h
        obtain rfl := Option.some.inj h
        exact W.iret (v := (L.1 100)) hx hb hr (fun t ht hW => ⟨⟨(L.1 100), (), rfl, rfl, by rw [ht]; exact hP, va_K.moved hW.alike hK, hD⟩, hS.F ht⟩) hS.2.2 dX0_binary_156
      · intro L σ r h H locs ls hP hD hS hl
        rw [y_X0_binary] at h
        refine lv_iconst (v := 0) hx hb dX0_binary_186 (by decide) ?_
        exact ih.2.2.2.2.2.2.2.2.2.2.2.2.2.2.2.2.2.2.1 (lI L 100 0) σ r h H locs ls hP hD hS (lv_sub hl [] rfl)
      · intro L σ r h H locs ls hP hD hS hl
        rw [y_X0_binary] at h
        obtain ⟨r1, hc1, h⟩ := oc_ex h
        refine kc_i (va_runSN (As := [.int (L.1 100)]) (rest := []) ⟨hx, hb, hml, hown, hts⟩ (c_y_X11_truth l dC dI cy a z k (lI lZ 0 ((L.1 100))) σ r1 hc1 H.size) ⟨va_cnB 1 hts g_y_X0_binary_X11_truth_SN65 rfl rfl rfl (hG.1 _ (List.mem_of_getElem? (i := 106) rfl)) (hts _ (List.mem_cons_of_mem _ (List.mem_append_left _ (List.mem_append_left _ (List.mem_of_getElem? (i := 23) rfl))))) hd_y_X11_truth ⟨Nat.le_of_ble_eq_true rfl, Nat.le_of_ble_eq_true rfl⟩, (hts _ (List.mem_cons_of_mem _ (List.mem_append_left _ (List.mem_append_left _ (List.mem_of_getElem? (i := 24) rfl))))), trivial⟩ ⟨nb_blind, (kb_pre hK hG hP hD)⟩ rfl rfl hl.1 rfl (lv_room (Nat.le_of_ble_eq_true rfl)) dX0_binary_187 ⟨Nat.le_refl _, Nat.le_refl _⟩) hA hP hD hS (fun H locs hP hD hS => ?_)
        obtain rfl := Option.some.inj h
        exact W.iret (v := r1.1) hx hb hr (fun t ht hW => ⟨⟨r1.1, (), rfl, rfl, by rw [ht]; exact hP, va_K.moved hW.alike hK, hD⟩, hS.F ht⟩) hS.2.2 dX0_binary_190
      · intro L σ r h H locs ls hP hD hS hl
        rw [y_X0_binary] at h
        refine lv_iload hx hb dX0_binary_219 (lv_at hl 0 rfl) ?_
        refine lv_ldc (v := (-1879048192)) hx hb hown (hts _ (List.mem_cons_of_mem _ (List.mem_append_left _ (List.mem_append_left _ (List.mem_of_getElem? (i := 42) rfl))))) dX0_binary_221 ?_
        refine lv_icmp_ne (tgt := 230) hx hb dX0_binary_223 (by decide) (fun c1 => ?_) (fun c1 => ?_)
        · rw [if_neg c1] at h
          exact ih.2.2.2.2.2.2.2.2.2.2.2.2.2.2.2.2.2.2.2.2.2.2.2.2.1 L σ r h H locs ls hP hD hS (lv_sub hl [] rfl)
        · rw [if_pos c1] at h
          refine lv_iconst (v := 1) hx hb dX0_binary_226 (by decide) ?_
          refine lv_goto (tgt := 231) hx hb dX0_binary_227 (by decide) ?_
          exact ih.2.2.2.2.2.2.2.2.2.2.2.2.2.2.2.2.2.2.2.2.2.2.2.2.2 (lI L 100 1) σ r h H locs ls hP hD hS (lv_sub hl [] rfl)
      · intro L σ r h H locs ls hP hD hS hl
        rw [y_X0_binary] at h
        obtain rfl := Option.some.inj h
        exact W.iret (v := (L.1 100)) hx hb hr (fun t ht hW => ⟨⟨(L.1 100), (), rfl, rfl, by rw [ht]; exact hP, va_K.moved hW.alike hK, hD⟩, hS.F ht⟩) hS.2.2 dX0_binary_234
      · intro L σ r h H locs ls hP hD hS hl
        rw [y_X0_binary] at h
        refine lv_ldc (v := (-268435455)) hx hb hown (hts _ (List.mem_cons_of_mem _ (List.mem_append_left _ (List.mem_append_left _ (List.mem_of_getElem? (i := 38) rfl))))) dX0_binary_256 ?_
        exact ih.2.2.2.2.2.2.2.2.2.2.2.2.2.2.2.2.2.2.2.2.2.2.1 (lI L 100 ((-268435455))) σ r h H locs ls hP hD hS (lv_sub hl [] rfl)
      · intro L σ r h H locs ls hP hD hS hl
        rw [y_X0_binary] at h
        obtain rfl := Option.some.inj h
        exact W.iret (v := (L.1 100)) hx hb hr (fun t ht hW => ⟨⟨(L.1 100), (), rfl, rfl, by rw [ht]; exact hP, va_K.moved hW.alike hK, hD⟩, hS.F ht⟩) hS.2.2 dX0_binary_258
      · intro L σ r h H locs ls hP hD hS hl
        rw [y_X0_binary] at h
        obtain rfl := Option.some.inj h
        exact W.iret (v := (L.1 100)) hx hb hr (fun t ht hW => ⟨⟨(L.1 100), (), rfl, rfl, by rw [ht]; exact hP, va_K.moved hW.alike hK, hD⟩, hS.F ht⟩) hS.2.2 dX0_binary_132
      · intro L σ r h H locs ls hP hD hS hl
        rw [y_X0_binary] at h
        refine lv_iconst (v := 0) hx hb dX0_binary_230 (by decide) ?_
        exact ih.2.2.2.2.2.2.2.2.2.2.2.2.2.2.2.2.2.2.2.2.2.2.2.2.2 (lI L 100 0) σ r h H locs ls hP hD hS (lv_sub hl [] rfl)
      · intro L σ r h H locs ls hP hD hS hl
        rw [y_X0_binary] at h
        obtain ⟨r1, hc1, h⟩ := oc_ex h
        refine kc_i (va_runSN (As := [.int (L.1 100)]) (rest := []) ⟨hx, hb, hml, hown, hts⟩ (c_y_X11_truth l dC dI cy a z k (lI lZ 0 ((L.1 100))) σ r1 hc1 H.size) ⟨va_cnB 1 hts g_y_X0_binary_X11_truth_SN65 rfl rfl rfl (hG.1 _ (List.mem_of_getElem? (i := 106) rfl)) (hts _ (List.mem_cons_of_mem _ (List.mem_append_left _ (List.mem_append_left _ (List.mem_of_getElem? (i := 23) rfl))))) hd_y_X11_truth ⟨Nat.le_of_ble_eq_true rfl, Nat.le_of_ble_eq_true rfl⟩, (hts _ (List.mem_cons_of_mem _ (List.mem_append_left _ (List.mem_append_left _ (List.mem_of_getElem? (i := 24) rfl))))), trivial⟩ ⟨nb_blind, (kb_pre hK hG hP hD)⟩ rfl rfl hl.1 rfl (lv_room (Nat.le_of_ble_eq_true rfl)) dX0_binary_231 ⟨Nat.le_refl _, Nat.le_refl _⟩) hA hP hD hS (fun H locs hP hD hS => ?_)
        exact ih.2.2.2.2.2.2.2.2.2.2.2.2.2.2.2.2.2.2.2.2.1 (lI L 100 r1.1) r1.2 r h H locs ls hP hD hS (lv_sub hl [] rfl)
  exact (blk k0).1 L0 σ0 r0 h0 s.heap [] ls hP hD hS hl

/-! X10_unpackRest -/
def y_X10_unpackRest : Nat → Nat → LV → CS → Option (Int32 × CS)
  | 0, _, _, _ => none
  | k + 1, 0, L, σ => y_X10_unpackRest k 1 (lI L 2 0) σ
  | k + 1, 1, L, σ => if ((L.1 1)) ≤ ((L.1 2)) then (y_X10_unpackRest k 2 L σ) else (if ¬ (((2 * ((L.1 2)))) < 0 ∨ 72 ≤ ((2 * ((L.1 2)))).toNatClampNeg) then (if ¬ (((((2 * ((L.1 2)))) + 1)) < 0 ∨ 72 ≤ ((((2 * ((L.1 2)))) + 1)).toNatClampNeg) then (if ¬ (((L.1 2)) < 0 ∨ 72 ≤ ((L.1 2)).toNatClampNeg) then (y_X10_unpackRest k 1 (lI L 2 ((((L.1 2)) + 1))) (uA σ 7 ((L.1 2)).toNatClampNeg ((((σ.2.2.1 8 ((2 * ((L.1 2)))).toNatClampNeg)) ||| ((((σ.2.2.1 8 ((((2 * ((L.1 2)))) + 1)).toNatClampNeg)) <<< ((16 : Int32) &&& 31))))))) else none) else none) else none)
  | k + 1, 2, L, σ => some (0, σ)
  | _ + 1, _ + 3, _, _ => none
def o_y_X10_unpackRest : List Cond := [.fieldLink RX10 18 "SetHouse$Wholes" "result" "[I", .fieldLink RX10 21 "SetHouse$Wholes" "dividend" "[I"]
theorem o_y_X10_unpackRest_good : o_y_X10_unpackRest.all goodWord = true := by decide +kernel
def p_y_X10_unpackRest : List Cond := o_y_X10_unpackRest ++ []
theorem p_y_X10_unpackRest_good : p_y_X10_unpackRest.all goodWord = true := nb_all2 o_y_X10_unpackRest_good rfl
def w_y_X10_unpackRest : List Cond := .code yX10_unpackRest cX10_unpackRest 3 none :: (p_y_X10_unpackRest ++ fC)
theorem w_y_X10_unpackRest_good : w_y_X10_unpackRest.all goodWord = true := nb_allc (by decide +kernel) (nb_all2 p_y_X10_unpackRest_good fC_good)
theorem in_y_X10_unpackRest_X10 : ∀ w ∈ wsX100, w ∈ w_y_X10_unpackRest := fun _ h => List.mem_cons_of_mem _ (List.mem_append_right _ (List.mem_append_right _ (List.mem_append_right _ (List.mem_append_right _ (List.mem_append_right _ (List.mem_append_right _ (List.mem_append_right _ (List.mem_append_right _ (List.mem_append_right _ (List.mem_append_right _ (List.mem_append_left _ h)))))))))))
theorem hd_y_X10_unpackRest : yX10_unpackRest.cls = RX10 ∧ yX10_unpackRest.cls ≠ "java/lang/invoke/MethodHandle" ∧ yX10_unpackRest.cls ≠ "java/lang/invoke/VarHandle" ∧ (parseMethodDescriptor yX10_unpackRest.desc).map (fun d => d.parameters.length) = some 1 := by decide +kernel
set_option maxHeartbeats 40000000 in
set_option maxRecDepth 100000 in
theorem c_y_X10_unpackRest (l : Launch) (dC : Nat → ClassId) (dI : Nat → Nat → Nat) (cy : Nat → ClassId) (a z : Nat → Nat) (k0 : Nat) (L0 : LV) (σ0 : CS) (r0 : Int32 × CS) (h0 : y_X10_unpackRest k0 0 L0 σ0 = some r0) (sz : Nat) : Met l yX10_unpackRest w_y_X10_unpackRest ({ frames := 0, cells := 0, slots := 0, locals := 0 }) (va_Pc [.ref (a 4), .int (L0.1 1)] (nIn (dC, dI) cy sz (vC cy a z σ0))) (va_Qv (fun _ : Unit => True) (fun _ t => nOut (dC, dI) cy (va_A (vC cy a z σ0) sz) (vC cy a z r0.2) t) (va_A (vC cy a z σ0) sz)) 0 0 (va_A (vC cy a z σ0) sz) := by
  refine Met.ofW (cc := cX10_unpackRest) (maxL := 3) (ret := none) (by decide) rfl ?_
  intro p e s m args below meth c s₁ B hml hv
  obtain ⟨rfl, hsz, hP, hK, hD0, hG⟩ := hv
  have hx := B.exec
  have hb := B.bytes
  have hr := B.returns
  have hts := atoms_spec (ws := w_y_X10_unpackRest) B.pre
  have hown : s.vm.findClass RX10 = some m.cls := findClass_of_methodNamed B.named
  have hlocks := B.notSynchronized
  subst hsz
  have hD := hD0.self (sz := s.heap.size)
  generalize hAe : va_A (vC cy a z σ0) s.heap.size = A at hD ⊢
  have hA : ∀ q : Nat, s.heap.size ≤ q → A q := fun q h => by rw [← hAe]; exact Or.inr h
  have hS : va_S A s.heap s.heap [] := va_S.rf
  have hl := lv_entry ([.ref (a 4), .int (L0.1 1)]) (n := 3) (Nat.le_of_ble_eq_true rfl)
  rw [lg_entry_eq]
  generalize (lg_sl ([.ref (a 4), .int (L0.1 1)]) ++ List.replicate (3 - (lg_sl ([.ref (a 4), .int (L0.1 1)])).length) Slot.unset).toArray = ls at hl ⊢
  have hl : lv_has ls 3 [(0, .ref (a 4)), (1, .int (L0.1 1))] := hl
  have blk : ∀ k : Nat, (bC p l e (headSpec w_y_X10_unpackRest ({ frames := 0, cells := 0, slots := 0, locals := 0 })).room s m #[.ref (a 4), .int (L0.1 1)] below meth c dC dI cy a z A (kV dC dI cy a z A below #[.ref (a 4), .int (L0.1 1)] s) 3 (y_X10_unpackRest k 0) (fun L => [(0, .ref (a 4)), (1, .int (L.1 1))]) 0 (fun L => [])) ∧ (bC p l e (headSpec w_y_X10_unpackRest ({ frames := 0, cells := 0, slots := 0, locals := 0 })).room s m #[.ref (a 4), .int (L0.1 1)] below meth c dC dI cy a z A (kV dC dI cy a z A below #[.ref (a 4), .int (L0.1 1)] s) 3 (y_X10_unpackRest k 1) (fun L => [(0, .ref (a 4)), (1, .int (L.1 1)), (2, .int (L.1 2))]) 2 (fun L => [])) ∧ (bC p l e (headSpec w_y_X10_unpackRest ({ frames := 0, cells := 0, slots := 0, locals := 0 })).room s m #[.ref (a 4), .int (L0.1 1)] below meth c dC dI cy a z A (kV dC dI cy a z A below #[.ref (a 4), .int (L0.1 1)] s) 3 (y_X10_unpackRest k 2) (fun L => []) 41 (fun L => [])) := by
    intro k
    induction k with
    | zero => exact ⟨fun L σ r h => (by cases h), fun L σ r h => (by cases h), fun L σ r h => (by cases h)⟩
    | succ k ih =>
      refine ⟨?_, ?_, ?_⟩
      · intro L σ r h H locs ls hP hD hS hl
        rw [y_X10_unpackRest] at h
        refine lv_iconst (v := 0) hx hb dX10_unpackRest_0 (by decide) ?_
        refine lv_istore_n (lv' := [(2, .int 0), (0, .ref (a 4)), (1, .int (L.1 1))]) hx hb dX10_unpackRest_1 rfl hl (by decide) rfl (fun ls hl => ?_)
        exact ih.2.1 (lI L 2 0) σ r h H locs ls hP hD hS (lv_sub hl [1, 2, 0] rfl)
      · intro L σ r h H locs ls hP hD hS hl
        rw [y_X10_unpackRest] at h
        refine lv_iload_n hx hb dX10_unpackRest_2 rfl (lv_at hl 2 rfl) ?_
        refine lv_iload_n hx hb dX10_unpackRest_3 rfl (lv_at hl 1 rfl) ?_
        refine lv_icmp_ge (tgt := 41) hx hb dX10_unpackRest_4 (by decide) (fun c1 => ?_) (fun c1 => ?_)
        · rw [if_pos c1] at h
          exact ih.2.2 L σ r h H locs ls hP hD hS (lv_sub hl [] rfl)
        · rw [if_neg c1] at h
          refine lv_aload_n hx hb dX10_unpackRest_7 rfl (lv_at hl 0 rfl) ?_
          refine hg_4_3 hx hb hts in_y_X10_unpackRest_X10 hown hK hP (hts _ (List.mem_cons_of_mem _ (List.mem_append_left _ (List.mem_append_left _ (List.mem_of_getElem? (i := 0) rfl))))) dX10_unpackRest_8 ?_
          refine lv_iload_n hx hb dX10_unpackRest_11 rfl (lv_at hl 2 rfl) ?_
          refine lv_aload_n hx hb dX10_unpackRest_12 rfl (lv_at hl 0 rfl) ?_
          refine hg_4_5 hx hb hts in_y_X10_unpackRest_X10 hown hK hP (hts _ (List.mem_cons_of_mem _ (List.mem_append_left _ (List.mem_append_left _ (List.mem_of_getElem? (i := 1) rfl))))) dX10_unpackRest_13 ?_
          refine lv_iconst (v := 2) hx hb dX10_unpackRest_16 (by decide) ?_
          refine lv_iload_n hx hb dX10_unpackRest_17 rfl (lv_at hl 2 rfl) ?_
          refine lv_imul hx hb dX10_unpackRest_18 ?_
          obtain ⟨q2, h⟩ := kb_ite1 h
          refine hl_8 hx hb hK hP q2 dX10_unpackRest_19 ?_
          refine lv_aload_n hx hb dX10_unpackRest_20 rfl (lv_at hl 0 rfl) ?_
          refine hg_4_5 hx hb hts in_y_X10_unpackRest_X10 hown hK hP (hts _ (List.mem_cons_of_mem _ (List.mem_append_left _ (List.mem_append_left _ (List.mem_of_getElem? (i := 1) rfl))))) dX10_unpackRest_21 ?_
          refine lv_iconst (v := 2) hx hb dX10_unpackRest_24 (by decide) ?_
          refine lv_iload_n hx hb dX10_unpackRest_25 rfl (lv_at hl 2 rfl) ?_
          refine lv_imul hx hb dX10_unpackRest_26 ?_
          refine lv_iconst (v := 1) hx hb dX10_unpackRest_27 (by decide) ?_
          refine lv_iadd hx hb dX10_unpackRest_28 ?_
          obtain ⟨q3, h⟩ := kb_ite1 h
          refine hl_8 hx hb hK hP q3 dX10_unpackRest_29 ?_
          refine lv_bipush (v := 16) hx hb dX10_unpackRest_30 (by decide) ?_
          refine lv_ishl hx hb dX10_unpackRest_32 ?_
          refine lv_ior hx hb dX10_unpackRest_33 ?_
          obtain ⟨q4, h⟩ := kb_ite1 h
          refine hs_7 hx hb hK hP hD hS q4 dX10_unpackRest_34 (fun H locs hP hD hS => ?_)
          refine lv_iinc (v := ((L.1 2)) + 1) (lv' := [(2, .int (((L.1 2)) + 1)), (0, .ref (a 4)), (1, .int (L.1 1))]) hx hb dX10_unpackRest_35 hl (k := 2) rfl rfl (by decide) rfl (fun ls hl => ?_)
          refine lv_goto (tgt := 2) hx hb dX10_unpackRest_38 (by decide) ?_
          exact ih.2.1 (lI L 2 ((((L.1 2)) + 1))) (uA σ 7 ((L.1 2)).toNatClampNeg ((((σ.2.2.1 8 ((2 * ((L.1 2)))).toNatClampNeg)) ||| ((((σ.2.2.1 8 ((((2 * ((L.1 2)))) + 1)).toNatClampNeg)) <<< ((16 : Int32) &&& 31)))))) r h H locs ls hP hD hS (lv_sub hl [1, 2, 0] rfl)
      · intro L σ r h H locs ls hP hD hS hl
        rw [y_X10_unpackRest] at h
        obtain rfl := Option.some.inj h
        exact W.vret hx hb hr (fun t ht hW => ⟨⟨(), rfl, trivial, by rw [ht]; exact hP, va_K.moved hW.alike hK, hD⟩, hS.F ht⟩) hS.2.2 dX10_unpackRest_41
  exact (blk k0).1 L0 σ0 r0 h0 s.heap [] ls hP hD hS hl
/-! X10_restLimbs -/
def y_X10_restLimbs : Nat → Nat → LV → CS → Option (Int32 × CS)
  | 0, _, _, _ => none
  | k + 1, 0, L, σ => y_X10_restLimbs k 1 (lI (lI L 2 ((L.1 1))) 3 ((L.1 1))) σ
  | k + 1, 1, L, σ => if ((L.1 3)) ≤ 0 then (y_X10_restLimbs k 2 L σ) else (if ¬ (((((L.1 3)) - 1)) < 0 ∨ 72 ≤ ((((L.1 3)) - 1)).toNatClampNeg) then (if ((σ.2.2.1 5 ((((L.1 3)) - 1)).toNatClampNeg)) = 0 then (y_X10_restLimbs k 1 (lI (lI L 2 ((((L.1 3)) - 1))) 3 ((((L.1 3)) + (-1)))) σ) else (y_X10_restLimbs k 2 L σ)) else none)
  | k + 1, 2, L, σ => some ((L.1 2), σ)
  | _ + 1, _ + 3, _, _ => none
def o_y_X10_restLimbs : List Cond := [.fieldLink RX10 9 "SetHouse$Wholes" "left" "[I"]
theorem o_y_X10_restLimbs_good : o_y_X10_restLimbs.all goodWord = true := by decide +kernel
def p_y_X10_restLimbs : List Cond := o_y_X10_restLimbs ++ []
theorem p_y_X10_restLimbs_good : p_y_X10_restLimbs.all goodWord = true := nb_all2 o_y_X10_restLimbs_good rfl
def w_y_X10_restLimbs : List Cond := .code yX10_restLimbs cX10_restLimbs 4 (some .int) :: (p_y_X10_restLimbs ++ fC)
theorem w_y_X10_restLimbs_good : w_y_X10_restLimbs.all goodWord = true := nb_allc (by decide +kernel) (nb_all2 p_y_X10_restLimbs_good fC_good)
theorem in_y_X10_restLimbs_X10 : ∀ w ∈ wsX100, w ∈ w_y_X10_restLimbs := fun _ h => List.mem_cons_of_mem _ (List.mem_append_right _ (List.mem_append_right _ (List.mem_append_right _ (List.mem_append_right _ (List.mem_append_right _ (List.mem_append_right _ (List.mem_append_right _ (List.mem_append_right _ (List.mem_append_right _ (List.mem_append_right _ (List.mem_append_left _ h)))))))))))
theorem hd_y_X10_restLimbs : yX10_restLimbs.cls = RX10 ∧ yX10_restLimbs.cls ≠ "java/lang/invoke/MethodHandle" ∧ yX10_restLimbs.cls ≠ "java/lang/invoke/VarHandle" ∧ (parseMethodDescriptor yX10_restLimbs.desc).map (fun d => d.parameters.length) = some 1 := by decide +kernel
set_option maxHeartbeats 40000000 in
set_option maxRecDepth 100000 in
theorem c_y_X10_restLimbs (l : Launch) (dC : Nat → ClassId) (dI : Nat → Nat → Nat) (cy : Nat → ClassId) (a z : Nat → Nat) (k0 : Nat) (L0 : LV) (σ0 : CS) (r0 : Int32 × CS) (h0 : y_X10_restLimbs k0 0 L0 σ0 = some r0) (sz : Nat) : Met l yX10_restLimbs w_y_X10_restLimbs ({ frames := 0, cells := 0, slots := 0, locals := 0 }) (va_Pc [.ref (a 4), .int (L0.1 1)] (nIn (dC, dI) cy sz (vC cy a z σ0))) (va_Qi (fun (x : Int32) (_ : Unit) => x = r0.1) (fun _ t => nOut (dC, dI) cy (va_A (vC cy a z σ0) sz) (vC cy a z r0.2) t) (va_A (vC cy a z σ0) sz)) 0 0 (va_A (vC cy a z σ0) sz) := by
  refine Met.ofW (cc := cX10_restLimbs) (maxL := 4) (ret := (some .int)) (by decide) rfl ?_
  intro p e s m args below meth c s₁ B hml hv
  obtain ⟨rfl, hsz, hP, hK, hD0, hG⟩ := hv
  have hx := B.exec
  have hb := B.bytes
  have hr := B.returns
  have hts := atoms_spec (ws := w_y_X10_restLimbs) B.pre
  have hown : s.vm.findClass RX10 = some m.cls := findClass_of_methodNamed B.named
  have hlocks := B.notSynchronized
  subst hsz
  have hD := hD0.self (sz := s.heap.size)
  generalize hAe : va_A (vC cy a z σ0) s.heap.size = A at hD ⊢
  have hA : ∀ q : Nat, s.heap.size ≤ q → A q := fun q h => by rw [← hAe]; exact Or.inr h
  have hS : va_S A s.heap s.heap [] := va_S.rf
  have hl := lv_entry ([.ref (a 4), .int (L0.1 1)]) (n := 4) (Nat.le_of_ble_eq_true rfl)
  rw [lg_entry_eq]
  generalize (lg_sl ([.ref (a 4), .int (L0.1 1)]) ++ List.replicate (4 - (lg_sl ([.ref (a 4), .int (L0.1 1)])).length) Slot.unset).toArray = ls at hl ⊢
  have hl : lv_has ls 4 [(0, .ref (a 4)), (1, .int (L0.1 1))] := hl
  have blk : ∀ k : Nat, (bC p l e (headSpec w_y_X10_restLimbs ({ frames := 0, cells := 0, slots := 0, locals := 0 })).room s m #[.ref (a 4), .int (L0.1 1)] below meth c dC dI cy a z A (kI dC dI cy a z A below #[.ref (a 4), .int (L0.1 1)] s) 4 (y_X10_restLimbs k 0) (fun L => [(0, .ref (a 4)), (1, .int (L.1 1))]) 0 (fun L => [])) ∧ (bC p l e (headSpec w_y_X10_restLimbs ({ frames := 0, cells := 0, slots := 0, locals := 0 })).room s m #[.ref (a 4), .int (L0.1 1)] below meth c dC dI cy a z A (kI dC dI cy a z A below #[.ref (a 4), .int (L0.1 1)] s) 4 (y_X10_restLimbs k 1) (fun L => [(0, .ref (a 4)), (2, .int (L.1 2)), (3, .int (L.1 3))]) 4 (fun L => [])) ∧ (bC p l e (headSpec w_y_X10_restLimbs ({ frames := 0, cells := 0, slots := 0, locals := 0 })).room s m #[.ref (a 4), .int (L0.1 1)] below meth c dC dI cy a z A (kI dC dI cy a z A below #[.ref (a 4), .int (L0.1 1)] s) 4 (y_X10_restLimbs k 2) (fun L => [(2, .int (L.1 2))]) 29 (fun L => [])) := by
    intro k
    induction k with
    | zero => exact ⟨fun L σ r h => (by cases h), fun L σ r h => (by cases h), fun L σ r h => (by cases h)⟩
    | succ k ih =>
      refine ⟨?_, ?_, ?_⟩
      · intro L σ r h H locs ls hP hD hS hl
        rw [y_X10_restLimbs] at h
        refine lv_iload_n hx hb dX10_restLimbs_0 rfl (lv_at hl 1 rfl) ?_
        refine lv_istore_n (lv' := [(2, .int (L.1 1)), (0, .ref (a 4)), (1, .int (L.1 1))]) hx hb dX10_restLimbs_1 rfl hl (by decide) rfl (fun ls hl => ?_)
        refine lv_iload_n hx hb dX10_restLimbs_2 rfl (lv_at hl 2 rfl) ?_
        refine lv_istore_n (lv' := [(3, .int (L.1 1)), (2, .int (L.1 1)), (0, .ref (a 4)), (1, .int (L.1 1))]) hx hb dX10_restLimbs_3 rfl hl (by decide) rfl (fun ls hl => ?_)
        exact ih.2.1 (lI (lI L 2 ((L.1 1))) 3 ((L.1 1))) σ r h H locs ls hP hD hS (lv_sub hl [2, 1, 0] rfl)
      · intro L σ r h H locs ls hP hD hS hl
        rw [y_X10_restLimbs] at h
        refine lv_iload_n hx hb dX10_restLimbs_4 rfl (lv_at hl 2 rfl) ?_
        refine lv_if_le (tgt := 29) hx hb dX10_restLimbs_5 (by decide) (fun c1 => ?_) (fun c1 => ?_)
        · rw [if_pos c1] at h
          exact ih.2.2 L σ r h H locs ls hP hD hS (lv_sub hl [1] rfl)
        · rw [if_neg c1] at h
          refine lv_aload_n hx hb dX10_restLimbs_8 rfl (lv_at hl 0 rfl) ?_
          refine hg_4_1 hx hb hts in_y_X10_restLimbs_X10 hown hK hP (hts _ (List.mem_cons_of_mem _ (List.mem_append_left _ (List.mem_append_left _ (List.mem_of_getElem? (i := 0) rfl))))) dX10_restLimbs_9 ?_
          refine lv_iload_n hx hb dX10_restLimbs_12 rfl (lv_at hl 2 rfl) ?_
          refine lv_iconst (v := 1) hx hb dX10_restLimbs_13 (by decide) ?_
          refine lv_isub hx hb dX10_restLimbs_14 ?_
          obtain ⟨q2, h⟩ := kb_ite1 h
          refine hl_5 hx hb hK hP q2 dX10_restLimbs_15 ?_
          refine lv_if_ne (tgt := 29) hx hb dX10_restLimbs_16 (by decide) (fun c3 => ?_) (fun c3 => ?_)
          · rw [if_neg c3] at h
            exact ih.2.2 L σ r h H locs ls hP hD hS (lv_sub hl [1] rfl)
          · rw [if_pos c3] at h
            refine lv_iload_n hx hb dX10_restLimbs_19 rfl (lv_at hl 2 rfl) ?_
            refine lv_iconst (v := 1) hx hb dX10_restLimbs_20 (by decide) ?_
            refine lv_isub hx hb dX10_restLimbs_21 ?_
            refine lv_istore_n (lv' := [(2, .int (((L.1 3)) - 1)), (0, .ref (a 4)), (3, .int (L.1 3))]) hx hb dX10_restLimbs_22 rfl hl (by decide) rfl (fun ls hl => ?_)
            refine lv_iinc (v := ((L.1 3)) + (-1)) (lv' := [(3, .int (((L.1 3)) + (-1))), (2, .int (((L.1 3)) - 1)), (0, .ref (a 4))]) hx hb dX10_restLimbs_23 hl (k := 2) rfl rfl (by decide) rfl (fun ls hl => ?_)
            refine lv_goto (tgt := 4) hx hb dX10_restLimbs_26 (by decide) ?_
            exact ih.2.1 (lI (lI L 2 ((((L.1 3)) - 1))) 3 ((((L.1 3)) + (-1)))) σ r h H locs ls hP hD hS (lv_sub hl [2, 1, 0] rfl)
      · intro L σ r h H locs ls hP hD hS hl
        rw [y_X10_restLimbs] at h
        refine lv_iload_n hx hb dX10_restLimbs_29 rfl (lv_at hl 0 rfl) ?_
        obtain rfl := Option.some.inj h
        exact W.iret (v := (L.1 2)) hx hb hr (fun t ht hW => ⟨⟨(L.1 2), (), rfl, rfl, by rw [ht]; exact hP, va_K.moved hW.alike hK, hD⟩, hS.F ht⟩) hS.2.2 dX10_restLimbs_30
  exact (blk k0).1 L0 σ0 r0 h0 s.heap [] ls hP hD hS hl
/-! X10_unpackQuotient -/
def y_X10_unpackQuotient : Nat → Nat → LV → CS → Option (Int32 × CS)
  | 0, _, _, _ => none
  | k + 1, 0, L, σ => y_X10_unpackQuotient k 1 (lI L 2 0) σ
  | k + 1, 1, L, σ => if ((L.1 1)) ≤ ((L.1 2)) then (y_X10_unpackQuotient k 2 L σ) else (if ¬ (((2 * ((L.1 2)))) < 0 ∨ 72 ≤ ((2 * ((L.1 2)))).toNatClampNeg) then (if ¬ (((((2 * ((L.1 2)))) + 1)) < 0 ∨ 72 ≤ ((((2 * ((L.1 2)))) + 1)).toNatClampNeg) then (if ¬ (((L.1 2)) < 0 ∨ 72 ≤ ((L.1 2)).toNatClampNeg) then (y_X10_unpackQuotient k 1 (lI L 2 ((((L.1 2)) + 1))) (uA σ 7 ((L.1 2)).toNatClampNeg ((((σ.2.2.1 10 ((2 * ((L.1 2)))).toNatClampNeg)) ||| ((((σ.2.2.1 10 ((((2 * ((L.1 2)))) + 1)).toNatClampNeg)) <<< ((16 : Int32) &&& 31))))))) else none) else none) else none)
  | k + 1, 2, L, σ => some ((L.1 1), σ)
  | _ + 1, _ + 3, _, _ => none
def o_y_X10_unpackQuotient : List Cond := [.fieldLink RX10 18 "SetHouse$Wholes" "result" "[I", .fieldLink RX10 27 "SetHouse$Wholes" "quotient" "[I"]
theorem o_y_X10_unpackQuotient_good : o_y_X10_unpackQuotient.all goodWord = true := by decide +kernel
def p_y_X10_unpackQuotient : List Cond := o_y_X10_unpackQuotient ++ []
theorem p_y_X10_unpackQuotient_good : p_y_X10_unpackQuotient.all goodWord = true := nb_all2 o_y_X10_unpackQuotient_good rfl
def w_y_X10_unpackQuotient : List Cond := .code yX10_unpackQuotient cX10_unpackQuotient 3 (some .int) :: (p_y_X10_unpackQuotient ++ fC)
theorem w_y_X10_unpackQuotient_good : w_y_X10_unpackQuotient.all goodWord = true := nb_allc (by decide +kernel) (nb_all2 p_y_X10_unpackQuotient_good fC_good)
theorem in_y_X10_unpackQuotient_X10 : ∀ w ∈ wsX100, w ∈ w_y_X10_unpackQuotient := fun _ h => List.mem_cons_of_mem _ (List.mem_append_right _ (List.mem_append_right _ (List.mem_append_right _ (List.mem_append_right _ (List.mem_append_right _ (List.mem_append_right _ (List.mem_append_right _ (List.mem_append_right _ (List.mem_append_right _ (List.mem_append_right _ (List.mem_append_left _ h)))))))))))
theorem hd_y_X10_unpackQuotient : yX10_unpackQuotient.cls = RX10 ∧ yX10_unpackQuotient.cls ≠ "java/lang/invoke/MethodHandle" ∧ yX10_unpackQuotient.cls ≠ "java/lang/invoke/VarHandle" ∧ (parseMethodDescriptor yX10_unpackQuotient.desc).map (fun d => d.parameters.length) = some 1 := by decide +kernel
set_option maxHeartbeats 40000000 in
set_option maxRecDepth 100000 in
theorem c_y_X10_unpackQuotient (l : Launch) (dC : Nat → ClassId) (dI : Nat → Nat → Nat) (cy : Nat → ClassId) (a z : Nat → Nat) (k0 : Nat) (L0 : LV) (σ0 : CS) (r0 : Int32 × CS) (h0 : y_X10_unpackQuotient k0 0 L0 σ0 = some r0) (sz : Nat) : Met l yX10_unpackQuotient w_y_X10_unpackQuotient ({ frames := 0, cells := 0, slots := 0, locals := 0 }) (va_Pc [.ref (a 4), .int (L0.1 1)] (nIn (dC, dI) cy sz (vC cy a z σ0))) (va_Qi (fun (x : Int32) (_ : Unit) => x = r0.1) (fun _ t => nOut (dC, dI) cy (va_A (vC cy a z σ0) sz) (vC cy a z r0.2) t) (va_A (vC cy a z σ0) sz)) 0 0 (va_A (vC cy a z σ0) sz) := by
  refine Met.ofW (cc := cX10_unpackQuotient) (maxL := 3) (ret := (some .int)) (by decide) rfl ?_
  intro p e s m args below meth c s₁ B hml hv
  obtain ⟨rfl, hsz, hP, hK, hD0, hG⟩ := hv
  have hx := B.exec
  have hb := B.bytes
  have hr := B.returns
  have hts := atoms_spec (ws := w_y_X10_unpackQuotient) B.pre
  have hown : s.vm.findClass RX10 = some m.cls := findClass_of_methodNamed B.named
  have hlocks := B.notSynchronized
  subst hsz
  have hD := hD0.self (sz := s.heap.size)
  generalize hAe : va_A (vC cy a z σ0) s.heap.size = A at hD ⊢
  have hA : ∀ q : Nat, s.heap.size ≤ q → A q := fun q h => by rw [← hAe]; exact Or.inr h
  have hS : va_S A s.heap s.heap [] := va_S.rf
  have hl := lv_entry ([.ref (a 4), .int (L0.1 1)]) (n := 3) (Nat.le_of_ble_eq_true rfl)
  rw [lg_entry_eq]
  generalize (lg_sl ([.ref (a 4), .int (L0.1 1)]) ++ List.replicate (3 - (lg_sl ([.ref (a 4), .int (L0.1 1)])).length) Slot.unset).toArray = ls at hl ⊢
  have hl : lv_has ls 3 [(0, .ref (a 4)), (1, .int (L0.1 1))] := hl
  have blk : ∀ k : Nat, (bC p l e (headSpec w_y_X10_unpackQuotient ({ frames := 0, cells := 0, slots := 0, locals := 0 })).room s m #[.ref (a 4), .int (L0.1 1)] below meth c dC dI cy a z A (kI dC dI cy a z A below #[.ref (a 4), .int (L0.1 1)] s) 3 (y_X10_unpackQuotient k 0) (fun L => [(0, .ref (a 4)), (1, .int (L.1 1))]) 0 (fun L => [])) ∧ (bC p l e (headSpec w_y_X10_unpackQuotient ({ frames := 0, cells := 0, slots := 0, locals := 0 })).room s m #[.ref (a 4), .int (L0.1 1)] below meth c dC dI cy a z A (kI dC dI cy a z A below #[.ref (a 4), .int (L0.1 1)] s) 3 (y_X10_unpackQuotient k 1) (fun L => [(0, .ref (a 4)), (1, .int (L.1 1)), (2, .int (L.1 2))]) 2 (fun L => [])) ∧ (bC p l e (headSpec w_y_X10_unpackQuotient ({ frames := 0, cells := 0, slots := 0, locals := 0 })).room s m #[.ref (a 4), .int (L0.1 1)] below meth c dC dI cy a z A (kI dC dI cy a z A below #[.ref (a 4), .int (L0.1 1)] s) 3 (y_X10_unpackQuotient k 2) (fun L => [(1, .int (L.1 1))]) 41 (fun L => [])) := by
    intro k
    induction k with
    | zero => exact ⟨fun L σ r h => (by cases h), fun L σ r h => (by cases h), fun L σ r h => (by cases h)⟩
    | succ k ih =>
      refine ⟨?_, ?_, ?_⟩
      · intro L σ r h H locs ls hP hD hS hl
        rw [y_X10_unpackQuotient] at h
        refine lv_iconst (v := 0) hx hb dX10_unpackQuotient_0 (by decide) ?_
        refine lv_istore_n (lv' := [(2, .int 0), (0, .ref (a 4)), (1, .int (L.1 1))]) hx hb dX10_unpackQuotient_1 rfl hl (by decide) rfl (fun ls hl => ?_)
        exact ih.2.1 (lI L 2 0) σ r h H locs ls hP hD hS (lv_sub hl [1, 2, 0] rfl)
      · intro L σ r h H locs ls hP hD hS hl
        rw [y_X10_unpackQuotient] at h
        refine lv_iload_n hx hb dX10_unpackQuotient_2 rfl (lv_at hl 2 rfl) ?_
        refine lv_iload_n hx hb dX10_unpackQuotient_3 rfl (lv_at hl 1 rfl) ?_
        refine lv_icmp_ge (tgt := 41) hx hb dX10_unpackQuotient_4 (by decide) (fun c1 => ?_) (fun c1 => ?_)
        · rw [if_pos c1] at h
          exact ih.2.2 L σ r h H locs ls hP hD hS (lv_sub hl [1] rfl)
        · rw [if_neg c1] at h
          refine lv_aload_n hx hb dX10_unpackQuotient_7 rfl (lv_at hl 0 rfl) ?_
          refine hg_4_3 hx hb hts in_y_X10_unpackQuotient_X10 hown hK hP (hts _ (List.mem_cons_of_mem _ (List.mem_append_left _ (List.mem_append_left _ (List.mem_of_getElem? (i := 0) rfl))))) dX10_unpackQuotient_8 ?_
          refine lv_iload_n hx hb dX10_unpackQuotient_11 rfl (lv_at hl 2 rfl) ?_
          refine lv_aload_n hx hb dX10_unpackQuotient_12 rfl (lv_at hl 0 rfl) ?_
          refine hg_4_7 hx hb hts in_y_X10_unpackQuotient_X10 hown hK hP (hts _ (List.mem_cons_of_mem _ (List.mem_append_left _ (List.mem_append_left _ (List.mem_of_getElem? (i := 1) rfl))))) dX10_unpackQuotient_13 ?_
          refine lv_iconst (v := 2) hx hb dX10_unpackQuotient_16 (by decide) ?_
          refine lv_iload_n hx hb dX10_unpackQuotient_17 rfl (lv_at hl 2 rfl) ?_
          refine lv_imul hx hb dX10_unpackQuotient_18 ?_
          obtain ⟨q2, h⟩ := kb_ite1 h
          refine hl_10 hx hb hK hP q2 dX10_unpackQuotient_19 ?_
          refine lv_aload_n hx hb dX10_unpackQuotient_20 rfl (lv_at hl 0 rfl) ?_
          refine hg_4_7 hx hb hts in_y_X10_unpackQuotient_X10 hown hK hP (hts _ (List.mem_cons_of_mem _ (List.mem_append_left _ (List.mem_append_left _ (List.mem_of_getElem? (i := 1) rfl))))) dX10_unpackQuotient_21 ?_
          refine lv_iconst (v := 2) hx hb dX10_unpackQuotient_24 (by decide) ?_
          refine lv_iload_n hx hb dX10_unpackQuotient_25 rfl (lv_at hl 2 rfl) ?_
          refine lv_imul hx hb dX10_unpackQuotient_26 ?_
          refine lv_iconst (v := 1) hx hb dX10_unpackQuotient_27 (by decide) ?_
          refine lv_iadd hx hb dX10_unpackQuotient_28 ?_
          obtain ⟨q3, h⟩ := kb_ite1 h
          refine hl_10 hx hb hK hP q3 dX10_unpackQuotient_29 ?_
          refine lv_bipush (v := 16) hx hb dX10_unpackQuotient_30 (by decide) ?_
          refine lv_ishl hx hb dX10_unpackQuotient_32 ?_
          refine lv_ior hx hb dX10_unpackQuotient_33 ?_
          obtain ⟨q4, h⟩ := kb_ite1 h
          refine hs_7 hx hb hK hP hD hS q4 dX10_unpackQuotient_34 (fun H locs hP hD hS => ?_)
          refine lv_iinc (v := ((L.1 2)) + 1) (lv' := [(2, .int (((L.1 2)) + 1)), (0, .ref (a 4)), (1, .int (L.1 1))]) hx hb dX10_unpackQuotient_35 hl (k := 2) rfl rfl (by decide) rfl (fun ls hl => ?_)
          refine lv_goto (tgt := 2) hx hb dX10_unpackQuotient_38 (by decide) ?_
          exact ih.2.1 (lI L 2 ((((L.1 2)) + 1))) (uA σ 7 ((L.1 2)).toNatClampNeg ((((σ.2.2.1 10 ((2 * ((L.1 2)))).toNatClampNeg)) ||| ((((σ.2.2.1 10 ((((2 * ((L.1 2)))) + 1)).toNatClampNeg)) <<< ((16 : Int32) &&& 31)))))) r h H locs ls hP hD hS (lv_sub hl [1, 2, 0] rfl)
      · intro L σ r h H locs ls hP hD hS hl
        rw [y_X10_unpackQuotient] at h
        refine lv_iload_n hx hb dX10_unpackQuotient_41 rfl (lv_at hl 0 rfl) ?_
        obtain rfl := Option.some.inj h
        exact W.iret (v := (L.1 1)) hx hb hr (fun t ht hW => ⟨⟨(L.1 1), (), rfl, rfl, by rw [ht]; exact hP, va_K.moved hW.alike hK, hD⟩, hS.F ht⟩) hS.2.2 dX10_unpackQuotient_42
  exact (blk k0).1 L0 σ0 r0 h0 s.heap [] ls hP hD hS hl
/-! X10_addOne -/
def y_X10_addOne : Nat → Nat → LV → CS → Option (Int32 × CS)
  | 0, _, _, _ => none
  | k + 1, 0, L, σ => y_X10_addOne k 1 (lI L 2 0) σ
  | k + 1, 1, L, σ => if ((L.1 1)) ≤ ((L.1 2)) then (y_X10_addOne k 2 L σ) else (if ¬ (((L.1 2)) < 0 ∨ 72 ≤ ((L.1 2)).toNatClampNeg) then (if ¬ (((L.1 2)) < 0 ∨ 72 ≤ ((L.1 2)).toNatClampNeg) then (if ¬ (((L.1 2)) < 0 ∨ 72 ≤ ((L.1 2)).toNatClampNeg) then (if (((uA σ 7 ((L.1 2)).toNatClampNeg ((((σ.2.2.1 7 ((L.1 2)).toNatClampNeg)) + 1))).2.2.1 7 ((L.1 2)).toNatClampNeg)) = 0 then (y_X10_addOne k 3 L (uA σ 7 ((L.1 2)).toNatClampNeg ((((σ.2.2.1 7 ((L.1 2)).toNatClampNeg)) + 1)))) else (some ((L.1 1), (uA σ 7 ((L.1 2)).toNatClampNeg ((((σ.2.2.1 7 ((L.1 2)).toNatClampNeg)) + 1)))))) else none) else none) else none)
  | k + 1, 2, L, σ => if ¬ (((L.1 1)) < 0 ∨ 72 ≤ ((L.1 1)).toNatClampNeg) then (some ((((L.1 1)) + 1), (uA σ 7 ((L.1 1)).toNatClampNeg 1))) else none
  | k + 1, 3, L, σ => y_X10_addOne k 1 (lI L 2 ((((L.1 2)) + 1))) σ
  | _ + 1, _ + 4, _, _ => none
def o_y_X10_addOne : List Cond := [.fieldLink RX10 18 "SetHouse$Wholes" "result" "[I"]
theorem o_y_X10_addOne_good : o_y_X10_addOne.all goodWord = true := by decide +kernel
def p_y_X10_addOne : List Cond := o_y_X10_addOne ++ []
theorem p_y_X10_addOne_good : p_y_X10_addOne.all goodWord = true := nb_all2 o_y_X10_addOne_good rfl
def w_y_X10_addOne : List Cond := .code yX10_addOne cX10_addOne 3 (some .int) :: (p_y_X10_addOne ++ fC)
theorem w_y_X10_addOne_good : w_y_X10_addOne.all goodWord = true := nb_allc (by decide +kernel) (nb_all2 p_y_X10_addOne_good fC_good)
theorem in_y_X10_addOne_X10 : ∀ w ∈ wsX100, w ∈ w_y_X10_addOne := fun _ h => List.mem_cons_of_mem _ (List.mem_append_right _ (List.mem_append_right _ (List.mem_append_right _ (List.mem_append_right _ (List.mem_append_right _ (List.mem_append_right _ (List.mem_append_right _ (List.mem_append_right _ (List.mem_append_right _ (List.mem_append_right _ (List.mem_append_left _ h)))))))))))
theorem hd_y_X10_addOne : yX10_addOne.cls = RX10 ∧ yX10_addOne.cls ≠ "java/lang/invoke/MethodHandle" ∧ yX10_addOne.cls ≠ "java/lang/invoke/VarHandle" ∧ (parseMethodDescriptor yX10_addOne.desc).map (fun d => d.parameters.length) = some 1 := by decide +kernel
set_option maxHeartbeats 40000000 in
set_option maxRecDepth 100000 in
theorem c_y_X10_addOne (l : Launch) (dC : Nat → ClassId) (dI : Nat → Nat → Nat) (cy : Nat → ClassId) (a z : Nat → Nat) (k0 : Nat) (L0 : LV) (σ0 : CS) (r0 : Int32 × CS) (h0 : y_X10_addOne k0 0 L0 σ0 = some r0) (sz : Nat) : Met l yX10_addOne w_y_X10_addOne ({ frames := 0, cells := 0, slots := 0, locals := 0 }) (va_Pc [.ref (a 4), .int (L0.1 1)] (nIn (dC, dI) cy sz (vC cy a z σ0))) (va_Qi (fun (x : Int32) (_ : Unit) => x = r0.1) (fun _ t => nOut (dC, dI) cy (va_A (vC cy a z σ0) sz) (vC cy a z r0.2) t) (va_A (vC cy a z σ0) sz)) 0 0 (va_A (vC cy a z σ0) sz) := by
  refine Met.ofW (cc := cX10_addOne) (maxL := 3) (ret := (some .int)) (by decide) rfl ?_
  intro p e s m args below meth c s₁ B hml hv
  obtain ⟨rfl, hsz, hP, hK, hD0, hG⟩ := hv
  have hx := B.exec
  have hb := B.bytes
  have hr := B.returns
  have hts := atoms_spec (ws := w_y_X10_addOne) B.pre
  have hown : s.vm.findClass RX10 = some m.cls := findClass_of_methodNamed B.named
  have hlocks := B.notSynchronized
  subst hsz
  have hD := hD0.self (sz := s.heap.size)
  generalize hAe : va_A (vC cy a z σ0) s.heap.size = A at hD ⊢
  have hA : ∀ q : Nat, s.heap.size ≤ q → A q := fun q h => by rw [← hAe]; exact Or.inr h
  have hS : va_S A s.heap s.heap [] := va_S.rf
  have hl := lv_entry ([.ref (a 4), .int (L0.1 1)]) (n := 3) (Nat.le_of_ble_eq_true rfl)
  rw [lg_entry_eq]
  generalize (lg_sl ([.ref (a 4), .int (L0.1 1)]) ++ List.replicate (3 - (lg_sl ([.ref (a 4), .int (L0.1 1)])).length) Slot.unset).toArray = ls at hl ⊢
  have hl : lv_has ls 3 [(0, .ref (a 4)), (1, .int (L0.1 1))] := hl
  have blk : ∀ k : Nat, (bC p l e (headSpec w_y_X10_addOne ({ frames := 0, cells := 0, slots := 0, locals := 0 })).room s m #[.ref (a 4), .int (L0.1 1)] below meth c dC dI cy a z A (kI dC dI cy a z A below #[.ref (a 4), .int (L0.1 1)] s) 3 (y_X10_addOne k 0) (fun L => [(0, .ref (a 4)), (1, .int (L.1 1))]) 0 (fun L => [])) ∧ (bC p l e (headSpec w_y_X10_addOne ({ frames := 0, cells := 0, slots := 0, locals := 0 })).room s m #[.ref (a 4), .int (L0.1 1)] below meth c dC dI cy a z A (kI dC dI cy a z A below #[.ref (a 4), .int (L0.1 1)] s) 3 (y_X10_addOne k 1) (fun L => [(0, .ref (a 4)), (1, .int (L.1 1)), (2, .int (L.1 2))]) 2 (fun L => [])) ∧ (bC p l e (headSpec w_y_X10_addOne ({ frames := 0, cells := 0, slots := 0, locals := 0 })).room s m #[.ref (a 4), .int (L0.1 1)] below meth c dC dI cy a z A (kI dC dI cy a z A below #[.ref (a 4), .int (L0.1 1)] s) 3 (y_X10_addOne k 2) (fun L => [(0, .ref (a 4)), (1, .int (L.1 1))]) 34 (fun L => [])) ∧ (bC p l e (headSpec w_y_X10_addOne ({ frames := 0, cells := 0, slots := 0, locals := 0 })).room s m #[.ref (a 4), .int (L0.1 1)] below meth c dC dI cy a z A (kI dC dI cy a z A below #[.ref (a 4), .int (L0.1 1)] s) 3 (y_X10_addOne k 3) (fun L => [(0, .ref (a 4)), (1, .int (L.1 1)), (2, .int (L.1 2))]) 28 (fun L => [])) := by
    intro k
    induction k with
    | zero => exact ⟨fun L σ r h => (by cases h), fun L σ r h => (by cases h), fun L σ r h => (by cases h), fun L σ r h => (by cases h)⟩
    | succ k ih =>
      refine ⟨?_, ?_, ?_, ?_⟩
      · intro L σ r h H locs ls hP hD hS hl
        rw [y_X10_addOne] at h
        refine lv_iconst (v := 0) hx hb dX10_addOne_0 (by decide) ?_
        refine lv_istore_n (lv' := [(2, .int 0), (0, .ref (a 4)), (1, .int (L.1 1))]) hx hb dX10_addOne_1 rfl hl (by decide) rfl (fun ls hl => ?_)
        exact ih.2.1 (lI L 2 0) σ r h H locs ls hP hD hS (lv_sub hl [1, 2, 0] rfl)
      · intro L σ r h H locs ls hP hD hS hl
        rw [y_X10_addOne] at h
        refine lv_iload_n hx hb dX10_addOne_2 rfl (lv_at hl 2 rfl) ?_
        refine lv_iload_n hx hb dX10_addOne_3 rfl (lv_at hl 1 rfl) ?_
        refine lv_icmp_ge (tgt := 34) hx hb dX10_addOne_4 (by decide) (fun c1 => ?_) (fun c1 => ?_)
        · rw [if_pos c1] at h
          exact ih.2.2.1 L σ r h H locs ls hP hD hS (lv_sub hl [0, 1] rfl)
        · rw [if_neg c1] at h
          refine lv_aload_n hx hb dX10_addOne_7 rfl (lv_at hl 0 rfl) ?_
          refine hg_4_3 hx hb hts in_y_X10_addOne_X10 hown hK hP (hts _ (List.mem_cons_of_mem _ (List.mem_append_left _ (List.mem_append_left _ (List.mem_of_getElem? (i := 0) rfl))))) dX10_addOne_8 ?_
          refine lv_iload_n hx hb dX10_addOne_11 rfl (lv_at hl 2 rfl) ?_
          refine lv_dup2_11 hx hb dX10_addOne_12 rfl rfl ?_
          obtain ⟨q2, h⟩ := kb_ite1 h
          refine hl_7 hx hb hK hP q2 dX10_addOne_13 ?_
          refine lv_iconst (v := 1) hx hb dX10_addOne_14 (by decide) ?_
          refine lv_iadd hx hb dX10_addOne_15 ?_
          obtain ⟨q3, h⟩ := kb_ite1 h
          refine hs_7 hx hb hK hP hD hS q3 dX10_addOne_16 (fun H locs hP hD hS => ?_)
          refine lv_aload_n hx hb dX10_addOne_17 rfl (lv_at hl 0 rfl) ?_
          refine hg_4_3 hx hb hts in_y_X10_addOne_X10 hown hK hP (hts _ (List.mem_cons_of_mem _ (List.mem_append_left _ (List.mem_append_left _ (List.mem_of_getElem? (i := 0) rfl))))) dX10_addOne_18 ?_
          refine lv_iload_n hx hb dX10_addOne_21 rfl (lv_at hl 2 rfl) ?_
          obtain ⟨q4, h⟩ := kb_ite1 h
          refine hl_7 hx hb hK hP q4 dX10_addOne_22 ?_
          refine lv_if_eq (tgt := 28) hx hb dX10_addOne_23 (by decide) (fun c5 => ?_) (fun c5 => ?_)
          · rw [if_pos c5] at h
            exact ih.2.2.2 L (uA σ 7 ((L.1 2)).toNatClampNeg ((((σ.2.2.1 7 ((L.1 2)).toNatClampNeg)) + 1))) r h H locs ls hP hD hS (lv_sub hl [0, 1, 2] rfl)
          · rw [if_neg c5] at h
            refine lv_iload_n hx hb dX10_addOne_26 rfl (lv_at hl 1 rfl) ?_
            obtain rfl := Option.some.inj h
            exact W.iret (v := (L.1 1)) hx hb hr (fun t ht hW => ⟨⟨(L.1 1), (), rfl, rfl, by rw [ht]; exact hP, va_K.moved hW.alike hK, hD⟩, hS.F ht⟩) hS.2.2 dX10_addOne_27
      · intro L σ r h H locs ls hP hD hS hl
        rw [y_X10_addOne] at h
        refine lv_aload_n hx hb dX10_addOne_34 rfl (lv_at hl 0 rfl) ?_
        refine hg_4_3 hx hb hts in_y_X10_addOne_X10 hown hK hP (hts _ (List.mem_cons_of_mem _ (List.mem_append_left _ (List.mem_append_left _ (List.mem_of_getElem? (i := 0) rfl))))) dX10_addOne_35 ?_
        refine lv_iload_n hx hb dX10_addOne_38 rfl (lv_at hl 1 rfl) ?_
        refine lv_iconst (v := 1) hx hb dX10_addOne_39 (by decide) ?_
        obtain ⟨q1, h⟩ := kb_ite1 h
        refine hs_7 hx hb hK hP hD hS q1 dX10_addOne_40 (fun H locs hP hD hS => ?_)
        refine lv_iload_n hx hb dX10_addOne_41 rfl (lv_at hl 1 rfl) ?_
        refine lv_iconst (v := 1) hx hb dX10_addOne_42 (by decide) ?_
        refine lv_iadd hx hb dX10_addOne_43 ?_
        obtain rfl := Option.some.inj h
        exact W.iret (v := (((L.1 1)) + 1)) hx hb hr (fun t ht hW => ⟨⟨(((L.1 1)) + 1), (), rfl, rfl, by rw [ht]; exact hP, va_K.moved hW.alike hK, hD⟩, hS.F ht⟩) hS.2.2 dX10_addOne_44
      · intro L σ r h H locs ls hP hD hS hl
        rw [y_X10_addOne] at h
        refine lv_iinc (v := ((L.1 2)) + 1) (lv' := [(2, .int (((L.1 2)) + 1)), (0, .ref (a 4)), (1, .int (L.1 1))]) hx hb dX10_addOne_28 hl (k := 2) rfl rfl (by decide) rfl (fun ls hl => ?_)
        refine lv_goto (tgt := 2) hx hb dX10_addOne_31 (by decide) ?_
        exact ih.2.1 (lI L 2 ((((L.1 2)) + 1))) σ r h H locs ls hP hD hS (lv_sub hl [1, 2, 0] rfl)
  exact (blk k0).1 L0 σ0 r0 h0 s.heap [] ls hP hD hS hl
/-! X10_divided -/
def y_X10_divided : Nat → Nat → LV → CS → Option (Int32 × CS)
  | 0, _, _, _ => none
  | k + 1, 0, L, σ => if ((L.1 2)) = ((-1610612736)) then (some ((-268435454), σ)) else (y_X10_divided k 1 L σ)
  | k + 1, 1, L, σ => if 0 ≤ ((L.1 1)) then (y_X10_divided k 2 L σ) else (if 0 ≤ ((L.1 2)) then (y_X10_divided k 2 L σ) else (oc (y_X10_number k 0 (lI lZ 0 ((L.1 1))) σ) (fun r3 => oc (y_X10_number k 0 (lI lZ 0 ((L.1 2))) r3.2) (fun r4 => oc (y_X10_dividedSmall k 0 (lI (lJ (lJ lZ 1 ((r3.1.toInt64))) 3 ((r4.1.toInt64))) 5 ((L.1 3))) r4.2) (fun r5 => some (r5.1, r5.2))))))
  | k + 1, 2, L, σ => oc (y_X10_load__a5 k 0 (lI lZ 1 ((L.1 1))) σ) (fun r1 => oc (y_X10_load__a6 k 0 (lI lZ 1 ((L.1 2))) r1.2) (fun r2 => oc (y_X10_isBelow k 0 (lI lZ 1 ((L.1 1))) r2.2) (fun r3 => oc (y_X10_divideLimbs k 0 (lI (lI lZ 1 r1.1) 2 r2.1) r3.2) (fun r4 => if r4.1 = 0 then (y_X10_divided k 4 (lI (lI (lI (lI L 4 r1.1) 5 r2.1) 6 r3.1) 100 1) r4.2) else (y_X10_divided k 3 (lI (lI (lI L 4 r1.1) 5 r2.1) 6 r3.1) r4.2)))))
  | k + 1, 3, L, σ => y_X10_divided k 4 (lI L 100 0) σ
  | k + 1, 4, L, σ => if ((L.1 3)) = 0 then (y_X10_divided k 5 (lI L 8 ((L.1 100))) σ) else (oc (y_X10_unpackRest k 0 (lI lZ 1 ((L.1 5))) σ) (fun r2 => if ((L.1 6)) = 0 then (y_X10_divided k 6 L r2.2) else (if ((L.1 100)) = 0 then (y_X10_divided k 7 L r2.2) else (y_X10_divided k 6 L r2.2))))
  | k + 1, 5, L, σ => oc (y_X10_unpackQuotient k 0 (lI lZ 1 ((L.1 4))) σ) (fun r1 => if ((L.1 6)) = 0 then (y_X10_divided k 8 (lI L 9 r1.1) r1.2) else (if ((L.1 8)) = 0 then (oc (y_X10_addOne k 0 (lI lZ 1 r1.1) r1.2) (fun r4 => y_X10_divided k 8 (lI L 9 r4.1) r4.2)) else (y_X10_divided k 8 (lI L 9 r1.1) r1.2)))
  | k + 1, 6, L, σ => oc (y_X10_made k 0 (lI (lI lZ 1 ((L.1 5))) 2 0) σ) (fun r1 => some (r1.1, r1.2))
  | k + 1, 7, L, σ => if ¬ (0 : Int32) < 0 ∧ ¬ (0 : Int32) < 0 ∧ ¬ ((L.1 5)) < 0 ∧ (0 : Int32).toNatClampNeg + ((L.1 5)).toNatClampNeg ≤ 72 ∧ (0 : Int32).toNatClampNeg + ((L.1 5)).toNatClampNeg ≤ 72 then (oc (y_X10_load__a6 k 0 (lI lZ 1 ((L.1 2))) (uF σ 5 (va_cpy (σ.2.2.1 7) (σ.2.2.1 5) (0 : Int32).toNatClampNeg (0 : Int32).toNatClampNeg ((L.1 5)).toNatClampNeg))) (fun r2 => oc (y_X10_restLimbs k 0 (lI lZ 1 ((L.1 5))) r2.2) (fun r3 => oc (y_X10_takeLimbs__a6__a5 k 0 (lI (lI lZ 2 ((L.1 5))) 4 r3.1) r3.2) (fun r4 => oc (y_X10_made k 0 (lI (lI lZ 1 r4.1) 2 0) r4.2) (fun r5 => some (r5.1, r5.2)))))) else none
  | k + 1, 8, L, σ => oc (y_X10_isBelow k 0 (lI lZ 1 ((L.1 2))) σ) (fun r1 => if ((L.1 6)) = r1.1 then (y_X10_divided k 9 (lI L 100 ((L.1 9))) r1.2) else (y_X10_divided k 10 (lI (lI L 100 1) 101 ((L.1 9))) r1.2))
  | k + 1, 9, L, σ => y_X10_divided k 10 (lI (lI L 100 0) 101 ((L.1 100))) σ
  | k + 1, 10, L, σ => oc (y_X10_made k 0 (lI (lI lZ 1 ((L.1 101))) 2 ((L.1 100))) σ) (fun r1 => some (r1.1, r1.2))
  | _ + 1, _ + 11, _, _ => none
def o_y_X10_divided : List Cond := [.constant RX10 37 (-1610612736), .constant RX10 122 (-268435454), .methodLink RX10 113 yX10_number, .static yX10_number, .initialized RX10, .methodLink RX10 123 yX10_dividedSmall, .instanceMethod yX10_dividedSmall, .selects RX10 yX10_dividedSmall yX10_dividedSmall, .fieldLink RX10 9 "SetHouse$Wholes" "left" "[I", .methodLink RX10 64 yX10_load, .instanceMethod yX10_load, .selects RX10 yX10_load yX10_load, .fieldLink RX10 15 "SetHouse$Wholes" "right" "[I", .methodLink RX10 68 yX10_isBelow, .instanceMethod yX10_isBelow, .selects RX10 yX10_isBelow yX10_isBelow, .methodLink RX10 127 yX10_divideLimbs, .instanceMethod yX10_divideLimbs, .selects RX10 yX10_divideLimbs yX10_divideLimbs, .methodLink RX10 130 yX10_unpackRest, .instanceMethod yX10_unpackRest, .selects RX10 yX10_unpackRest yX10_unpackRest, .methodLink RX10 137 yX10_unpackQuotient, .instanceMethod yX10_unpackQuotient, .selects RX10 yX10_unpackQuotient yX10_unpackQuotient, .methodLink RX10 140 yX10_addOne, .instanceMethod yX10_addOne, .selects RX10 yX10_addOne yX10_addOne, .methodLink RX10 72 yX10_made, .instanceMethod yX10_made, .selects RX10 yX10_made yX10_made, .fieldLink RX10 18 "SetHouse$Wholes" "result" "[I", .methodLink RX10 134 yX10_restLimbs, .instanceMethod yX10_restLimbs, .selects RX10 yX10_restLimbs yX10_restLimbs, .methodLink RX10 90 yX10_takeLimbs, .instanceMethod yX10_takeLimbs, .selects RX10 yX10_takeLimbs yX10_takeLimbs, .methodLink RX10 58 arraycopyName, .native arraycopyName, .static arraycopyName, .initialized "java/lang/System"]
theorem o_y_X10_divided_good : o_y_X10_divided.all goodWord = true := by decide +kernel
def p_y_X10_divided : List Cond := o_y_X10_divided ++ ((.code yX10_number cX10_number 1 (some .int) :: p_y_X10_number) ++ ((.code yX10_dividedSmall cX10_dividedSmall 8 (some .int) :: p_y_X10_dividedSmall) ++ ((.code yX10_load cX10_load 4 (some .int) :: p_y_X10_load__a5) ++ ((.code yX10_load cX10_load 4 (some .int) :: p_y_X10_load__a6) ++ ((.code yX10_isBelow cX10_isBelow 2 (some .boolean) :: p_y_X10_isBelow) ++ ((.code yX10_divideLimbs cX10_divideLimbs 7 (some .int) :: p_y_X10_divideLimbs) ++ ((.code yX10_unpackRest cX10_unpackRest 3 none :: p_y_X10_unpackRest) ++ ((.code yX10_unpackQuotient cX10_unpackQuotient 3 (some .int) :: p_y_X10_unpackQuotient) ++ ((.code yX10_addOne cX10_addOne 3 (some .int) :: p_y_X10_addOne) ++ ((.code yX10_made cX10_made 5 (some .int) :: p_y_X10_made) ++ ((.code yX10_restLimbs cX10_restLimbs 4 (some .int) :: p_y_X10_restLimbs) ++ ((.code yX10_takeLimbs cX10_takeLimbs 8 (some .int) :: p_y_X10_takeLimbs__a6__a5) ++ []))))))))))))
theorem p_y_X10_divided_good : p_y_X10_divided.all goodWord = true := nb_all2 o_y_X10_divided_good (nb_all2 (nb_allc (by decide +kernel) p_y_X10_number_good) (nb_all2 (nb_allc (by decide +kernel) p_y_X10_dividedSmall_good) (nb_all2 (nb_allc (by decide +kernel) p_y_X10_load__a5_good) (nb_all2 (nb_allc (by decide +kernel) p_y_X10_load__a6_good) (nb_all2 (nb_allc (by decide +kernel) p_y_X10_isBelow_good) (nb_all2 (nb_allc (by decide +kernel) p_y_X10_divideLimbs_good) (nb_all2 (nb_allc (by decide +kernel) p_y_X10_unpackRest_good) (nb_all2 (nb_allc (by decide +kernel) p_y_X10_unpackQuotient_good) (nb_all2 (nb_allc (by decide +kernel) p_y_X10_addOne_good) (nb_all2 (nb_allc (by decide +kernel) p_y_X10_made_good) (nb_all2 (nb_allc (by decide +kernel) p_y_X10_restLimbs_good) (nb_all2 (nb_allc (by decide +kernel) p_y_X10_takeLimbs__a6__a5_good) rfl))))))))))))
def w_y_X10_divided : List Cond := .code yX10_divided cX10_divided 10 (some .int) :: (p_y_X10_divided ++ fC)
theorem w_y_X10_divided_good : w_y_X10_divided.all goodWord = true := nb_allc (by decide +kernel) (nb_all2 p_y_X10_divided_good fC_good)
theorem in_y_X10_divided_X10 : ∀ w ∈ wsX100, w ∈ w_y_X10_divided := fun _ h => List.mem_cons_of_mem _ (List.mem_append_right _ (List.mem_append_right _ (List.mem_append_right _ (List.mem_append_right _ (List.mem_append_right _ (List.mem_append_right _ (List.mem_append_right _ (List.mem_append_right _ (List.mem_append_right _ (List.mem_append_right _ (List.mem_append_left _ h)))))))))))
theorem hd_y_X10_divided : yX10_divided.cls = RX10 ∧ yX10_divided.cls ≠ "java/lang/invoke/MethodHandle" ∧ yX10_divided.cls ≠ "java/lang/invoke/VarHandle" ∧ (parseMethodDescriptor yX10_divided.desc).map (fun d => d.parameters.length) = some 3 := by decide +kernel
theorem gg_y_X10_divided_X10_addOne : GoodIn w_y_X10_divided w_y_X10_addOne := goodIn_sub (fun w h => (List.mem_cons.mp h).elim (fun e => (List.mem_cons_of_mem _ (List.mem_append_left _ (List.mem_append_right _ (List.mem_append_right _ (List.mem_append_right _ (List.mem_append_right _ (List.mem_append_right _ (List.mem_append_right _ (List.mem_append_right _ (List.mem_append_right _ (List.mem_append_right _ (List.mem_append_left _ (List.mem_cons.mpr (Or.inl e))))))))))))))) (fun h => (List.mem_append.mp h).elim (fun h => (List.mem_cons_of_mem _ (List.mem_append_left _ (List.mem_append_right _ (List.mem_append_right _ (List.mem_append_right _ (List.mem_append_right _ (List.mem_append_right _ (List.mem_append_right _ (List.mem_append_right _ (List.mem_append_right _ (List.mem_append_right _ (List.mem_append_left _ (List.mem_cons_of_mem _ h)))))))))))))) (fun h => List.mem_cons_of_mem _ (List.mem_append_right _ h)))) w_y_X10_addOne_good
theorem g_y_X10_divided_X10_addOne_V140 : GoodIn w_y_X10_divided (wsV RX10 140 RX10 yX10_addOne w_y_X10_addOne) := goodIn_app (nb_g4 (List.mem_cons_of_mem _ (List.mem_append_left _ (List.mem_append_left _ (List.mem_of_getElem? (i := 25) rfl)))) (List.mem_cons_of_mem _ (List.mem_append_left _ (List.mem_append_left _ (List.mem_of_getElem? (i := 26) rfl)))) (List.mem_cons_of_mem _ (List.mem_append_left _ (List.mem_append_left _ (List.mem_of_getElem? (i := 27) rfl)))) (List.mem_cons_of_mem _ (List.mem_append_left _ (List.mem_append_left _ (List.mem_of_getElem? (i := 4) rfl)))) (by decide +kernel)) gg_y_X10_divided_X10_addOne
theorem gg_y_X10_divided_X10_divideLimbs : GoodIn w_y_X10_divided w_y_X10_divideLimbs := goodIn_sub (fun w h => (List.mem_cons.mp h).elim (fun e => (List.mem_cons_of_mem _ (List.mem_append_left _ (List.mem_append_right _ (List.mem_append_right _ (List.mem_append_right _ (List.mem_append_right _ (List.mem_append_right _ (List.mem_append_right _ (List.mem_append_left _ (List.mem_cons.mpr (Or.inl e)))))))))))) (fun h => (List.mem_append.mp h).elim (fun h => (List.mem_cons_of_mem _ (List.mem_append_left _ (List.mem_append_right _ (List.mem_append_right _ (List.mem_append_right _ (List.mem_append_right _ (List.mem_append_right _ (List.mem_append_right _ (List.mem_append_left _ (List.mem_cons_of_mem _ h))))))))))) (fun h => List.mem_cons_of_mem _ (List.mem_append_right _ h)))) w_y_X10_divideLimbs_good
theorem g_y_X10_divided_X10_divideLimbs_V127 : GoodIn w_y_X10_divided (wsV RX10 127 RX10 yX10_divideLimbs w_y_X10_divideLimbs) := goodIn_app (nb_g4 (List.mem_cons_of_mem _ (List.mem_append_left _ (List.mem_append_left _ (List.mem_of_getElem? (i := 16) rfl)))) (List.mem_cons_of_mem _ (List.mem_append_left _ (List.mem_append_left _ (List.mem_of_getElem? (i := 17) rfl)))) (List.mem_cons_of_mem _ (List.mem_append_left _ (List.mem_append_left _ (List.mem_of_getElem? (i := 18) rfl)))) (List.mem_cons_of_mem _ (List.mem_append_left _ (List.mem_append_left _ (List.mem_of_getElem? (i := 4) rfl)))) (by decide +kernel)) gg_y_X10_divided_X10_divideLimbs
theorem gg_y_X10_divided_X10_dividedSmall : GoodIn w_y_X10_divided w_y_X10_dividedSmall := goodIn_sub (fun w h => (List.mem_cons.mp h).elim (fun e => (List.mem_cons_of_mem _ (List.mem_append_left _ (List.mem_append_right _ (List.mem_append_right _ (List.mem_append_left _ (List.mem_cons.mpr (Or.inl e)))))))) (fun h => (List.mem_append.mp h).elim (fun h => (List.mem_cons_of_mem _ (List.mem_append_left _ (List.mem_append_right _ (List.mem_append_right _ (List.mem_append_left _ (List.mem_cons_of_mem _ h))))))) (fun h => List.mem_cons_of_mem _ (List.mem_append_right _ h)))) w_y_X10_dividedSmall_good
theorem g_y_X10_divided_X10_dividedSmall_V123 : GoodIn w_y_X10_divided (wsV RX10 123 RX10 yX10_dividedSmall w_y_X10_dividedSmall) := goodIn_app (nb_g4 (List.mem_cons_of_mem _ (List.mem_append_left _ (List.mem_append_left _ (List.mem_of_getElem? (i := 5) rfl)))) (List.mem_cons_of_mem _ (List.mem_append_left _ (List.mem_append_left _ (List.mem_of_getElem? (i := 6) rfl)))) (List.mem_cons_of_mem _ (List.mem_append_left _ (List.mem_append_left _ (List.mem_of_getElem? (i := 7) rfl)))) (List.mem_cons_of_mem _ (List.mem_append_left _ (List.mem_append_left _ (List.mem_of_getElem? (i := 4) rfl)))) (by decide +kernel)) gg_y_X10_divided_X10_dividedSmall
theorem gg_y_X10_divided_X10_isBelow : GoodIn w_y_X10_divided w_y_X10_isBelow := goodIn_sub (fun w h => (List.mem_cons.mp h).elim (fun e => (List.mem_cons_of_mem _ (List.mem_append_left _ (List.mem_append_right _ (List.mem_append_right _ (List.mem_append_right _ (List.mem_append_right _ (List.mem_append_right _ (List.mem_append_left _ (List.mem_cons.mpr (Or.inl e))))))))))) (fun h => (List.mem_append.mp h).elim (fun h => (List.mem_cons_of_mem _ (List.mem_append_left _ (List.mem_append_right _ (List.mem_append_right _ (List.mem_append_right _ (List.mem_append_right _ (List.mem_append_right _ (List.mem_append_left _ (List.mem_cons_of_mem _ h)))))))))) (fun h => List.mem_cons_of_mem _ (List.mem_append_right _ h)))) w_y_X10_isBelow_good
theorem g_y_X10_divided_X10_isBelow_V68 : GoodIn w_y_X10_divided (wsV RX10 68 RX10 yX10_isBelow w_y_X10_isBelow) := goodIn_app (nb_g4 (List.mem_cons_of_mem _ (List.mem_append_left _ (List.mem_append_left _ (List.mem_of_getElem? (i := 13) rfl)))) (List.mem_cons_of_mem _ (List.mem_append_left _ (List.mem_append_left _ (List.mem_of_getElem? (i := 14) rfl)))) (List.mem_cons_of_mem _ (List.mem_append_left _ (List.mem_append_left _ (List.mem_of_getElem? (i := 15) rfl)))) (List.mem_cons_of_mem _ (List.mem_append_left _ (List.mem_append_left _ (List.mem_of_getElem? (i := 4) rfl)))) (by decide +kernel)) gg_y_X10_divided_X10_isBelow
theorem gg_y_X10_divided_X10_load__a5 : GoodIn w_y_X10_divided w_y_X10_load__a5 := goodIn_sub (fun w h => (List.mem_cons.mp h).elim (fun e => (List.mem_cons_of_mem _ (List.mem_append_left _ (List.mem_append_right _ (List.mem_append_right _ (List.mem_append_right _ (List.mem_append_left _ (List.mem_cons.mpr (Or.inl e))))))))) (fun h => (List.mem_append.mp h).elim (fun h => (List.mem_cons_of_mem _ (List.mem_append_left _ (List.mem_append_right _ (List.mem_append_right _ (List.mem_append_right _ (List.mem_append_left _ (List.mem_cons_of_mem _ h)))))))) (fun h => List.mem_cons_of_mem _ (List.mem_append_right _ h)))) w_y_X10_load__a5_good
theorem g_y_X10_divided_X10_load__a5_V64 : GoodIn w_y_X10_divided (wsV RX10 64 RX10 yX10_load w_y_X10_load__a5) := goodIn_app (nb_g4 (List.mem_cons_of_mem _ (List.mem_append_left _ (List.mem_append_left _ (List.mem_of_getElem? (i := 9) rfl)))) (List.mem_cons_of_mem _ (List.mem_append_left _ (List.mem_append_left _ (List.mem_of_getElem? (i := 10) rfl)))) (List.mem_cons_of_mem _ (List.mem_append_left _ (List.mem_append_left _ (List.mem_of_getElem? (i := 11) rfl)))) (List.mem_cons_of_mem _ (List.mem_append_left _ (List.mem_append_left _ (List.mem_of_getElem? (i := 4) rfl)))) (by decide +kernel)) gg_y_X10_divided_X10_load__a5
theorem gg_y_X10_divided_X10_load__a6 : GoodIn w_y_X10_divided w_y_X10_load__a6 := goodIn_sub (fun w h => (List.mem_cons.mp h).elim (fun e => (List.mem_cons_of_mem _ (List.mem_append_left _ (List.mem_append_right _ (List.mem_append_right _ (List.mem_append_right _ (List.mem_append_right _ (List.mem_append_left _ (List.mem_cons.mpr (Or.inl e)))))))))) (fun h => (List.mem_append.mp h).elim (fun h => (List.mem_cons_of_mem _ (List.mem_append_left _ (List.mem_append_right _ (List.mem_append_right _ (List.mem_append_right _ (List.mem_append_right _ (List.mem_append_left _ (List.mem_cons_of_mem _ h))))))))) (fun h => List.mem_cons_of_mem _ (List.mem_append_right _ h)))) w_y_X10_load__a6_good
theorem g_y_X10_divided_X10_load__a6_V64 : GoodIn w_y_X10_divided (wsV RX10 64 RX10 yX10_load w_y_X10_load__a6) := goodIn_app (nb_g4 (List.mem_cons_of_mem _ (List.mem_append_left _ (List.mem_append_left _ (List.mem_of_getElem? (i := 9) rfl)))) (List.mem_cons_of_mem _ (List.mem_append_left _ (List.mem_append_left _ (List.mem_of_getElem? (i := 10) rfl)))) (List.mem_cons_of_mem _ (List.mem_append_left _ (List.mem_append_left _ (List.mem_of_getElem? (i := 11) rfl)))) (List.mem_cons_of_mem _ (List.mem_append_left _ (List.mem_append_left _ (List.mem_of_getElem? (i := 4) rfl)))) (by decide +kernel)) gg_y_X10_divided_X10_load__a6
theorem gg_y_X10_divided_X10_made : GoodIn w_y_X10_divided w_y_X10_made := goodIn_sub (fun w h => (List.mem_cons.mp h).elim (fun e => (List.mem_cons_of_mem _ (List.mem_append_left _ (List.mem_append_right _ (List.mem_append_right _ (List.mem_append_right _ (List.mem_append_right _ (List.mem_append_right _ (List.mem_append_right _ (List.mem_append_right _ (List.mem_append_right _ (List.mem_append_right _ (List.mem_append_right _ (List.mem_append_left _ (List.mem_cons.mpr (Or.inl e)))))))))))))))) (fun h => (List.mem_append.mp h).elim (fun h => (List.mem_cons_of_mem _ (List.mem_append_left _ (List.mem_append_right _ (List.mem_append_right _ (List.mem_append_right _ (List.mem_append_right _ (List.mem_append_right _ (List.mem_append_right _ (List.mem_append_right _ (List.mem_append_right _ (List.mem_append_right _ (List.mem_append_right _ (List.mem_append_left _ (List.mem_cons_of_mem _ h))))))))))))))) (fun h => List.mem_cons_of_mem _ (List.mem_append_right _ h)))) w_y_X10_made_good
theorem g_y_X10_divided_X10_made_V72 : GoodIn w_y_X10_divided (wsV RX10 72 RX10 yX10_made w_y_X10_made) := goodIn_app (nb_g4 (List.mem_cons_of_mem _ (List.mem_append_left _ (List.mem_append_left _ (List.mem_of_getElem? (i := 28) rfl)))) (List.mem_cons_of_mem _ (List.mem_append_left _ (List.mem_append_left _ (List.mem_of_getElem? (i := 29) rfl)))) (List.mem_cons_of_mem _ (List.mem_append_left _ (List.mem_append_left _ (List.mem_of_getElem? (i := 30) rfl)))) (List.mem_cons_of_mem _ (List.mem_append_left _ (List.mem_append_left _ (List.mem_of_getElem? (i := 4) rfl)))) (by decide +kernel)) gg_y_X10_divided_X10_made
theorem gg_y_X10_divided_X10_number : GoodIn w_y_X10_divided w_y_X10_number := goodIn_sub (fun w h => (List.mem_cons.mp h).elim (fun e => (List.mem_cons_of_mem _ (List.mem_append_left _ (List.mem_append_right _ (List.mem_append_left _ (List.mem_cons.mpr (Or.inl e))))))) (fun h => (List.mem_append.mp h).elim (fun h => (List.mem_cons_of_mem _ (List.mem_append_left _ (List.mem_append_right _ (List.mem_append_left _ (List.mem_cons_of_mem _ h)))))) (fun h => List.mem_cons_of_mem _ (List.mem_append_right _ h)))) w_y_X10_number_good
theorem g_y_X10_divided_X10_number_S113 : GoodIn w_y_X10_divided (va_wsS RX10 113 yX10_number w_y_X10_number) := goodIn_app (nb_g3 (List.mem_cons_of_mem _ (List.mem_append_left _ (List.mem_append_left _ (List.mem_of_getElem? (i := 2) rfl)))) (List.mem_cons_of_mem _ (List.mem_append_left _ (List.mem_append_left _ (List.mem_of_getElem? (i := 3) rfl)))) (List.mem_cons_of_mem _ (List.mem_append_left _ (List.mem_append_left _ (List.mem_of_getElem? (i := 4) rfl)))) (by decide +kernel)) gg_y_X10_divided_X10_number
theorem gg_y_X10_divided_X10_restLimbs : GoodIn w_y_X10_divided w_y_X10_restLimbs := goodIn_sub (fun w h => (List.mem_cons.mp h).elim (fun e => (List.mem_cons_of_mem _ (List.mem_append_left _ (List.mem_append_right _ (List.mem_append_right _ (List.mem_append_right _ (List.mem_append_right _ (List.mem_append_right _ (List.mem_append_right _ (List.mem_append_right _ (List.mem_append_right _ (List.mem_append_right _ (List.mem_append_right _ (List.mem_append_right _ (List.mem_append_left _ (List.mem_cons.mpr (Or.inl e))))))))))))))))) (fun h => (List.mem_append.mp h).elim (fun h => (List.mem_cons_of_mem _ (List.mem_append_left _ (List.mem_append_right _ (List.mem_append_right _ (List.mem_append_right _ (List.mem_append_right _ (List.mem_append_right _ (List.mem_append_right _ (List.mem_append_right _ (List.mem_append_right _ (List.mem_append_right _ (List.mem_append_right _ (List.mem_append_right _ (List.mem_append_left _ (List.mem_cons_of_mem _ h)))))))))))))))) (fun h => List.mem_cons_of_mem _ (List.mem_append_right _ h)))) w_y_X10_restLimbs_good
theorem g_y_X10_divided_X10_restLimbs_V134 : GoodIn w_y_X10_divided (wsV RX10 134 RX10 yX10_restLimbs w_y_X10_restLimbs) := goodIn_app (nb_g4 (List.mem_cons_of_mem _ (List.mem_append_left _ (List.mem_append_left _ (List.mem_of_getElem? (i := 32) rfl)))) (List.mem_cons_of_mem _ (List.mem_append_left _ (List.mem_append_left _ (List.mem_of_getElem? (i := 33) rfl)))) (List.mem_cons_of_mem _ (List.mem_append_left _ (List.mem_append_left _ (List.mem_of_getElem? (i := 34) rfl)))) (List.mem_cons_of_mem _ (List.mem_append_left _ (List.mem_append_left _ (List.mem_of_getElem? (i := 4) rfl)))) (by decide +kernel)) gg_y_X10_divided_X10_restLimbs
theorem gg_y_X10_divided_X10_takeLimbs__a6__a5 : GoodIn w_y_X10_divided w_y_X10_takeLimbs__a6__a5 := goodIn_sub (fun w h => (List.mem_cons.mp h).elim (fun e => (List.mem_cons_of_mem _ (List.mem_append_left _ (List.mem_append_right _ (List.mem_append_right _ (List.mem_append_right _ (List.mem_append_right _ (List.mem_append_right _ (List.mem_append_right _ (List.mem_append_right _ (List.mem_append_right _ (List.mem_append_right _ (List.mem_append_right _ (List.mem_append_right _ (List.mem_append_right _ (List.mem_append_left _ (List.mem_cons.mpr (Or.inl e)))))))))))))))))) (fun h => (List.mem_append.mp h).elim (fun h => (List.mem_cons_of_mem _ (List.mem_append_left _ (List.mem_append_right _ (List.mem_append_right _ (List.mem_append_right _ (List.mem_append_right _ (List.mem_append_right _ (List.mem_append_right _ (List.mem_append_right _ (List.mem_append_right _ (List.mem_append_right _ (List.mem_append_right _ (List.mem_append_right _ (List.mem_append_right _ (List.mem_append_left _ (List.mem_cons_of_mem _ h))))))))))))))))) (fun h => List.mem_cons_of_mem _ (List.mem_append_right _ h)))) w_y_X10_takeLimbs__a6__a5_good
theorem g_y_X10_divided_X10_takeLimbs__a6__a5_V90 : GoodIn w_y_X10_divided (wsV RX10 90 RX10 yX10_takeLimbs w_y_X10_takeLimbs__a6__a5) := goodIn_app (nb_g4 (List.mem_cons_of_mem _ (List.mem_append_left _ (List.mem_append_left _ (List.mem_of_getElem? (i := 35) rfl)))) (List.mem_cons_of_mem _ (List.mem_append_left _ (List.mem_append_left _ (List.mem_of_getElem? (i := 36) rfl)))) (List.mem_cons_of_mem _ (List.mem_append_left _ (List.mem_append_left _ (List.mem_of_getElem? (i := 37) rfl)))) (List.mem_cons_of_mem _ (List.mem_append_left _ (List.mem_append_left _ (List.mem_of_getElem? (i := 4) rfl)))) (by decide +kernel)) gg_y_X10_divided_X10_takeLimbs__a6__a5
theorem gg_y_X10_divided_X10_unpackQuotient : GoodIn w_y_X10_divided w_y_X10_unpackQuotient := goodIn_sub (fun w h => (List.mem_cons.mp h).elim (fun e => (List.mem_cons_of_mem _ (List.mem_append_left _ (List.mem_append_right _ (List.mem_append_right _ (List.mem_append_right _ (List.mem_append_right _ (List.mem_append_right _ (List.mem_append_right _ (List.mem_append_right _ (List.mem_append_right _ (List.mem_append_left _ (List.mem_cons.mpr (Or.inl e)))))))))))))) (fun h => (List.mem_append.mp h).elim (fun h => (List.mem_cons_of_mem _ (List.mem_append_left _ (List.mem_append_right _ (List.mem_append_right _ (List.mem_append_right _ (List.mem_append_right _ (List.mem_append_right _ (List.mem_append_right _ (List.mem_append_right _ (List.mem_append_right _ (List.mem_append_left _ (List.mem_cons_of_mem _ h))))))))))))) (fun h => List.mem_cons_of_mem _ (List.mem_append_right _ h)))) w_y_X10_unpackQuotient_good
theorem g_y_X10_divided_X10_unpackQuotient_V137 : GoodIn w_y_X10_divided (wsV RX10 137 RX10 yX10_unpackQuotient w_y_X10_unpackQuotient) := goodIn_app (nb_g4 (List.mem_cons_of_mem _ (List.mem_append_left _ (List.mem_append_left _ (List.mem_of_getElem? (i := 22) rfl)))) (List.mem_cons_of_mem _ (List.mem_append_left _ (List.mem_append_left _ (List.mem_of_getElem? (i := 23) rfl)))) (List.mem_cons_of_mem _ (List.mem_append_left _ (List.mem_append_left _ (List.mem_of_getElem? (i := 24) rfl)))) (List.mem_cons_of_mem _ (List.mem_append_left _ (List.mem_append_left _ (List.mem_of_getElem? (i := 4) rfl)))) (by decide +kernel)) gg_y_X10_divided_X10_unpackQuotient
theorem gg_y_X10_divided_X10_unpackRest : GoodIn w_y_X10_divided w_y_X10_unpackRest := goodIn_sub (fun w h => (List.mem_cons.mp h).elim (fun e => (List.mem_cons_of_mem _ (List.mem_append_left _ (List.mem_append_right _ (List.mem_append_right _ (List.mem_append_right _ (List.mem_append_right _ (List.mem_append_right _ (List.mem_append_right _ (List.mem_append_right _ (List.mem_append_left _ (List.mem_cons.mpr (Or.inl e))))))))))))) (fun h => (List.mem_append.mp h).elim (fun h => (List.mem_cons_of_mem _ (List.mem_append_left _ (List.mem_append_right _ (List.mem_append_right _ (List.mem_append_right _ (List.mem_append_right _ (List.mem_append_right _ (List.mem_append_right _ (List.mem_append_right _ (List.mem_append_left _ (List.mem_cons_of_mem _ h)))))))))))) (fun h => List.mem_cons_of_mem _ (List.mem_append_right _ h)))) w_y_X10_unpackRest_good
theorem g_y_X10_divided_X10_unpackRest_V130 : GoodIn w_y_X10_divided (wsV RX10 130 RX10 yX10_unpackRest w_y_X10_unpackRest) := goodIn_app (nb_g4 (List.mem_cons_of_mem _ (List.mem_append_left _ (List.mem_append_left _ (List.mem_of_getElem? (i := 19) rfl)))) (List.mem_cons_of_mem _ (List.mem_append_left _ (List.mem_append_left _ (List.mem_of_getElem? (i := 20) rfl)))) (List.mem_cons_of_mem _ (List.mem_append_left _ (List.mem_append_left _ (List.mem_of_getElem? (i := 21) rfl)))) (List.mem_cons_of_mem _ (List.mem_append_left _ (List.mem_append_left _ (List.mem_of_getElem? (i := 4) rfl)))) (by decide +kernel)) gg_y_X10_divided_X10_unpackRest
set_option maxHeartbeats 40000000 in
set_option maxRecDepth 100000 in
theorem c_y_X10_divided (l : Launch) (dC : Nat → ClassId) (dI : Nat → Nat → Nat) (cy : Nat → ClassId) (a z : Nat → Nat) (k0 : Nat) (L0 : LV) (σ0 : CS) (r0 : Int32 × CS) (h0 : y_X10_divided k0 0 L0 σ0 = some r0) (sz : Nat) : Met l yX10_divided w_y_X10_divided ({ frames := 4, cells := 0, slots := 0, locals := 135 }) (va_Pc [.ref (a 4), .int (L0.1 1), .int (L0.1 2), .int (L0.1 3)] (nIn (dC, dI) cy sz (vC cy a z σ0))) (va_Qi (fun (x : Int32) (_ : Unit) => x = r0.1) (fun _ t => nOut (dC, dI) cy (va_A (vC cy a z σ0) sz) (vC cy a z r0.2) t) (va_A (vC cy a z σ0) sz)) 0 0 (va_A (vC cy a z σ0) sz) := by
  refine Met.ofW (cc := cX10_divided) (maxL := 10) (ret := (some .int)) (by decide) rfl ?_
  intro p e s m args below meth c s₁ B hml hv
  obtain ⟨rfl, hsz, hP, hK, hD0, hG⟩ := hv
  have hx := B.exec
  have hb := B.bytes
  have hr := B.returns
  have hts := atoms_spec (ws := w_y_X10_divided) B.pre
  have hown : s.vm.findClass RX10 = some m.cls := findClass_of_methodNamed B.named
  have hlocks := B.notSynchronized
  subst hsz
  have hD := hD0.self (sz := s.heap.size)
  generalize hAe : va_A (vC cy a z σ0) s.heap.size = A at hD ⊢
  have hA : ∀ q : Nat, s.heap.size ≤ q → A q := fun q h => by rw [← hAe]; exact Or.inr h
  have hS : va_S A s.heap s.heap [] := va_S.rf
  have hl := lv_entry ([.ref (a 4), .int (L0.1 1), .int (L0.1 2), .int (L0.1 3)]) (n := 10) (Nat.le_of_ble_eq_true rfl)
  rw [lg_entry_eq]
  generalize (lg_sl ([.ref (a 4), .int (L0.1 1), .int (L0.1 2), .int (L0.1 3)]) ++ List.replicate (10 - (lg_sl ([.ref (a 4), .int (L0.1 1), .int (L0.1 2), .int (L0.1 3)])).length) Slot.unset).toArray = ls at hl ⊢
  have hl : lv_has ls 10 [(0, .ref (a 4)), (1, .int (L0.1 1)), (2, .int (L0.1 2)), (3, .int (L0.1 3))] := hl
  have blk : ∀ k : Nat, (bC p l e (headSpec w_y_X10_divided ({ frames := 4, cells := 0, slots := 0, locals := 135 })).room s m #[.ref (a 4), .int (L0.1 1), .int (L0.1 2), .int (L0.1 3)] below meth c dC dI cy a z A (kI dC dI cy a z A below #[.ref (a 4), .int (L0.1 1), .int (L0.1 2), .int (L0.1 3)] s) 10 (y_X10_divided k 0) (fun L => [(0, .ref (a 4)), (1, .int (L.1 1)), (2, .int (L.1 2)), (3, .int (L.1 3))]) 0 (fun L => [])) ∧ (bC p l e (headSpec w_y_X10_divided ({ frames := 4, cells := 0, slots := 0, locals := 135 })).room s m #[.ref (a 4), .int (L0.1 1), .int (L0.1 2), .int (L0.1 3)] below meth c dC dI cy a z A (kI dC dI cy a z A below #[.ref (a 4), .int (L0.1 1), .int (L0.1 2), .int (L0.1 3)] s) 10 (y_X10_divided k 1) (fun L => [(0, .ref (a 4)), (1, .int (L.1 1)), (2, .int (L.1 2)), (3, .int (L.1 3))]) 9 (fun L => [])) ∧ (bC p l e (headSpec w_y_X10_divided ({ frames := 4, cells := 0, slots := 0, locals := 135 })).room s m #[.ref (a 4), .int (L0.1 1), .int (L0.1 2), .int (L0.1 3)] below meth c dC dI cy a z A (kI dC dI cy a z A below #[.ref (a 4), .int (L0.1 1), .int (L0.1 2), .int (L0.1 3)] s) 10 (y_X10_divided k 2) (fun L => [(0, .ref (a 4)), (1, .int (L.1 1)), (2, .int (L.1 2)), (3, .int (L.1 3))]) 33 (fun L => [])) ∧ (bC p l e (headSpec w_y_X10_divided ({ frames := 4, cells := 0, slots := 0, locals := 135 })).room s m #[.ref (a 4), .int (L0.1 1), .int (L0.1 2), .int (L0.1 3)] below meth c dC dI cy a z A (kI dC dI cy a z A below #[.ref (a 4), .int (L0.1 1), .int (L0.1 2), .int (L0.1 3)] s) 10 (y_X10_divided k 3) (fun L => [(0, .ref (a 4)), (2, .int (L.1 2)), (3, .int (L.1 3)), (4, .int (L.1 4)), (5, .int (L.1 5)), (6, .int (L.1 6))]) 81 (fun L => [])) ∧ (bC p l e (headSpec w_y_X10_divided ({ frames := 4, cells := 0, slots := 0, locals := 135 })).room s m #[.ref (a 4), .int (L0.1 1), .int (L0.1 2), .int (L0.1 3)] below meth c dC dI cy a z A (kI dC dI cy a z A below #[.ref (a 4), .int (L0.1 1), .int (L0.1 2), .int (L0.1 3)] s) 10 (y_X10_divided k 4) (fun L => [(0, .ref (a 4)), (2, .int (L.1 2)), (3, .int (L.1 3)), (4, .int (L.1 4)), (5, .int (L.1 5)), (6, .int (L.1 6))]) 82 (fun L => [.int (L.1 100)])) ∧ (bC p l e (headSpec w_y_X10_divided ({ frames := 4, cells := 0, slots := 0, locals := 135 })).room s m #[.ref (a 4), .int (L0.1 1), .int (L0.1 2), .int (L0.1 3)] below meth c dC dI cy a z A (kI dC dI cy a z A below #[.ref (a 4), .int (L0.1 1), .int (L0.1 2), .int (L0.1 3)] s) 10 (y_X10_divided k 5) (fun L => [(0, .ref (a 4)), (2, .int (L.1 2)), (4, .int (L.1 4)), (6, .int (L.1 6)), (8, .int (L.1 8))]) 163 (fun L => [])) ∧ (bC p l e (headSpec w_y_X10_divided ({ frames := 4, cells := 0, slots := 0, locals := 135 })).room s m #[.ref (a 4), .int (L0.1 1), .int (L0.1 2), .int (L0.1 3)] below meth c dC dI cy a z A (kI dC dI cy a z A below #[.ref (a 4), .int (L0.1 1), .int (L0.1 2), .int (L0.1 3)] s) 10 (y_X10_divided k 6) (fun L => [(0, .ref (a 4)), (5, .int (L.1 5))]) 104 (fun L => [])) ∧ (bC p l e (headSpec w_y_X10_divided ({ frames := 4, cells := 0, slots := 0, locals := 135 })).room s m #[.ref (a 4), .int (L0.1 1), .int (L0.1 2), .int (L0.1 3)] below meth c dC dI cy a z A (kI dC dI cy a z A below #[.ref (a 4), .int (L0.1 1), .int (L0.1 2), .int (L0.1 3)] s) 10 (y_X10_divided k 7) (fun L => [(0, .ref (a 4)), (2, .int (L.1 2)), (5, .int (L.1 5))]) 112 (fun L => [])) ∧ (bC p l e (headSpec w_y_X10_divided ({ frames := 4, cells := 0, slots := 0, locals := 135 })).room s m #[.ref (a 4), .int (L0.1 1), .int (L0.1 2), .int (L0.1 3)] below meth c dC dI cy a z A (kI dC dI cy a z A below #[.ref (a 4), .int (L0.1 1), .int (L0.1 2), .int (L0.1 3)] s) 10 (y_X10_divided k 8) (fun L => [(0, .ref (a 4)), (2, .int (L.1 2)), (6, .int (L.1 6)), (9, .int (L.1 9))]) 189 (fun L => [])) ∧ (bC p l e (headSpec w_y_X10_divided ({ frames := 4, cells := 0, slots := 0, locals := 135 })).room s m #[.ref (a 4), .int (L0.1 1), .int (L0.1 2), .int (L0.1 3)] below meth c dC dI cy a z A (kI dC dI cy a z A below #[.ref (a 4), .int (L0.1 1), .int (L0.1 2), .int (L0.1 3)] s) 10 (y_X10_divided k 9) (fun L => []) 206 (fun L => [.int (L.1 100), .ref (a 4)])) ∧ (bC p l e (headSpec w_y_X10_divided ({ frames := 4, cells := 0, slots := 0, locals := 135 })).room s m #[.ref (a 4), .int (L0.1 1), .int (L0.1 2), .int (L0.1 3)] below meth c dC dI cy a z A (kI dC dI cy a z A below #[.ref (a 4), .int (L0.1 1), .int (L0.1 2), .int (L0.1 3)] s) 10 (y_X10_divided k 10) (fun L => []) 207 (fun L => [.int (L.1 100), .int (L.1 101), .ref (a 4)])) := by
    intro k
    induction k with
    | zero => exact ⟨fun L σ r h => (by cases h), fun L σ r h => (by cases h), fun L σ r h => (by cases h), fun L σ r h => (by cases h), fun L σ r h => (by cases h), fun L σ r h => (by cases h), fun L σ r h => (by cases h), fun L σ r h => (by cases h), fun L σ r h => (by cases h), fun L σ r h => (by cases h), fun L σ r h => (by cases h)⟩
    | succ k ih =>
      refine ⟨?_, ?_, ?_, ?_, ?_, ?_, ?_, ?_, ?_, ?_, ?_⟩
      · intro L σ r h H locs ls hP hD hS hl
        rw [y_X10_divided] at h
        refine lv_iload_n hx hb dX10_divided_0 rfl (lv_at hl 2 rfl) ?_
        refine lv_ldc (v := (-1610612736)) hx hb hown (hts _ (List.mem_cons_of_mem _ (List.mem_append_left _ (List.mem_append_left _ (List.mem_of_getElem? (i := 0) rfl))))) dX10_divided_1 ?_
        refine lv_icmp_ne (tgt := 9) hx hb dX10_divided_3 (by decide) (fun c1 => ?_) (fun c1 => ?_)
        · rw [if_neg c1] at h
          exact ih.2.1 L σ r h H locs ls hP hD hS (lv_sub hl [0, 1, 2, 3] rfl)
        · rw [if_pos c1] at h
          refine lv_ldc (v := (-268435454)) hx hb hown (hts _ (List.mem_cons_of_mem _ (List.mem_append_left _ (List.mem_append_left _ (List.mem_of_getElem? (i := 1) rfl))))) dX10_divided_6 ?_
          obtain rfl := Option.some.inj h
          exact W.iret (v := (-268435454)) hx hb hr (fun t ht hW => ⟨⟨(-268435454), (), rfl, rfl, by rw [ht]; exact hP, va_K.moved hW.alike hK, hD⟩, hS.F ht⟩) hS.2.2 dX10_divided_8
      · intro L σ r h H locs ls hP hD hS hl
        rw [y_X10_divided] at h
        refine lv_iload_n hx hb dX10_divided_9 rfl (lv_at hl 1 rfl) ?_
        refine lv_if_ge (tgt := 33) hx hb dX10_divided_10 (by decide) (fun c1 => ?_) (fun c1 => ?_)
        · rw [if_pos c1] at h
          exact ih.2.2.1 L σ r h H locs ls hP hD hS (lv_sub hl [0, 1, 2, 3] rfl)
        · rw [if_neg c1] at h
          refine lv_iload_n hx hb dX10_divided_13 rfl (lv_at hl 2 rfl) ?_
          refine lv_if_ge (tgt := 33) hx hb dX10_divided_14 (by decide) (fun c2 => ?_) (fun c2 => ?_)
          · rw [if_pos c2] at h
            exact ih.2.2.1 L σ r h H locs ls hP hD hS (lv_sub hl [0, 1, 2, 3] rfl)
          · rw [if_neg c2] at h
            refine lv_aload_n hx hb dX10_divided_17 rfl (lv_at hl 0 rfl) ?_
            refine lv_iload_n hx hb dX10_divided_18 rfl (lv_at hl 1 rfl) ?_
            obtain ⟨r3, hc3, h⟩ := oc_ex h
            refine kc_i (va_runS (As := [.int (L.1 1)]) (rest := [.ref (a 4)]) ⟨hx, hb, hml, hown, hts⟩ (c_y_X10_number l dC dI cy a z k (lI lZ 0 ((L.1 1))) σ r3 hc3 H.size) (va_cwS 1 hts g_y_X10_divided_X10_number_S113 rfl rfl rfl hd_y_X10_number ⟨Nat.le_of_ble_eq_true rfl, Nat.le_of_ble_eq_true rfl⟩) ⟨nb_blind, (kb_pre hK hG hP hD)⟩ rfl rfl hl.1 rfl (lv_room (Nat.le_of_ble_eq_true rfl)) dX10_divided_19 ⟨Nat.le_refl _, Nat.le_refl _⟩) hA hP hD hS (fun H locs hP hD hS => ?_)
            refine lv_i2l (v := r3.1.toInt64) hx hb dX10_divided_22 rfl ?_
            refine lv_iload_n hx hb dX10_divided_23 rfl (lv_at hl 2 rfl) ?_
            obtain ⟨r4, hc4, h⟩ := oc_ex h
            refine kc_i (va_runS (As := [.int (L.1 2)]) (rest := [.long (r3.1.toInt64), .ref (a 4)]) ⟨hx, hb, hml, hown, hts⟩ (c_y_X10_number l dC dI cy a z k (lI lZ 0 ((L.1 2))) r3.2 r4 hc4 H.size) (va_cwS 1 hts g_y_X10_divided_X10_number_S113 rfl rfl rfl hd_y_X10_number ⟨Nat.le_of_ble_eq_true rfl, Nat.le_of_ble_eq_true rfl⟩) ⟨nb_blind, (kb_pre hK hG hP hD)⟩ rfl rfl hl.1 rfl (lv_room (Nat.le_of_ble_eq_true rfl)) dX10_divided_24 ⟨Nat.le_refl _, Nat.le_refl _⟩) hA hP hD hS (fun H locs hP hD hS => ?_)
            refine lv_i2l (v := r4.1.toInt64) hx hb dX10_divided_27 rfl ?_
            refine lv_iload_n hx hb dX10_divided_28 rfl (lv_at hl 3 rfl) ?_
            obtain ⟨r5, hc5, h⟩ := oc_ex h
            refine kc_i (va_runV (As := [.long (r3.1.toInt64), .long (r4.1.toInt64), .int (L.1 3)]) (rest := []) ⟨hx, hb, hml, hown, hts⟩ (c_y_X10_dividedSmall l dC dI cy a z k (lI (lJ (lJ lZ 1 ((r3.1.toInt64))) 3 ((r4.1.toInt64))) 5 ((L.1 3))) r4.2 r5 hc5 H.size) (cwV 3 hts g_y_X10_divided_X10_dividedSmall_V123 rfl rfl rfl hd_y_X10_dividedSmall ⟨Nat.le_of_ble_eq_true rfl, Nat.le_of_ble_eq_true rfl⟩) ⟨nb_blind, va_recv hK hP (ci := 9) (q0 := 4) rfl rfl, (kb_pre hK hG hP hD)⟩ rfl rfl hl.1 rfl (lv_room (Nat.le_of_ble_eq_true rfl)) dX10_divided_29 ⟨Nat.le_refl _, Nat.le_refl _⟩) hA hP hD hS (fun H locs hP hD hS => ?_)
            obtain rfl := Option.some.inj h
            exact W.iret (v := r5.1) hx hb hr (fun t ht hW => ⟨⟨r5.1, (), rfl, rfl, by rw [ht]; exact hP, va_K.moved hW.alike hK, hD⟩, hS.F ht⟩) hS.2.2 dX10_divided_32
      · intro L σ r h H locs ls hP hD hS hl
        rw [y_X10_divided] at h
        refine lv_aload_n hx hb dX10_divided_33 rfl (lv_at hl 0 rfl) ?_
        refine lv_iload_n hx hb dX10_divided_34 rfl (lv_at hl 1 rfl) ?_
        refine lv_aload_n hx hb dX10_divided_35 rfl (lv_at hl 0 rfl) ?_
        refine hg_4_1 hx hb hts in_y_X10_divided_X10 hown hK hP (hts _ (List.mem_cons_of_mem _ (List.mem_append_left _ (List.mem_append_left _ (List.mem_of_getElem? (i := 8) rfl))))) dX10_divided_36 ?_
        obtain ⟨r1, hc1, h⟩ := oc_ex h
        refine kc_i (va_runV (As := [.int (L.1 1), .ref (a 5)]) (rest := []) ⟨hx, hb, hml, hown, hts⟩ (c_y_X10_load__a5 l dC dI cy a z k (lI lZ 1 ((L.1 1))) σ r1 hc1 H.size) (cwV 2 hts g_y_X10_divided_X10_load__a5_V64 rfl rfl rfl hd_y_X10_load__a5 ⟨Nat.le_of_ble_eq_true rfl, Nat.le_of_ble_eq_true rfl⟩) ⟨nb_blind, va_recv hK hP (ci := 9) (q0 := 4) rfl rfl, (kb_pre hK hG hP hD)⟩ rfl rfl hl.1 rfl (lv_room (Nat.le_of_ble_eq_true rfl)) dX10_divided_39 ⟨Nat.le_refl _, Nat.le_refl _⟩) hA hP hD hS (fun H locs hP hD hS => ?_)
        refine lv_istore (lv' := [(4, .int r1.1), (0, .ref (a 4)), (1, .int (L.1 1)), (2, .int (L.1 2)), (3, .int (L.1 3))]) hx hb dX10_divided_42 hl (by decide) rfl (fun ls hl => ?_)
        refine lv_aload_n hx hb dX10_divided_44 rfl (lv_at hl 1 rfl) ?_
        refine lv_iload_n hx hb dX10_divided_45 rfl (lv_at hl 3 rfl) ?_
        refine lv_aload_n hx hb dX10_divided_46 rfl (lv_at hl 1 rfl) ?_
        refine hg_4_2 hx hb hts in_y_X10_divided_X10 hown hK hP (hts _ (List.mem_cons_of_mem _ (List.mem_append_left _ (List.mem_append_left _ (List.mem_of_getElem? (i := 12) rfl))))) dX10_divided_47 ?_
        obtain ⟨r2, hc2, h⟩ := oc_ex h
        refine kc_i (va_runV (As := [.int (L.1 2), .ref (a 6)]) (rest := []) ⟨hx, hb, hml, hown, hts⟩ (c_y_X10_load__a6 l dC dI cy a z k (lI lZ 1 ((L.1 2))) r1.2 r2 hc2 H.size) (cwV 2 hts g_y_X10_divided_X10_load__a6_V64 rfl rfl rfl hd_y_X10_load__a6 ⟨Nat.le_of_ble_eq_true rfl, Nat.le_of_ble_eq_true rfl⟩) ⟨nb_blind, va_recv hK hP (ci := 9) (q0 := 4) rfl rfl, (kb_pre hK hG hP hD)⟩ rfl rfl hl.1 rfl (lv_room (Nat.le_of_ble_eq_true rfl)) dX10_divided_50 ⟨Nat.le_refl _, Nat.le_refl _⟩) hA hP hD hS (fun H locs hP hD hS => ?_)
        refine lv_istore (lv' := [(5, .int r2.1), (4, .int r1.1), (0, .ref (a 4)), (1, .int (L.1 1)), (2, .int (L.1 2)), (3, .int (L.1 3))]) hx hb dX10_divided_53 hl (by decide) rfl (fun ls hl => ?_)
        refine lv_aload_n hx hb dX10_divided_55 rfl (lv_at hl 2 rfl) ?_
        refine lv_iload_n hx hb dX10_divided_56 rfl (lv_at hl 3 rfl) ?_
        obtain ⟨r3, hc3, h⟩ := oc_ex h
        refine kc_i (va_runV (As := [.int (L.1 1)]) (rest := []) ⟨hx, hb, hml, hown, hts⟩ (c_y_X10_isBelow l dC dI cy a z k (lI lZ 1 ((L.1 1))) r2.2 r3 hc3 H.size) (cwV 1 hts g_y_X10_divided_X10_isBelow_V68 rfl rfl rfl hd_y_X10_isBelow ⟨Nat.le_of_ble_eq_true rfl, Nat.le_of_ble_eq_true rfl⟩) ⟨nb_blind, va_recv hK hP (ci := 9) (q0 := 4) rfl rfl, (kb_pre hK hG hP hD)⟩ rfl rfl hl.1 rfl (lv_room (Nat.le_of_ble_eq_true rfl)) dX10_divided_57 ⟨Nat.le_refl _, Nat.le_refl _⟩) hA hP hD hS (fun H locs hP hD hS => ?_)
        refine lv_istore (lv' := [(6, .int r3.1), (5, .int r2.1), (4, .int r1.1), (0, .ref (a 4)), (1, .int (L.1 1)), (2, .int (L.1 2)), (3, .int (L.1 3))]) hx hb dX10_divided_60 hl (by decide) rfl (fun ls hl => ?_)
        refine lv_aload_n hx hb dX10_divided_62 rfl (lv_at hl 3 rfl) ?_
        refine lv_iload hx hb dX10_divided_63 (lv_at hl 2 rfl) ?_
        refine lv_iload hx hb dX10_divided_65 (lv_at hl 1 rfl) ?_
        obtain ⟨r4, hc4, h⟩ := oc_ex h
        refine kc_i (va_runV (As := [.int r1.1, .int r2.1]) (rest := []) ⟨hx, hb, hml, hown, hts⟩ (c_y_X10_divideLimbs l dC dI cy a z k (lI (lI lZ 1 r1.1) 2 r2.1) r3.2 r4 hc4 H.size) (cwV 2 hts g_y_X10_divided_X10_divideLimbs_V127 rfl rfl rfl hd_y_X10_divideLimbs ⟨Nat.le_of_ble_eq_true rfl, Nat.le_of_ble_eq_true rfl⟩) ⟨nb_blind, va_recv hK hP (ci := 9) (q0 := 4) rfl rfl, (kb_pre hK hG hP hD)⟩ rfl rfl hl.1 rfl (lv_room (Nat.le_of_ble_eq_true rfl)) dX10_divided_67 ⟨Nat.le_refl _, Nat.le_refl _⟩) hA hP hD hS (fun H locs hP hD hS => ?_)
        refine lv_istore (lv' := [(7, .int r4.1), (6, .int r3.1), (5, .int r2.1), (4, .int r1.1), (0, .ref (a 4)), (1, .int (L.1 1)), (2, .int (L.1 2)), (3, .int (L.1 3))]) hx hb dX10_divided_70 hl (by decide) rfl (fun ls hl => ?_)
        refine lv_iload hx hb dX10_divided_72 (lv_at hl 0 rfl) ?_
        refine lv_if_ne (tgt := 81) hx hb dX10_divided_74 (by decide) (fun c5 => ?_) (fun c5 => ?_)
        · rw [if_neg c5] at h
          exact ih.2.2.2.1 (lI (lI (lI L 4 r1.1) 5 r2.1) 6 r3.1) r4.2 r h H locs ls hP hD hS (lv_sub hl [4, 6, 7, 3, 2, 1] rfl)
        · rw [if_pos c5] at h
          refine lv_iconst (v := 1) hx hb dX10_divided_77 (by decide) ?_
          refine lv_goto (tgt := 82) hx hb dX10_divided_78 (by decide) ?_
          exact ih.2.2.2.2.1 (lI (lI (lI (lI L 4 r1.1) 5 r2.1) 6 r3.1) 100 1) r4.2 r h H locs ls hP hD hS (lv_sub hl [4, 6, 7, 3, 2, 1] rfl)
      · intro L σ r h H locs ls hP hD hS hl
        rw [y_X10_divided] at h
        refine lv_iconst (v := 0) hx hb dX10_divided_81 (by decide) ?_
        exact ih.2.2.2.2.1 (lI L 100 0) σ r h H locs ls hP hD hS (lv_sub hl [0, 1, 2, 3, 4, 5] rfl)
      · intro L σ r h H locs ls hP hD hS hl
        rw [y_X10_divided] at h
        refine lv_istore (lv' := [(8, .int (L.1 100)), (0, .ref (a 4)), (2, .int (L.1 2)), (3, .int (L.1 3)), (4, .int (L.1 4)), (5, .int (L.1 5)), (6, .int (L.1 6))]) hx hb dX10_divided_82 hl (by decide) rfl (fun ls hl => ?_)
        refine lv_iload_n hx hb dX10_divided_84 rfl (lv_at hl 3 rfl) ?_
        refine lv_if_eq (tgt := 163) hx hb dX10_divided_85 (by decide) (fun c1 => ?_) (fun c1 => ?_)
        · rw [if_pos c1] at h
          exact ih.2.2.2.2.2.1 (lI L 8 ((L.1 100))) σ r h H locs ls hP hD hS (lv_sub hl [1, 2, 4, 6, 0] rfl)
        · rw [if_neg c1] at h
          refine lv_aload_n hx hb dX10_divided_88 rfl (lv_at hl 1 rfl) ?_
          refine lv_iload hx hb dX10_divided_89 (lv_at hl 5 rfl) ?_
          obtain ⟨r2, hc2, h⟩ := oc_ex h
          refine kc_v (va_runV (As := [.int (L.1 5)]) (rest := []) ⟨hx, hb, hml, hown, hts⟩ (c_y_X10_unpackRest l dC dI cy a z k (lI lZ 1 ((L.1 5))) σ r2 hc2 H.size) (cwV 1 hts g_y_X10_divided_X10_unpackRest_V130 rfl rfl rfl hd_y_X10_unpackRest ⟨Nat.le_of_ble_eq_true rfl, Nat.le_of_ble_eq_true rfl⟩) ⟨nb_blind, va_recv hK hP (ci := 9) (q0 := 4) rfl rfl, (kb_pre hK hG hP hD)⟩ rfl rfl hl.1 rfl (lv_room (Nat.le_of_ble_eq_true rfl)) dX10_divided_91 ⟨Nat.le_refl _, Nat.le_refl _⟩) hA hP hD hS (fun H locs hP hD hS => ?_)
          refine lv_iload hx hb dX10_divided_94 (lv_at hl 6 rfl) ?_
          refine lv_if_eq (tgt := 104) hx hb dX10_divided_96 (by decide) (fun c3 => ?_) (fun c3 => ?_)
          · rw [if_pos c3] at h
            exact ih.2.2.2.2.2.2.1 L r2.2 r h H locs ls hP hD hS (lv_sub hl [1, 5] rfl)
          · rw [if_neg c3] at h
            refine lv_iload hx hb dX10_divided_99 (lv_at hl 0 rfl) ?_
            refine lv_if_eq (tgt := 112) hx hb dX10_divided_101 (by decide) (fun c4 => ?_) (fun c4 => ?_)
            · rw [if_pos c4] at h
              exact ih.2.2.2.2.2.2.2.1 L r2.2 r h H locs ls hP hD hS (lv_sub hl [1, 2, 5] rfl)
            · rw [if_neg c4] at h
              exact ih.2.2.2.2.2.2.1 L r2.2 r h H locs ls hP hD hS (lv_sub hl [1, 5] rfl)
      · intro L σ r h H locs ls hP hD hS hl
        rw [y_X10_divided] at h
        refine lv_aload_n hx hb dX10_divided_163 rfl (lv_at hl 0 rfl) ?_
        refine lv_iload hx hb dX10_divided_164 (lv_at hl 2 rfl) ?_
        obtain ⟨r1, hc1, h⟩ := oc_ex h
        refine kc_i (va_runV (As := [.int (L.1 4)]) (rest := []) ⟨hx, hb, hml, hown, hts⟩ (c_y_X10_unpackQuotient l dC dI cy a z k (lI lZ 1 ((L.1 4))) σ r1 hc1 H.size) (cwV 1 hts g_y_X10_divided_X10_unpackQuotient_V137 rfl rfl rfl hd_y_X10_unpackQuotient ⟨Nat.le_of_ble_eq_true rfl, Nat.le_of_ble_eq_true rfl⟩) ⟨nb_blind, va_recv hK hP (ci := 9) (q0 := 4) rfl rfl, (kb_pre hK hG hP hD)⟩ rfl rfl hl.1 rfl (lv_room (Nat.le_of_ble_eq_true rfl)) dX10_divided_166 ⟨Nat.le_refl _, Nat.le_refl _⟩) hA hP hD hS (fun H locs hP hD hS => ?_)
        refine lv_istore (lv' := [(9, .int r1.1), (0, .ref (a 4)), (2, .int (L.1 2)), (4, .int (L.1 4)), (6, .int (L.1 6)), (8, .int (L.1 8))]) hx hb dX10_divided_169 hl (by decide) rfl (fun ls hl => ?_)
        refine lv_iload hx hb dX10_divided_171 (lv_at hl 4 rfl) ?_
        refine lv_if_eq (tgt := 189) hx hb dX10_divided_173 (by decide) (fun c2 => ?_) (fun c2 => ?_)
        · rw [if_pos c2] at h
          exact ih.2.2.2.2.2.2.2.2.1 (lI L 9 r1.1) r1.2 r h H locs ls hP hD hS (lv_sub hl [1, 2, 4, 0] rfl)
        · rw [if_neg c2] at h
          refine lv_iload hx hb dX10_divided_176 (lv_at hl 5 rfl) ?_
          refine lv_if_ne (tgt := 189) hx hb dX10_divided_178 (by decide) (fun c3 => ?_) (fun c3 => ?_)
          · rw [if_neg c3] at h
            exact ih.2.2.2.2.2.2.2.2.1 (lI L 9 r1.1) r1.2 r h H locs ls hP hD hS (lv_sub hl [1, 2, 4, 0] rfl)
          · rw [if_pos c3] at h
            refine lv_aload_n hx hb dX10_divided_181 rfl (lv_at hl 1 rfl) ?_
            refine lv_iload hx hb dX10_divided_182 (lv_at hl 0 rfl) ?_
            obtain ⟨r4, hc4, h⟩ := oc_ex h
            refine kc_i (va_runV (As := [.int r1.1]) (rest := []) ⟨hx, hb, hml, hown, hts⟩ (c_y_X10_addOne l dC dI cy a z k (lI lZ 1 r1.1) r1.2 r4 hc4 H.size) (cwV 1 hts g_y_X10_divided_X10_addOne_V140 rfl rfl rfl hd_y_X10_addOne ⟨Nat.le_of_ble_eq_true rfl, Nat.le_of_ble_eq_true rfl⟩) ⟨nb_blind, va_recv hK hP (ci := 9) (q0 := 4) rfl rfl, (kb_pre hK hG hP hD)⟩ rfl rfl hl.1 rfl (lv_room (Nat.le_of_ble_eq_true rfl)) dX10_divided_184 ⟨Nat.le_refl _, Nat.le_refl _⟩) hA hP hD hS (fun H locs hP hD hS => ?_)
            refine lv_istore (lv' := [(9, .int r4.1), (0, .ref (a 4)), (2, .int (L.1 2)), (4, .int (L.1 4)), (6, .int (L.1 6)), (8, .int (L.1 8))]) hx hb dX10_divided_187 hl (by decide) rfl (fun ls hl => ?_)
            exact ih.2.2.2.2.2.2.2.2.1 (lI L 9 r4.1) r4.2 r h H locs ls hP hD hS (lv_sub hl [1, 2, 4, 0] rfl)
      · intro L σ r h H locs ls hP hD hS hl
        rw [y_X10_divided] at h
        refine lv_aload_n hx hb dX10_divided_104 rfl (lv_at hl 0 rfl) ?_
        refine lv_iload hx hb dX10_divided_105 (lv_at hl 1 rfl) ?_
        refine lv_iconst (v := 0) hx hb dX10_divided_107 (by decide) ?_
        obtain ⟨r1, hc1, h⟩ := oc_ex h
        refine kc_i (va_runV (As := [.int (L.1 5), .int 0]) (rest := []) ⟨hx, hb, hml, hown, hts⟩ (c_y_X10_made l dC dI cy a z k (lI (lI lZ 1 ((L.1 5))) 2 0) σ r1 hc1 H.size) (cwV 2 hts g_y_X10_divided_X10_made_V72 rfl rfl rfl hd_y_X10_made ⟨Nat.le_of_ble_eq_true rfl, Nat.le_of_ble_eq_true rfl⟩) ⟨nb_blind, va_recv hK hP (ci := 9) (q0 := 4) rfl rfl, (kb_pre hK hG hP hD)⟩ rfl rfl hl.1 rfl (lv_room (Nat.le_of_ble_eq_true rfl)) dX10_divided_108 ⟨Nat.le_refl _, Nat.le_refl _⟩) hA hP hD hS (fun H locs hP hD hS => ?_)
        obtain rfl := Option.some.inj h
        exact W.iret (v := r1.1) hx hb hr (fun t ht hW => ⟨⟨r1.1, (), rfl, rfl, by rw [ht]; exact hP, va_K.moved hW.alike hK, hD⟩, hS.F ht⟩) hS.2.2 dX10_divided_111
      · intro L σ r h H locs ls hP hD hS hl
        rw [y_X10_divided] at h
        refine lv_aload_n hx hb dX10_divided_112 rfl (lv_at hl 0 rfl) ?_
        refine hg_4_3 hx hb hts in_y_X10_divided_X10 hown hK hP (hts _ (List.mem_cons_of_mem _ (List.mem_append_left _ (List.mem_append_left _ (List.mem_of_getElem? (i := 31) rfl))))) dX10_divided_113 ?_
        refine lv_iconst (v := 0) hx hb dX10_divided_116 (by decide) ?_
        refine lv_aload_n hx hb dX10_divided_117 rfl (lv_at hl 0 rfl) ?_
        refine hg_4_1 hx hb hts in_y_X10_divided_X10 hown hK hP (hts _ (List.mem_cons_of_mem _ (List.mem_append_left _ (List.mem_append_left _ (List.mem_of_getElem? (i := 8) rfl))))) dX10_divided_118 ?_
        refine lv_iconst (v := 0) hx hb dX10_divided_121 (by decide) ?_
        refine lv_iload hx hb dX10_divided_122 (lv_at hl 2 rfl) ?_
        obtain ⟨q1, h⟩ := kb_ite1 h
        refine va_copyi (ty := .int) hx hb (hml.trans hl.1.symm) hown (hts _ (List.mem_cons_of_mem _ (List.mem_append_left _ (List.mem_append_left _ (List.mem_of_getElem? (i := 38) rfl))))) (hts _ (List.mem_cons_of_mem _ (List.mem_append_left _ (List.mem_append_left _ (List.mem_of_getElem? (i := 39) rfl))))) (hts _ (List.mem_cons_of_mem _ (List.mem_append_left _ (List.mem_append_left _ (List.mem_of_getElem? (i := 40) rfl))))) (hts _ (List.mem_cons_of_mem _ (List.mem_append_left _ (List.mem_append_left _ (List.mem_of_getElem? (i := 41) rfl))))) hK hP hD hS 7 5 1 1 rfl rfl rfl rfl rfl q1.1 q1.2.1 q1.2.2.1 q1.2.2.2.1 q1.2.2.2.2 (fun _ _ => rfl) (Nat.le_of_ble_eq_true rfl) (Nat.le_of_ble_eq_true rfl) dX10_divided_124 (fun H locs hP hD hS => ?_)
        have hP : va_P (dC, dI) nCl (vC cy a z (uF σ 5 (va_cpy (σ.2.2.1 7) (σ.2.2.1 5) (0 : Int32).toNatClampNeg (0 : Int32).toNatClampNeg ((L.1 5)).toNatClampNeg))) H := hP
        have hD : va_D A (vC cy a z (uF σ 5 (va_cpy (σ.2.2.1 7) (σ.2.2.1 5) (0 : Int32).toNatClampNeg (0 : Int32).toNatClampNeg ((L.1 5)).toNatClampNeg))) := hD
        refine lv_aload_n hx hb dX10_divided_127 rfl (lv_at hl 0 rfl) ?_
        refine lv_iload_n hx hb dX10_divided_128 rfl (lv_at hl 1 rfl) ?_
        refine lv_aload_n hx hb dX10_divided_129 rfl (lv_at hl 0 rfl) ?_
        refine hg_4_2 hx hb hts in_y_X10_divided_X10 hown hK hP (hts _ (List.mem_cons_of_mem _ (List.mem_append_left _ (List.mem_append_left _ (List.mem_of_getElem? (i := 12) rfl))))) dX10_divided_130 ?_
        obtain ⟨r2, hc2, h⟩ := oc_ex h
        refine kc_i (va_runV (As := [.int (L.1 2), .ref (a 6)]) (rest := []) ⟨hx, hb, hml, hown, hts⟩ (c_y_X10_load__a6 l dC dI cy a z k (lI lZ 1 ((L.1 2))) (uF σ 5 (va_cpy (σ.2.2.1 7) (σ.2.2.1 5) (0 : Int32).toNatClampNeg (0 : Int32).toNatClampNeg ((L.1 5)).toNatClampNeg)) r2 hc2 H.size) (cwV 2 hts g_y_X10_divided_X10_load__a6_V64 rfl rfl rfl hd_y_X10_load__a6 ⟨Nat.le_of_ble_eq_true rfl, Nat.le_of_ble_eq_true rfl⟩) ⟨nb_blind, va_recv hK hP (ci := 9) (q0 := 4) rfl rfl, (kb_pre hK hG hP hD)⟩ rfl rfl hl.1 rfl (lv_room (Nat.le_of_ble_eq_true rfl)) dX10_divided_133 ⟨Nat.le_refl _, Nat.le_refl _⟩) hA hP hD hS (fun H locs hP hD hS => ?_)
        refine lv_pop hx hb dX10_divided_136 rfl ?_
        refine lv_aload_n hx hb dX10_divided_137 rfl (lv_at hl 0 rfl) ?_
        refine lv_aload_n hx hb dX10_divided_138 rfl (lv_at hl 0 rfl) ?_
        refine lv_aload_n hx hb dX10_divided_139 rfl (lv_at hl 0 rfl) ?_
        refine hg_4_2 hx hb hts in_y_X10_divided_X10 hown hK hP (hts _ (List.mem_cons_of_mem _ (List.mem_append_left _ (List.mem_append_left _ (List.mem_of_getElem? (i := 12) rfl))))) dX10_divided_140 ?_
        refine lv_iload hx hb dX10_divided_143 (lv_at hl 2 rfl) ?_
        refine lv_aload_n hx hb dX10_divided_145 rfl (lv_at hl 0 rfl) ?_
        refine hg_4_1 hx hb hts in_y_X10_divided_X10 hown hK hP (hts _ (List.mem_cons_of_mem _ (List.mem_append_left _ (List.mem_append_left _ (List.mem_of_getElem? (i := 8) rfl))))) dX10_divided_146 ?_
        refine lv_aload_n hx hb dX10_divided_149 rfl (lv_at hl 0 rfl) ?_
        refine lv_iload hx hb dX10_divided_150 (lv_at hl 2 rfl) ?_
        obtain ⟨r3, hc3, h⟩ := oc_ex h
        refine kc_i (va_runV (As := [.int (L.1 5)]) (rest := [.ref (a 5), .int (L.1 5), .ref (a 6), .ref (a 4), .ref (a 4)]) ⟨hx, hb, hml, hown, hts⟩ (c_y_X10_restLimbs l dC dI cy a z k (lI lZ 1 ((L.1 5))) r2.2 r3 hc3 H.size) (cwV 1 hts g_y_X10_divided_X10_restLimbs_V134 rfl rfl rfl hd_y_X10_restLimbs ⟨Nat.le_of_ble_eq_true rfl, Nat.le_of_ble_eq_true rfl⟩) ⟨nb_blind, va_recv hK hP (ci := 9) (q0 := 4) rfl rfl, (kb_pre hK hG hP hD)⟩ rfl rfl hl.1 rfl (lv_room (Nat.le_of_ble_eq_true rfl)) dX10_divided_152 ⟨Nat.le_refl _, Nat.le_refl _⟩) hA hP hD hS (fun H locs hP hD hS => ?_)
        obtain ⟨r4, hc4, h⟩ := oc_ex h
        refine kc_i (va_runV (As := [.ref (a 6), .int (L.1 5), .ref (a 5), .int r3.1]) (rest := [.ref (a 4)]) ⟨hx, hb, hml, hown, hts⟩ (c_y_X10_takeLimbs__a6__a5 l dC dI cy a z k (lI (lI lZ 2 ((L.1 5))) 4 r3.1) r3.2 r4 hc4 H.size) (cwV 4 hts g_y_X10_divided_X10_takeLimbs__a6__a5_V90 rfl rfl rfl hd_y_X10_takeLimbs__a6__a5 ⟨Nat.le_of_ble_eq_true rfl, Nat.le_of_ble_eq_true rfl⟩) ⟨nb_blind, va_recv hK hP (ci := 9) (q0 := 4) rfl rfl, (kb_pre hK hG hP hD)⟩ rfl rfl hl.1 rfl (lv_room (Nat.le_of_ble_eq_true rfl)) dX10_divided_155 ⟨Nat.le_refl _, Nat.le_refl _⟩) hA hP hD hS (fun H locs hP hD hS => ?_)
        refine lv_iconst (v := 0) hx hb dX10_divided_158 (by decide) ?_
        obtain ⟨r5, hc5, h⟩ := oc_ex h
        refine kc_i (va_runV (As := [.int r4.1, .int 0]) (rest := []) ⟨hx, hb, hml, hown, hts⟩ (c_y_X10_made l dC dI cy a z k (lI (lI lZ 1 r4.1) 2 0) r4.2 r5 hc5 H.size) (cwV 2 hts g_y_X10_divided_X10_made_V72 rfl rfl rfl hd_y_X10_made ⟨Nat.le_of_ble_eq_true rfl, Nat.le_of_ble_eq_true rfl⟩) ⟨nb_blind, va_recv hK hP (ci := 9) (q0 := 4) rfl rfl, (kb_pre hK hG hP hD)⟩ rfl rfl hl.1 rfl (lv_room (Nat.le_of_ble_eq_true rfl)) dX10_divided_159 ⟨Nat.le_refl _, Nat.le_refl _⟩) hA hP hD hS (fun H locs hP hD hS => ?_)
        obtain rfl := Option.some.inj h
        exact W.iret (v := r5.1) hx hb hr (fun t ht hW => ⟨⟨r5.1, (), rfl, rfl, by rw [ht]; exact hP, va_K.moved hW.alike hK, hD⟩, hS.F ht⟩) hS.2.2 dX10_divided_162
      · intro L σ r h H locs ls hP hD hS hl
        rw [y_X10_divided] at h
        refine lv_aload_n hx hb dX10_divided_189 rfl (lv_at hl 0 rfl) ?_
        refine lv_iload hx hb dX10_divided_190 (lv_at hl 3 rfl) ?_
        refine lv_iload hx hb dX10_divided_192 (lv_at hl 2 rfl) ?_
        refine lv_aload_n hx hb dX10_divided_194 rfl (lv_at hl 0 rfl) ?_
        refine lv_iload_n hx hb dX10_divided_195 rfl (lv_at hl 1 rfl) ?_
        obtain ⟨r1, hc1, h⟩ := oc_ex h
        refine kc_i (va_runV (As := [.int (L.1 2)]) (rest := [.int (L.1 6), .int (L.1 9), .ref (a 4)]) ⟨hx, hb, hml, hown, hts⟩ (c_y_X10_isBelow l dC dI cy a z k (lI lZ 1 ((L.1 2))) σ r1 hc1 H.size) (cwV 1 hts g_y_X10_divided_X10_isBelow_V68 rfl rfl rfl hd_y_X10_isBelow ⟨Nat.le_of_ble_eq_true rfl, Nat.le_of_ble_eq_true rfl⟩) ⟨nb_blind, va_recv hK hP (ci := 9) (q0 := 4) rfl rfl, (kb_pre hK hG hP hD)⟩ rfl rfl hl.1 rfl (lv_room (Nat.le_of_ble_eq_true rfl)) dX10_divided_196 ⟨Nat.le_refl _, Nat.le_refl _⟩) hA hP hD hS (fun H locs hP hD hS => ?_)
        refine lv_icmp_eq (tgt := 206) hx hb dX10_divided_199 (by decide) (fun c2 => ?_) (fun c2 => ?_)
        · rw [if_pos c2] at h
          exact ih.2.2.2.2.2.2.2.2.2.1 (lI L 100 ((L.1 9))) r1.2 r h H locs ls hP hD hS (lv_sub hl [] rfl)
        · rw [if_neg c2] at h
          refine lv_iconst (v := 1) hx hb dX10_divided_202 (by decide) ?_
          refine lv_goto (tgt := 207) hx hb dX10_divided_203 (by decide) ?_
          exact ih.2.2.2.2.2.2.2.2.2.2 (lI (lI L 100 1) 101 ((L.1 9))) r1.2 r h H locs ls hP hD hS (lv_sub hl [] rfl)
      · intro L σ r h H locs ls hP hD hS hl
        rw [y_X10_divided] at h
        refine lv_iconst (v := 0) hx hb dX10_divided_206 (by decide) ?_
        exact ih.2.2.2.2.2.2.2.2.2.2 (lI (lI L 100 0) 101 ((L.1 100))) σ r h H locs ls hP hD hS (lv_sub hl [] rfl)
      · intro L σ r h H locs ls hP hD hS hl
        rw [y_X10_divided] at h
        obtain ⟨r1, hc1, h⟩ := oc_ex h
        refine kc_i (va_runV (As := [.int (L.1 101), .int (L.1 100)]) (rest := []) ⟨hx, hb, hml, hown, hts⟩ (c_y_X10_made l dC dI cy a z k (lI (lI lZ 1 ((L.1 101))) 2 ((L.1 100))) σ r1 hc1 H.size) (cwV 2 hts g_y_X10_divided_X10_made_V72 rfl rfl rfl hd_y_X10_made ⟨Nat.le_of_ble_eq_true rfl, Nat.le_of_ble_eq_true rfl⟩) ⟨nb_blind, va_recv hK hP (ci := 9) (q0 := 4) rfl rfl, (kb_pre hK hG hP hD)⟩ rfl rfl hl.1 rfl (lv_room (Nat.le_of_ble_eq_true rfl)) dX10_divided_207 ⟨Nat.le_refl _, Nat.le_refl _⟩) hA hP hD hS (fun H locs hP hD hS => ?_)
        obtain rfl := Option.some.inj h
        exact W.iret (v := r1.1) hx hb hr (fun t ht hW => ⟨⟨r1.1, (), rfl, rfl, by rw [ht]; exact hP, va_K.moved hW.alike hK, hD⟩, hS.F ht⟩) hS.2.2 dX10_divided_210
  exact (blk k0).1 L0 σ0 r0 h0 s.heap [] ls hP hD hS hl
/-! X11_isError -/
def y_X11_isError : Nat → Nat → LV → CS → Option (Int32 × CS)
  | 0, _, _, _ => none
  | k + 1, 0, L, σ => if ((((L.1 0)) &&& ((-268435456)))) = ((-268435456)) then (y_X11_isError k 2 (lI L 100 1) σ) else (y_X11_isError k 1 L σ)
  | k + 1, 1, L, σ => y_X11_isError k 2 (lI L 100 0) σ
  | k + 1, 2, L, σ => if ((L.1 100)) = 0 ∨ ((L.1 100)) = 1 then some ((L.1 100), σ) else none
  | _ + 1, _ + 3, _, _ => none
def o_y_X11_isError : List Cond := [.constant RX11 3 (-268435456)]
theorem o_y_X11_isError_good : o_y_X11_isError.all goodWord = true := by decide +kernel
def p_y_X11_isError : List Cond := o_y_X11_isError ++ []
theorem p_y_X11_isError_good : p_y_X11_isError.all goodWord = true := nb_all2 o_y_X11_isError_good rfl
def w_y_X11_isError : List Cond := .code yX11_isError cX11_isError 1 (some .boolean) :: (p_y_X11_isError ++ fC)
theorem w_y_X11_isError_good : w_y_X11_isError.all goodWord = true := nb_allc (by decide +kernel) (nb_all2 p_y_X11_isError_good fC_good)
theorem hd_y_X11_isError : yX11_isError.cls ≠ "java/lang/invoke/MethodHandle" ∧ yX11_isError.cls ≠ "java/lang/invoke/VarHandle" ∧ (parseMethodDescriptor yX11_isError.desc).map (fun d => d.parameters.length) = some 1 := by decide +kernel
set_option maxHeartbeats 40000000 in
set_option maxRecDepth 100000 in
theorem c_y_X11_isError (l : Launch) (dC : Nat → ClassId) (dI : Nat → Nat → Nat) (cy : Nat → ClassId) (a z : Nat → Nat) (k0 : Nat) (L0 : LV) (σ0 : CS) (r0 : Int32 × CS) (h0 : y_X11_isError k0 0 L0 σ0 = some r0) (sz : Nat) : Met l yX11_isError w_y_X11_isError ({ frames := 0, cells := 0, slots := 0, locals := 0 }) (va_Pc [.int (L0.1 0)] (nIn (dC, dI) cy sz (vC cy a z σ0))) (va_Qi (fun (x : Int32) (_ : Unit) => x = r0.1) (fun _ t => nOut (dC, dI) cy (va_A (vC cy a z σ0) sz) (vC cy a z r0.2) t) (va_A (vC cy a z σ0) sz)) 0 0 (va_A (vC cy a z σ0) sz) := by
  refine Met.ofW (cc := cX11_isError) (maxL := 1) (ret := (some .boolean)) (by decide) rfl ?_
  intro p e s m args below meth c s₁ B hml hv
  obtain ⟨rfl, hsz, hP, hK, hD0, hG⟩ := hv
  have hx := B.exec
  have hb := B.bytes
  have hr := B.returns
  have hts := atoms_spec (ws := w_y_X11_isError) B.pre
  have hown : s.vm.findClass RX11 = some m.cls := findClass_of_methodNamed B.named
  have hlocks := B.notSynchronized
  subst hsz
  have hD := hD0.self (sz := s.heap.size)
  generalize hAe : va_A (vC cy a z σ0) s.heap.size = A at hD ⊢
  have hA : ∀ q : Nat, s.heap.size ≤ q → A q := fun q h => by rw [← hAe]; exact Or.inr h
  have hS : va_S A s.heap s.heap [] := va_S.rf
  have hl := lv_entry ([.int (L0.1 0)]) (n := 1) (Nat.le_of_ble_eq_true rfl)
  rw [lg_entry_eq]
  generalize (lg_sl ([.int (L0.1 0)]) ++ List.replicate (1 - (lg_sl ([.int (L0.1 0)])).length) Slot.unset).toArray = ls at hl ⊢
  have hl : lv_has ls 1 [(0, .int (L0.1 0))] := hl
  have blk : ∀ k : Nat, (bC p l e (headSpec w_y_X11_isError ({ frames := 0, cells := 0, slots := 0, locals := 0 })).room s m #[.int (L0.1 0)] below meth c dC dI cy a z A (kI dC dI cy a z A below #[.int (L0.1 0)] s) 1 (y_X11_isError k 0) (fun L => [(0, .int (L.1 0))]) 0 (fun L => [])) ∧ (bC p l e (headSpec w_y_X11_isError ({ frames := 0, cells := 0, slots := 0, locals := 0 })).room s m #[.int (L0.1 0)] below meth c dC dI cy a z A (kI dC dI cy a z A below #[.int (L0.1 0)] s) 1 (y_X11_isError k 1) (fun L => []) 13 (fun L => [])) ∧ (bC p l e (headSpec w_y_X11_isError ({ frames := 0, cells := 0, slots := 0, locals := 0 })).room s m #[.int (L0.1 0)] below meth c dC dI cy a z A (kI dC dI cy a z A below #[.int (L0.1 0)] s) 1 (y_X11_isError k 2) (fun L => []) 14 (fun L => [.int (L.1 100)])) := by
    intro k
    induction k with
    | zero => exact ⟨fun L σ r h => (by cases h), fun L σ r h => (by cases h), fun L σ r h => (by cases h)⟩
    | succ k ih =>
      refine ⟨?_, ?_, ?_⟩
      · intro L σ r h H locs ls hP hD hS hl
        rw [y_X11_isError] at h
        refine lv_iload_n hx hb dX11_isError_0 rfl (lv_at hl 0 rfl) ?_
        refine lv_ldc (v := (-268435456)) hx hb hown (hts _ (List.mem_cons_of_mem _ (List.mem_append_left _ (List.mem_append_left _ (List.mem_of_getElem? (i := 0) rfl))))) dX11_isError_1 ?_
        refine lv_iand hx hb dX11_isError_3 ?_
        refine lv_ldc (v := (-268435456)) hx hb hown (hts _ (List.mem_cons_of_mem _ (List.mem_append_left _ (List.mem_append_left _ (List.mem_of_getElem? (i := 0) rfl))))) dX11_isError_4 ?_
        refine lv_icmp_ne (tgt := 13) hx hb dX11_isError_6 (by decide) (fun c1 => ?_) (fun c1 => ?_)
        · rw [if_neg c1] at h
          exact ih.2.1 L σ r h H locs ls hP hD hS (lv_sub hl [] rfl)
        · rw [if_pos c1] at h
          refine lv_iconst (v := 1) hx hb dX11_isError_9 (by decide) ?_
          refine lv_goto (tgt := 14) hx hb dX11_isError_10 (by decide) ?_
          exact ih.2.2 (lI L 100 1) σ r h H locs ls hP hD hS (lv_sub hl [] rfl)
      · intro L σ r h H locs ls hP hD hS hl
        rw [y_X11_isError] at h
        refine lv_iconst (v := 0) hx hb dX11_isError_13 (by decide) ?_
        exact ih.2.2 (lI L 100 0) σ r h H locs ls hP hD hS (lv_sub hl [] rfl)
      · intro L σ r h H locs ls hP hD hS hl
        rw [y_X11_isError] at h
        obtain ⟨q1, h⟩ := kb_ite1 h
        obtain rfl := Option.some.inj h
        exact W.zret (v := (L.1 100)) hx hb hr (nb_bz q1) (fun t ht hW => ⟨⟨(L.1 100), (), rfl, rfl, by rw [ht]; exact hP, va_K.moved hW.alike hK, hD⟩, hS.F ht⟩) hS.2.2 dX11_isError_14
  exact (blk k0).1 L0 σ0 r0 h0 s.heap [] ls hP hD hS hl
/-! X10_power -/
def y_X10_power : Nat → Nat → LV → CS → Option (Int32 × CS)
  | 0, _, _, _ => none
  | k + 1, 0, L, σ => oc (y_X10_isBelow k 0 (lI lZ 1 ((L.1 2))) σ) (fun r1 => if r1.1 = 0 then (y_X10_power k 1 L r1.2) else (some ((-268435452), r1.2)))
  | k + 1, 1, L, σ => if ((L.1 2)) = ((-1610612736)) then (y_X10_power k 2 L σ) else (if ((L.1 1)) = ((-1610612735)) then (y_X10_power k 2 L σ) else (y_X10_power k 3 L σ))
  | k + 1, 2, L, σ => some ((-1610612735), σ)
  | k + 1, 3, L, σ => if ((L.1 1)) = ((-1610612736)) then (some ((L.1 1), σ)) else (y_X10_power k 4 L σ)
  | k + 1, 4, L, σ => oc (y_X10_small k 0 (lI lZ 0 ((-1))) σ) (fun r1 => if ((L.1 1)) = r1.1 then (if 0 ≤ ((L.1 2)) then (y_X10_power k 6 L r1.2) else (y_X10_power k 7 (lI L 100 ((L.1 2))) r1.2)) else (y_X10_power k 5 (lI L 3 1024) r1.2))
  | k + 1, 5, L, σ => oc (y_X10_clamped k 0 (lI lZ 1 ((L.1 2))) σ) (fun r1 => if r1.1 ≤ ((L.1 3)) then (y_X10_power k 8 L r1.2) else (some ((-268435451), r1.2)))
  | k + 1, 6, L, σ => if ¬ (((((L.1 2)) + 1)) < 0 ∨ (sN σ 3) ≤ ((((L.1 2)) + 1)).toNatClampNeg) then (y_X10_power k 7 (lI L 100 ((σ.2.2.1 3 ((((L.1 2)) + 1)).toNatClampNeg))) σ) else none
  | k + 1, 7, L, σ => if ((((L.1 100)) &&& 1)) = 0 then (y_X10_power k 10 (lI L 100 ((-1610612735))) σ) else (y_X10_power k 9 L σ)
  | k + 1, 8, L, σ => oc (y_X10_number k 0 (lI lZ 0 ((L.1 2))) σ) (fun r1 => y_X10_power k 11 (lI (lI (lI L 4 r1.1) 5 ((-1610612735))) 6 11) r1.2)
  | k + 1, 9, L, σ => y_X10_power k 10 (lI L 100 ((L.1 1))) σ
  | k + 1, 10, L, σ => some ((L.1 100), σ)
  | k + 1, 11, L, σ => if ((L.1 6)) < 0 then (y_X10_power k 12 L σ) else (oc (y_X11_isError k 0 (lI lZ 0 ((L.1 5))) σ) (fun r2 => if r2.1 = 0 then (oc (y_X10_product k 0 (lI (lI lZ 1 ((L.1 5))) 2 ((L.1 5))) r2.2) (fun r4 => oc (y_X11_isError k 0 (lI lZ 0 r4.1) r4.2) (fun r5 => if r5.1 = 0 then (if ((((((L.1 4)) >>> (((L.1 6)) &&& 31))) &&& 1)) = 1 then (oc (y_X10_product k 0 (lI (lI lZ 1 r4.1) 2 ((L.1 1))) r5.2) (fun r8 => y_X10_power k 13 (lI L 5 r8.1) r8.2)) else (y_X10_power k 13 (lI L 5 r4.1) r5.2)) else (y_X10_power k 13 (lI L 5 r4.1) r5.2)))) else (y_X10_power k 12 L r2.2)))
  | k + 1, 12, L, σ => some ((L.1 5), σ)
  | k + 1, 13, L, σ => y_X10_power k 11 (lI L 6 ((((L.1 6)) + (-1)))) σ
  | _ + 1, _ + 14, _, _ => none
def o_y_X10_power : List Cond := [.methodLink RX10 68 yX10_isBelow, .instanceMethod yX10_isBelow, .selects RX10 yX10_isBelow yX10_isBelow, .initialized RX10, .constant RX10 108 (-268435452), .constant RX10 37 (-1610612736), .constant RX10 109 (-1610612735), .methodLink RX10 43 yX10_small, .static yX10_small, .methodLink RX10 110 yX10_clamped, .instanceMethod yX10_clamped, .selects RX10 yX10_clamped yX10_clamped, .constant RX10 107 (-268435451), .fieldLink RX10 33 "SetHouse$Wholes" "heap" "LSetHouse$Heap;", .methodLink RX10 113 yX10_number, .static yX10_number, .initialized RX11, .static yX11_isError, .methodLink RX10 119 yX10_product, .instanceMethod yX10_product, .selects RX10 yX10_product yX10_product]
theorem o_y_X10_power_good : o_y_X10_power.all goodWord = true := by decide +kernel
def p_y_X10_power : List Cond := o_y_X10_power ++ ((.code yX10_isBelow cX10_isBelow 2 (some .boolean) :: p_y_X10_isBelow) ++ ((.code yX10_small cX10_small 1 (some .int) :: p_y_X10_small) ++ ((.code yX10_clamped cX10_clamped 2 (some .int) :: p_y_X10_clamped) ++ ((.code yX10_number cX10_number 1 (some .int) :: p_y_X10_number) ++ ((.code yX11_isError cX11_isError 1 (some .boolean) :: p_y_X11_isError) ++ ((.code yX10_product cX10_product 11 (some .int) :: p_y_X10_product) ++ []))))))
theorem p_y_X10_power_good : p_y_X10_power.all goodWord = true := nb_all2 o_y_X10_power_good (nb_all2 (nb_allc (by decide +kernel) p_y_X10_isBelow_good) (nb_all2 (nb_allc (by decide +kernel) p_y_X10_small_good) (nb_all2 (nb_allc (by decide +kernel) p_y_X10_clamped_good) (nb_all2 (nb_allc (by decide +kernel) p_y_X10_number_good) (nb_all2 (nb_allc (by decide +kernel) p_y_X11_isError_good) (nb_all2 (nb_allc (by decide +kernel) p_y_X10_product_good) rfl))))))
def w_y_X10_power : List Cond := .code yX10_power cX10_power 7 (some .int) :: (p_y_X10_power ++ fC)
theorem w_y_X10_power_good : w_y_X10_power.all goodWord = true := nb_allc (by decide +kernel) (nb_all2 p_y_X10_power_good fC_good)
theorem in_y_X10_power_X1 : ∀ w ∈ wsX10, w ∈ w_y_X10_power := fun _ h => List.mem_cons_of_mem _ (List.mem_append_right _ (List.mem_append_right _ (List.mem_append_left _ h)))
theorem in_y_X10_power_X10 : ∀ w ∈ wsX100, w ∈ w_y_X10_power := fun _ h => List.mem_cons_of_mem _ (List.mem_append_right _ (List.mem_append_right _ (List.mem_append_right _ (List.mem_append_right _ (List.mem_append_right _ (List.mem_append_right _ (List.mem_append_right _ (List.mem_append_right _ (List.mem_append_right _ (List.mem_append_right _ (List.mem_append_left _ h)))))))))))
theorem hd_y_X10_power : yX10_power.cls = RX10 ∧ yX10_power.cls ≠ "java/lang/invoke/MethodHandle" ∧ yX10_power.cls ≠ "java/lang/invoke/VarHandle" ∧ (parseMethodDescriptor yX10_power.desc).map (fun d => d.parameters.length) = some 2 := by decide +kernel
theorem gg_y_X10_power_X10_clamped : GoodIn w_y_X10_power w_y_X10_clamped := goodIn_sub (fun w h => (List.mem_cons.mp h).elim (fun e => (List.mem_cons_of_mem _ (List.mem_append_left _ (List.mem_append_right _ (List.mem_append_right _ (List.mem_append_right _ (List.mem_append_left _ (List.mem_cons.mpr (Or.inl e))))))))) (fun h => (List.mem_append.mp h).elim (fun h => (List.mem_cons_of_mem _ (List.mem_append_left _ (List.mem_append_right _ (List.mem_append_right _ (List.mem_append_right _ (List.mem_append_left _ (List.mem_cons_of_mem _ h)))))))) (fun h => List.mem_cons_of_mem _ (List.mem_append_right _ h)))) w_y_X10_clamped_good
theorem g_y_X10_power_X10_clamped_V110 : GoodIn w_y_X10_power (wsV RX10 110 RX10 yX10_clamped w_y_X10_clamped) := goodIn_app (nb_g4 (List.mem_cons_of_mem _ (List.mem_append_left _ (List.mem_append_left _ (List.mem_of_getElem? (i := 9) rfl)))) (List.mem_cons_of_mem _ (List.mem_append_left _ (List.mem_append_left _ (List.mem_of_getElem? (i := 10) rfl)))) (List.mem_cons_of_mem _ (List.mem_append_left _ (List.mem_append_left _ (List.mem_of_getElem? (i := 11) rfl)))) (List.mem_cons_of_mem _ (List.mem_append_left _ (List.mem_append_left _ (List.mem_of_getElem? (i := 3) rfl)))) (by decide +kernel)) gg_y_X10_power_X10_clamped
theorem gg_y_X10_power_X10_isBelow : GoodIn w_y_X10_power w_y_X10_isBelow := goodIn_sub (fun w h => (List.mem_cons.mp h).elim (fun e => (List.mem_cons_of_mem _ (List.mem_append_left _ (List.mem_append_right _ (List.mem_append_left _ (List.mem_cons.mpr (Or.inl e))))))) (fun h => (List.mem_append.mp h).elim (fun h => (List.mem_cons_of_mem _ (List.mem_append_left _ (List.mem_append_right _ (List.mem_append_left _ (List.mem_cons_of_mem _ h)))))) (fun h => List.mem_cons_of_mem _ (List.mem_append_right _ h)))) w_y_X10_isBelow_good
theorem g_y_X10_power_X10_isBelow_V68 : GoodIn w_y_X10_power (wsV RX10 68 RX10 yX10_isBelow w_y_X10_isBelow) := goodIn_app (nb_g4 (List.mem_cons_of_mem _ (List.mem_append_left _ (List.mem_append_left _ (List.mem_of_getElem? (i := 0) rfl)))) (List.mem_cons_of_mem _ (List.mem_append_left _ (List.mem_append_left _ (List.mem_of_getElem? (i := 1) rfl)))) (List.mem_cons_of_mem _ (List.mem_append_left _ (List.mem_append_left _ (List.mem_of_getElem? (i := 2) rfl)))) (List.mem_cons_of_mem _ (List.mem_append_left _ (List.mem_append_left _ (List.mem_of_getElem? (i := 3) rfl)))) (by decide +kernel)) gg_y_X10_power_X10_isBelow
theorem gg_y_X10_power_X10_number : GoodIn w_y_X10_power w_y_X10_number := goodIn_sub (fun w h => (List.mem_cons.mp h).elim (fun e => (List.mem_cons_of_mem _ (List.mem_append_left _ (List.mem_append_right _ (List.mem_append_right _ (List.mem_append_right _ (List.mem_append_right _ (List.mem_append_left _ (List.mem_cons.mpr (Or.inl e)))))))))) (fun h => (List.mem_append.mp h).elim (fun h => (List.mem_cons_of_mem _ (List.mem_append_left _ (List.mem_append_right _ (List.mem_append_right _ (List.mem_append_right _ (List.mem_append_right _ (List.mem_append_left _ (List.mem_cons_of_mem _ h))))))))) (fun h => List.mem_cons_of_mem _ (List.mem_append_right _ h)))) w_y_X10_number_good
theorem g_y_X10_power_X10_number_S113 : GoodIn w_y_X10_power (va_wsS RX10 113 yX10_number w_y_X10_number) := goodIn_app (nb_g3 (List.mem_cons_of_mem _ (List.mem_append_left _ (List.mem_append_left _ (List.mem_of_getElem? (i := 14) rfl)))) (List.mem_cons_of_mem _ (List.mem_append_left _ (List.mem_append_left _ (List.mem_of_getElem? (i := 15) rfl)))) (List.mem_cons_of_mem _ (List.mem_append_left _ (List.mem_append_left _ (List.mem_of_getElem? (i := 3) rfl)))) (by decide +kernel)) gg_y_X10_power_X10_number
theorem gg_y_X10_power_X10_product : GoodIn w_y_X10_power w_y_X10_product := goodIn_sub (fun w h => (List.mem_cons.mp h).elim (fun e => (List.mem_cons_of_mem _ (List.mem_append_left _ (List.mem_append_right _ (List.mem_append_right _ (List.mem_append_right _ (List.mem_append_right _ (List.mem_append_right _ (List.mem_append_right _ (List.mem_append_left _ (List.mem_cons.mpr (Or.inl e)))))))))))) (fun h => (List.mem_append.mp h).elim (fun h => (List.mem_cons_of_mem _ (List.mem_append_left _ (List.mem_append_right _ (List.mem_append_right _ (List.mem_append_right _ (List.mem_append_right _ (List.mem_append_right _ (List.mem_append_right _ (List.mem_append_left _ (List.mem_cons_of_mem _ h))))))))))) (fun h => List.mem_cons_of_mem _ (List.mem_append_right _ h)))) w_y_X10_product_good
theorem g_y_X10_power_X10_product_V119 : GoodIn w_y_X10_power (wsV RX10 119 RX10 yX10_product w_y_X10_product) := goodIn_app (nb_g4 (List.mem_cons_of_mem _ (List.mem_append_left _ (List.mem_append_left _ (List.mem_of_getElem? (i := 18) rfl)))) (List.mem_cons_of_mem _ (List.mem_append_left _ (List.mem_append_left _ (List.mem_of_getElem? (i := 19) rfl)))) (List.mem_cons_of_mem _ (List.mem_append_left _ (List.mem_append_left _ (List.mem_of_getElem? (i := 20) rfl)))) (List.mem_cons_of_mem _ (List.mem_append_left _ (List.mem_append_left _ (List.mem_of_getElem? (i := 3) rfl)))) (by decide +kernel)) gg_y_X10_power_X10_product
theorem gg_y_X10_power_X10_small : GoodIn w_y_X10_power w_y_X10_small := goodIn_sub (fun w h => (List.mem_cons.mp h).elim (fun e => (List.mem_cons_of_mem _ (List.mem_append_left _ (List.mem_append_right _ (List.mem_append_right _ (List.mem_append_left _ (List.mem_cons.mpr (Or.inl e)))))))) (fun h => (List.mem_append.mp h).elim (fun h => (List.mem_cons_of_mem _ (List.mem_append_left _ (List.mem_append_right _ (List.mem_append_right _ (List.mem_append_left _ (List.mem_cons_of_mem _ h))))))) (fun h => List.mem_cons_of_mem _ (List.mem_append_right _ h)))) w_y_X10_small_good
theorem g_y_X10_power_X10_small_S43 : GoodIn w_y_X10_power (va_wsS RX10 43 yX10_small w_y_X10_small) := goodIn_app (nb_g3 (List.mem_cons_of_mem _ (List.mem_append_left _ (List.mem_append_left _ (List.mem_of_getElem? (i := 7) rfl)))) (List.mem_cons_of_mem _ (List.mem_append_left _ (List.mem_append_left _ (List.mem_of_getElem? (i := 8) rfl)))) (List.mem_cons_of_mem _ (List.mem_append_left _ (List.mem_append_left _ (List.mem_of_getElem? (i := 3) rfl)))) (by decide +kernel)) gg_y_X10_power_X10_small
theorem gg_y_X10_power_X11_isError : GoodIn w_y_X10_power w_y_X11_isError := goodIn_sub (fun w h => (List.mem_cons.mp h).elim (fun e => (List.mem_cons_of_mem _ (List.mem_append_left _ (List.mem_append_right _ (List.mem_append_right _ (List.mem_append_right _ (List.mem_append_right _ (List.mem_append_right _ (List.mem_append_left _ (List.mem_cons.mpr (Or.inl e))))))))))) (fun h => (List.mem_append.mp h).elim (fun h => (List.mem_cons_of_mem _ (List.mem_append_left _ (List.mem_append_right _ (List.mem_append_right _ (List.mem_append_right _ (List.mem_append_right _ (List.mem_append_right _ (List.mem_append_left _ (List.mem_cons_of_mem _ h)))))))))) (fun h => List.mem_cons_of_mem _ (List.mem_append_right _ h)))) w_y_X11_isError_good
theorem g_y_X10_power_X11_isError_SN116 : GoodIn w_y_X10_power w_y_X11_isError := gg_y_X10_power_X11_isError
set_option maxHeartbeats 40000000 in
set_option maxRecDepth 100000 in
theorem c_y_X10_power (l : Launch) (dC : Nat → ClassId) (dI : Nat → Nat → Nat) (cy : Nat → ClassId) (a z : Nat → Nat) (k0 : Nat) (L0 : LV) (σ0 : CS) (r0 : Int32 × CS) (h0 : y_X10_power k0 0 L0 σ0 = some r0) (sz : Nat) : Met l yX10_power w_y_X10_power ({ frames := 4, cells := 0, slots := 0, locals := 138 }) (va_Pc [.ref (a 4), .int (L0.1 1), .int (L0.1 2)] (nIn (dC, dI) cy sz (vC cy a z σ0))) (va_Qi (fun (x : Int32) (_ : Unit) => x = r0.1) (fun _ t => nOut (dC, dI) cy (va_A (vC cy a z σ0) sz) (vC cy a z r0.2) t) (va_A (vC cy a z σ0) sz)) 0 0 (va_A (vC cy a z σ0) sz) := by
  refine Met.ofW (cc := cX10_power) (maxL := 7) (ret := (some .int)) (by decide) rfl ?_
  intro p e s m args below meth c s₁ B hml hv
  obtain ⟨rfl, hsz, hP, hK, hD0, hG⟩ := hv
  have hx := B.exec
  have hb := B.bytes
  have hr := B.returns
  have hts := atoms_spec (ws := w_y_X10_power) B.pre
  have hown : s.vm.findClass RX10 = some m.cls := findClass_of_methodNamed B.named
  have hlocks := B.notSynchronized
  subst hsz
  have hD := hD0.self (sz := s.heap.size)
  generalize hAe : va_A (vC cy a z σ0) s.heap.size = A at hD ⊢
  have hA : ∀ q : Nat, s.heap.size ≤ q → A q := fun q h => by rw [← hAe]; exact Or.inr h
  have hS : va_S A s.heap s.heap [] := va_S.rf
  have hl := lv_entry ([.ref (a 4), .int (L0.1 1), .int (L0.1 2)]) (n := 7) (Nat.le_of_ble_eq_true rfl)
  rw [lg_entry_eq]
  generalize (lg_sl ([.ref (a 4), .int (L0.1 1), .int (L0.1 2)]) ++ List.replicate (7 - (lg_sl ([.ref (a 4), .int (L0.1 1), .int (L0.1 2)])).length) Slot.unset).toArray = ls at hl ⊢
  have hl : lv_has ls 7 [(0, .ref (a 4)), (1, .int (L0.1 1)), (2, .int (L0.1 2))] := hl
  have blk : ∀ k : Nat, (bC p l e (headSpec w_y_X10_power ({ frames := 4, cells := 0, slots := 0, locals := 138 })).room s m #[.ref (a 4), .int (L0.1 1), .int (L0.1 2)] below meth c dC dI cy a z A (kI dC dI cy a z A below #[.ref (a 4), .int (L0.1 1), .int (L0.1 2)] s) 7 (y_X10_power k 0) (fun L => [(0, .ref (a 4)), (1, .int (L.1 1)), (2, .int (L.1 2))]) 0 (fun L => [])) ∧ (bC p l e (headSpec w_y_X10_power ({ frames := 4, cells := 0, slots := 0, locals := 138 })).room s m #[.ref (a 4), .int (L0.1 1), .int (L0.1 2)] below meth c dC dI cy a z A (kI dC dI cy a z A below #[.ref (a 4), .int (L0.1 1), .int (L0.1 2)] s) 7 (y_X10_power k 1) (fun L => [(0, .ref (a 4)), (1, .int (L.1 1)), (2, .int (L.1 2))]) 11 (fun L => [])) ∧ (bC p l e (headSpec w_y_X10_power ({ frames := 4, cells := 0, slots := 0, locals := 138 })).room s m #[.ref (a 4), .int (L0.1 1), .int (L0.1 2)] below meth c dC dI cy a z A (kI dC dI cy a z A below #[.ref (a 4), .int (L0.1 1), .int (L0.1 2)] s) 7 (y_X10_power k 2) (fun L => []) 23 (fun L => [])) ∧ (bC p l e (headSpec w_y_X10_power ({ frames := 4, cells := 0, slots := 0, locals := 138 })).room s m #[.ref (a 4), .int (L0.1 1), .int (L0.1 2)] below meth c dC dI cy a z A (kI dC dI cy a z A below #[.ref (a 4), .int (L0.1 1), .int (L0.1 2)] s) 7 (y_X10_power k 3) (fun L => [(0, .ref (a 4)), (1, .int (L.1 1)), (2, .int (L.1 2))]) 26 (fun L => [])) ∧ (bC p l e (headSpec w_y_X10_power ({ frames := 4, cells := 0, slots := 0, locals := 138 })).room s m #[.ref (a 4), .int (L0.1 1), .int (L0.1 2)] below meth c dC dI cy a z A (kI dC dI cy a z A below #[.ref (a 4), .int (L0.1 1), .int (L0.1 2)] s) 7 (y_X10_power k 4) (fun L => [(0, .ref (a 4)), (1, .int (L.1 1)), (2, .int (L.1 2))]) 34 (fun L => [])) ∧ (bC p l e (headSpec w_y_X10_power ({ frames := 4, cells := 0, slots := 0, locals := 138 })).room s m #[.ref (a 4), .int (L0.1 1), .int (L0.1 2)] below meth c dC dI cy a z A (kI dC dI cy a z A below #[.ref (a 4), .int (L0.1 1), .int (L0.1 2)] s) 7 (y_X10_power k 5) (fun L => [(0, .ref (a 4)), (1, .int (L.1 1)), (2, .int (L.1 2)), (3, .int (L.1 3))]) 81 (fun L => [])) ∧ (bC p l e (headSpec w_y_X10_power ({ frames := 4, cells := 0, slots := 0, locals := 138 })).room s m #[.ref (a 4), .int (L0.1 1), .int (L0.1 2)] below meth c dC dI cy a z A (kI dC dI cy a z A below #[.ref (a 4), .int (L0.1 1), .int (L0.1 2)] s) 7 (y_X10_power k 6) (fun L => [(0, .ref (a 4)), (1, .int (L.1 1)), (2, .int (L.1 2))]) 54 (fun L => [])) ∧ (bC p l e (headSpec w_y_X10_power ({ frames := 4, cells := 0, slots := 0, locals := 138 })).room s m #[.ref (a 4), .int (L0.1 1), .int (L0.1 2)] below meth c dC dI cy a z A (kI dC dI cy a z A below #[.ref (a 4), .int (L0.1 1), .int (L0.1 2)] s) 7 (y_X10_power k 7) (fun L => [(1, .int (L.1 1))]) 65 (fun L => [.int (L.1 100)])) ∧ (bC p l e (headSpec w_y_X10_power ({ frames := 4, cells := 0, slots := 0, locals := 138 })).room s m #[.ref (a 4), .int (L0.1 1), .int (L0.1 2)] below meth c dC dI cy a z A (kI dC dI cy a z A below #[.ref (a 4), .int (L0.1 1), .int (L0.1 2)] s) 7 (y_X10_power k 8) (fun L => [(0, .ref (a 4)), (1, .int (L.1 1)), (2, .int (L.1 2))]) 93 (fun L => [])) ∧ (bC p l e (headSpec w_y_X10_power ({ frames := 4, cells := 0, slots := 0, locals := 138 })).room s m #[.ref (a 4), .int (L0.1 1), .int (L0.1 2)] below meth c dC dI cy a z A (kI dC dI cy a z A below #[.ref (a 4), .int (L0.1 1), .int (L0.1 2)] s) 7 (y_X10_power k 9) (fun L => [(1, .int (L.1 1))]) 79 (fun L => [])) ∧ (bC p l e (headSpec w_y_X10_power ({ frames := 4, cells := 0, slots := 0, locals := 138 })).room s m #[.ref (a 4), .int (L0.1 1), .int (L0.1 2)] below meth c dC dI cy a z A (kI dC dI cy a z A below #[.ref (a 4), .int (L0.1 1), .int (L0.1 2)] s) 7 (y_X10_power k 10) (fun L => []) 80 (fun L => [.int (L.1 100)])) ∧ (bC p l e (headSpec w_y_X10_power ({ frames := 4, cells := 0, slots := 0, locals := 138 })).room s m #[.ref (a 4), .int (L0.1 1), .int (L0.1 2)] below meth c dC dI cy a z A (kI dC dI cy a z A below #[.ref (a 4), .int (L0.1 1), .int (L0.1 2)] s) 7 (y_X10_power k 11) (fun L => [(0, .ref (a 4)), (1, .int (L.1 1)), (4, .int (L.1 4)), (5, .int (L.1 5)), (6, .int (L.1 6))]) 107 (fun L => [])) ∧ (bC p l e (headSpec w_y_X10_power ({ frames := 4, cells := 0, slots := 0, locals := 138 })).room s m #[.ref (a 4), .int (L0.1 1), .int (L0.1 2)] below meth c dC dI cy a z A (kI dC dI cy a z A below #[.ref (a 4), .int (L0.1 1), .int (L0.1 2)] s) 7 (y_X10_power k 12) (fun L => [(5, .int (L.1 5))]) 164 (fun L => [])) ∧ (bC p l e (headSpec w_y_X10_power ({ frames := 4, cells := 0, slots := 0, locals := 138 })).room s m #[.ref (a 4), .int (L0.1 1), .int (L0.1 2)] below meth c dC dI cy a z A (kI dC dI cy a z A below #[.ref (a 4), .int (L0.1 1), .int (L0.1 2)] s) 7 (y_X10_power k 13) (fun L => [(0, .ref (a 4)), (1, .int (L.1 1)), (4, .int (L.1 4)), (5, .int (L.1 5)), (6, .int (L.1 6))]) 158 (fun L => [])) := by
    intro k
    induction k with
    | zero => exact ⟨fun L σ r h => (by cases h), fun L σ r h => (by cases h), fun L σ r h => (by cases h), fun L σ r h => (by cases h), fun L σ r h => (by cases h), fun L σ r h => (by cases h), fun L σ r h => (by cases h), fun L σ r h => (by cases h), fun L σ r h => (by cases h), fun L σ r h => (by cases h), fun L σ r h => (by cases h), fun L σ r h => (by cases h), fun L σ r h => (by cases h), fun L σ r h => (by cases h)⟩
    | succ k ih =>
      refine ⟨?_, ?_, ?_, ?_, ?_, ?_, ?_, ?_, ?_, ?_, ?_, ?_, ?_, ?_⟩
      · intro L σ r h H locs ls hP hD hS hl
        rw [y_X10_power] at h
        refine lv_aload_n hx hb dX10_power_0 rfl (lv_at hl 0 rfl) ?_
        refine lv_iload_n hx hb dX10_power_1 rfl (lv_at hl 2 rfl) ?_
        obtain ⟨r1, hc1, h⟩ := oc_ex h
        refine kc_i (va_runV (As := [.int (L.1 2)]) (rest := []) ⟨hx, hb, hml, hown, hts⟩ (c_y_X10_isBelow l dC dI cy a z k (lI lZ 1 ((L.1 2))) σ r1 hc1 H.size) (cwV 1 hts g_y_X10_power_X10_isBelow_V68 rfl rfl rfl hd_y_X10_isBelow ⟨Nat.le_of_ble_eq_true rfl, Nat.le_of_ble_eq_true rfl⟩) ⟨nb_blind, va_recv hK hP (ci := 9) (q0 := 4) rfl rfl, (kb_pre hK hG hP hD)⟩ rfl rfl hl.1 rfl (lv_room (Nat.le_of_ble_eq_true rfl)) dX10_power_2 ⟨Nat.le_refl _, Nat.le_refl _⟩) hA hP hD hS (fun H locs hP hD hS => ?_)
        refine lv_if_eq (tgt := 11) hx hb dX10_power_5 (by decide) (fun c2 => ?_) (fun c2 => ?_)
        · rw [if_pos c2] at h
          exact ih.2.1 L r1.2 r h H locs ls hP hD hS (lv_sub hl [0, 1, 2] rfl)
        · rw [if_neg c2] at h
          refine lv_ldc (v := (-268435452)) hx hb hown (hts _ (List.mem_cons_of_mem _ (List.mem_append_left _ (List.mem_append_left _ (List.mem_of_getElem? (i := 4) rfl))))) dX10_power_8 ?_
          obtain rfl := Option.some.inj h
          exact W.iret (v := (-268435452)) hx hb hr (fun t ht hW => ⟨⟨(-268435452), (), rfl, rfl, by rw [ht]; exact hP, va_K.moved hW.alike hK, hD⟩, hS.F ht⟩) hS.2.2 dX10_power_10
      · intro L σ r h H locs ls hP hD hS hl
        rw [y_X10_power] at h
        refine lv_iload_n hx hb dX10_power_11 rfl (lv_at hl 2 rfl) ?_
        refine lv_ldc (v := (-1610612736)) hx hb hown (hts _ (List.mem_cons_of_mem _ (List.mem_append_left _ (List.mem_append_left _ (List.mem_of_getElem? (i := 5) rfl))))) dX10_power_12 ?_
        refine lv_icmp_eq (tgt := 23) hx hb dX10_power_14 (by decide) (fun c1 => ?_) (fun c1 => ?_)
        · rw [if_pos c1] at h
          exact ih.2.2.1 L σ r h H locs ls hP hD hS (lv_sub hl [] rfl)
        · rw [if_neg c1] at h
          refine lv_iload_n hx hb dX10_power_17 rfl (lv_at hl 1 rfl) ?_
          refine lv_ldc (v := (-1610612735)) hx hb hown (hts _ (List.mem_cons_of_mem _ (List.mem_append_left _ (List.mem_append_left _ (List.mem_of_getElem? (i := 6) rfl))))) dX10_power_18 ?_
          refine lv_icmp_ne (tgt := 26) hx hb dX10_power_20 (by decide) (fun c2 => ?_) (fun c2 => ?_)
          · rw [if_neg c2] at h
            exact ih.2.2.2.1 L σ r h H locs ls hP hD hS (lv_sub hl [0, 1, 2] rfl)
          · rw [if_pos c2] at h
            exact ih.2.2.1 L σ r h H locs ls hP hD hS (lv_sub hl [] rfl)
      · intro L σ r h H locs ls hP hD hS hl
        rw [y_X10_power] at h
        refine lv_ldc (v := (-1610612735)) hx hb hown (hts _ (List.mem_cons_of_mem _ (List.mem_append_left _ (List.mem_append_left _ (List.mem_of_getElem? (i := 6) rfl))))) dX10_power_23 ?_
        obtain rfl := Option.some.inj h
        exact W.iret (v := (-1610612735)) hx hb hr (fun t ht hW => ⟨⟨(-1610612735), (), rfl, rfl, by rw [ht]; exact hP, va_K.moved hW.alike hK, hD⟩, hS.F ht⟩) hS.2.2 dX10_power_25
      · intro L σ r h H locs ls hP hD hS hl
        rw [y_X10_power] at h
        refine lv_iload_n hx hb dX10_power_26 rfl (lv_at hl 1 rfl) ?_
        refine lv_ldc (v := (-1610612736)) hx hb hown (hts _ (List.mem_cons_of_mem _ (List.mem_append_left _ (List.mem_append_left _ (List.mem_of_getElem? (i := 5) rfl))))) dX10_power_27 ?_
        refine lv_icmp_ne (tgt := 34) hx hb dX10_power_29 (by decide) (fun c1 => ?_) (fun c1 => ?_)
        · rw [if_neg c1] at h
          exact ih.2.2.2.2.1 L σ r h H locs ls hP hD hS (lv_sub hl [0, 1, 2] rfl)
        · rw [if_pos c1] at h
          refine lv_iload_n hx hb dX10_power_32 rfl (lv_at hl 1 rfl) ?_
          obtain rfl := Option.some.inj h
          exact W.iret (v := (L.1 1)) hx hb hr (fun t ht hW => ⟨⟨(L.1 1), (), rfl, rfl, by rw [ht]; exact hP, va_K.moved hW.alike hK, hD⟩, hS.F ht⟩) hS.2.2 dX10_power_33
      · intro L σ r h H locs ls hP hD hS hl
        rw [y_X10_power] at h
        refine lv_sipush (v := 1024) hx hb dX10_power_34 (by decide) ?_
        refine lv_istore_n (lv' := [(3, .int 1024), (0, .ref (a 4)), (1, .int (L.1 1)), (2, .int (L.1 2))]) hx hb dX10_power_37 rfl hl (by decide) rfl (fun ls hl => ?_)
        refine lv_iload_n hx hb dX10_power_38 rfl (lv_at hl 2 rfl) ?_
        refine lv_iconst (v := (-1)) hx hb dX10_power_39 (by decide) ?_
        obtain ⟨r1, hc1, h⟩ := oc_ex h
        refine kc_i (va_runS (As := [.int (-1)]) (rest := [.int (L.1 1)]) ⟨hx, hb, hml, hown, hts⟩ (c_y_X10_small l dC dI cy a z k (lI lZ 0 ((-1))) σ r1 hc1 H.size) (va_cwS 1 hts g_y_X10_power_X10_small_S43 rfl rfl rfl hd_y_X10_small ⟨Nat.le_of_ble_eq_true rfl, Nat.le_of_ble_eq_true rfl⟩) ⟨nb_blind, (kb_pre hK hG hP hD)⟩ rfl rfl hl.1 rfl (lv_room (Nat.le_of_ble_eq_true rfl)) dX10_power_40 ⟨Nat.le_refl _, Nat.le_refl _⟩) hA hP hD hS (fun H locs hP hD hS => ?_)
        refine lv_icmp_ne (tgt := 81) hx hb dX10_power_43 (by decide) (fun c2 => ?_) (fun c2 => ?_)
        · rw [if_neg c2] at h
          exact ih.2.2.2.2.2.1 (lI L 3 1024) r1.2 r h H locs ls hP hD hS (lv_sub hl [1, 2, 3, 0] rfl)
        · rw [if_pos c2] at h
          refine lv_iload_n hx hb dX10_power_46 rfl (lv_at hl 3 rfl) ?_
          refine lv_if_ge (tgt := 54) hx hb dX10_power_47 (by decide) (fun c3 => ?_) (fun c3 => ?_)
          · rw [if_pos c3] at h
            exact ih.2.2.2.2.2.2.1 L r1.2 r h H locs ls hP hD hS (lv_sub hl [1, 2, 3] rfl)
          · rw [if_neg c3] at h
            refine lv_iload_n hx hb dX10_power_50 rfl (lv_at hl 3 rfl) ?_
            refine lv_goto (tgt := 65) hx hb dX10_power_51 (by decide) ?_
            exact ih.2.2.2.2.2.2.2.1 (lI L 100 ((L.1 2))) r1.2 r h H locs ls hP hD hS (lv_sub hl [2] rfl)
      · intro L σ r h H locs ls hP hD hS hl
        rw [y_X10_power] at h
        refine lv_aload_n hx hb dX10_power_81 rfl (lv_at hl 0 rfl) ?_
        refine lv_iload_n hx hb dX10_power_82 rfl (lv_at hl 2 rfl) ?_
        obtain ⟨r1, hc1, h⟩ := oc_ex h
        refine kc_i (va_runV (As := [.int (L.1 2)]) (rest := []) ⟨hx, hb, hml, hown, hts⟩ (c_y_X10_clamped l dC dI cy a z k (lI lZ 1 ((L.1 2))) σ r1 hc1 H.size) (cwV 1 hts g_y_X10_power_X10_clamped_V110 rfl rfl rfl hd_y_X10_clamped ⟨Nat.le_of_ble_eq_true rfl, Nat.le_of_ble_eq_true rfl⟩) ⟨nb_blind, va_recv hK hP (ci := 9) (q0 := 4) rfl rfl, (kb_pre hK hG hP hD)⟩ rfl rfl hl.1 rfl (lv_room (Nat.le_of_ble_eq_true rfl)) dX10_power_83 ⟨Nat.le_refl _, Nat.le_refl _⟩) hA hP hD hS (fun H locs hP hD hS => ?_)
        refine lv_iload_n hx hb dX10_power_86 rfl (lv_at hl 3 rfl) ?_
        refine lv_icmp_le (tgt := 93) hx hb dX10_power_87 (by decide) (fun c2 => ?_) (fun c2 => ?_)
        · rw [if_pos c2] at h
          exact ih.2.2.2.2.2.2.2.2.1 L r1.2 r h H locs ls hP hD hS (lv_sub hl [0, 1, 2] rfl)
        · rw [if_neg c2] at h
          refine lv_ldc (v := (-268435451)) hx hb hown (hts _ (List.mem_cons_of_mem _ (List.mem_append_left _ (List.mem_append_left _ (List.mem_of_getElem? (i := 12) rfl))))) dX10_power_90 ?_
          obtain rfl := Option.some.inj h
          exact W.iret (v := (-268435451)) hx hb hr (fun t ht hW => ⟨⟨(-268435451), (), rfl, rfl, by rw [ht]; exact hP, va_K.moved hW.alike hK, hD⟩, hS.F ht⟩) hS.2.2 dX10_power_92
      · intro L σ r h H locs ls hP hD hS hl
        rw [y_X10_power] at h
        refine lv_aload_n hx hb dX10_power_54 rfl (lv_at hl 0 rfl) ?_
        refine hg_4_0 hx hb hts in_y_X10_power_X10 hown hK hP (hts _ (List.mem_cons_of_mem _ (List.mem_append_left _ (List.mem_append_left _ (List.mem_of_getElem? (i := 13) rfl))))) dX10_power_55 ?_
        refine hg_0_0n hx hb hts in_y_X10_power_X1 hown hK hP (va_Nw.use rfl (hG.1 _ (List.mem_of_getElem? (i := 0) rfl))) dX10_power_58 ?_
        refine lv_iload_n hx hb dX10_power_61 rfl (lv_at hl 2 rfl) ?_
        refine lv_iconst (v := 1) hx hb dX10_power_62 (by decide) ?_
        refine lv_iadd hx hb dX10_power_63 ?_
        obtain ⟨q1, h⟩ := kb_ite1 h
        refine hl_3 hx hb hK hP q1 dX10_power_64 ?_
        exact ih.2.2.2.2.2.2.2.1 (lI L 100 ((σ.2.2.1 3 ((((L.1 2)) + 1)).toNatClampNeg))) σ r h H locs ls hP hD hS (lv_sub hl [1] rfl)
      · intro L σ r h H locs ls hP hD hS hl
        rw [y_X10_power] at h
        refine lv_istore (lv' := [(4, .int (L.1 100)), (1, .int (L.1 1))]) hx hb dX10_power_65 hl (by decide) rfl (fun ls hl => ?_)
        refine lv_iload hx hb dX10_power_67 (lv_at hl 0 rfl) ?_
        refine lv_iconst (v := 1) hx hb dX10_power_69 (by decide) ?_
        refine lv_iand hx hb dX10_power_70 ?_
        refine lv_if_ne (tgt := 79) hx hb dX10_power_71 (by decide) (fun c1 => ?_) (fun c1 => ?_)
        · rw [if_neg c1] at h
          exact ih.2.2.2.2.2.2.2.2.2.1 L σ r h H locs ls hP hD hS (lv_sub hl [1] rfl)
        · rw [if_pos c1] at h
          refine lv_ldc (v := (-1610612735)) hx hb hown (hts _ (List.mem_cons_of_mem _ (List.mem_append_left _ (List.mem_append_left _ (List.mem_of_getElem? (i := 6) rfl))))) dX10_power_74 ?_
          refine lv_goto (tgt := 80) hx hb dX10_power_76 (by decide) ?_
          exact ih.2.2.2.2.2.2.2.2.2.2.1 (lI L 100 ((-1610612735))) σ r h H locs ls hP hD hS (lv_sub hl [] rfl)
      · intro L σ r h H locs ls hP hD hS hl
        rw [y_X10_power] at h
        refine lv_iload_n hx hb dX10_power_93 rfl (lv_at hl 2 rfl) ?_
        obtain ⟨r1, hc1, h⟩ := oc_ex h
        refine kc_i (va_runS (As := [.int (L.1 2)]) (rest := []) ⟨hx, hb, hml, hown, hts⟩ (c_y_X10_number l dC dI cy a z k (lI lZ 0 ((L.1 2))) σ r1 hc1 H.size) (va_cwS 1 hts g_y_X10_power_X10_number_S113 rfl rfl rfl hd_y_X10_number ⟨Nat.le_of_ble_eq_true rfl, Nat.le_of_ble_eq_true rfl⟩) ⟨nb_blind, (kb_pre hK hG hP hD)⟩ rfl rfl hl.1 rfl (lv_room (Nat.le_of_ble_eq_true rfl)) dX10_power_94 ⟨Nat.le_refl _, Nat.le_refl _⟩) hA hP hD hS (fun H locs hP hD hS => ?_)
        refine lv_istore (lv' := [(4, .int r1.1), (0, .ref (a 4)), (1, .int (L.1 1)), (2, .int (L.1 2))]) hx hb dX10_power_97 hl (by decide) rfl (fun ls hl => ?_)
        refine lv_ldc (v := (-1610612735)) hx hb hown (hts _ (List.mem_cons_of_mem _ (List.mem_append_left _ (List.mem_append_left _ (List.mem_of_getElem? (i := 6) rfl))))) dX10_power_99 ?_
        refine lv_istore (lv' := [(5, .int (-1610612735)), (4, .int r1.1), (0, .ref (a 4)), (1, .int (L.1 1)), (2, .int (L.1 2))]) hx hb dX10_power_101 hl (by decide) rfl (fun ls hl => ?_)
        refine lv_bipush (v := 11) hx hb dX10_power_103 (by decide) ?_
        refine lv_istore (lv' := [(6, .int 11), (5, .int (-1610612735)), (4, .int r1.1), (0, .ref (a 4)), (1, .int (L.1 1)), (2, .int (L.1 2))]) hx hb dX10_power_105 hl (by decide) rfl (fun ls hl => ?_)
        exact ih.2.2.2.2.2.2.2.2.2.2.2.1 (lI (lI (lI L 4 r1.1) 5 ((-1610612735))) 6 11) r1.2 r h H locs ls hP hD hS (lv_sub hl [3, 4, 2, 1, 0] rfl)
      · intro L σ r h H locs ls hP hD hS hl
        rw [y_X10_power] at h
        refine lv_iload_n hx hb dX10_power_79 rfl (lv_at hl 0 rfl) ?_
        exact ih.2.2.2.2.2.2.2.2.2.2.1 (lI L 100 ((L.1 1))) σ r h H locs ls hP hD hS (lv_sub hl [] rfl)
      · intro L σ r h H locs ls hP hD hS hl
        rw [y_X10_power] at h
        obtain rfl := Option.some.inj h
        exact W.iret (v := (L.1 100)) hx hb hr (fun t ht hW => ⟨⟨(L.1 100), (), rfl, rfl, by rw [ht]; exact hP, va_K.moved hW.alike hK, hD⟩, hS.F ht⟩) hS.2.2 dX10_power_80
      · intro L σ r h H locs ls hP hD hS hl
        rw [y_X10_power] at h
        refine lv_iload hx hb dX10_power_107 (lv_at hl 4 rfl) ?_
        refine lv_if_lt (tgt := 164) hx hb dX10_power_109 (by decide) (fun c1 => ?_) (fun c1 => ?_)
        · rw [if_pos c1] at h
          exact ih.2.2.2.2.2.2.2.2.2.2.2.2.1 L σ r h H locs ls hP hD hS (lv_sub hl [3] rfl)
        · rw [if_neg c1] at h
          refine lv_iload hx hb dX10_power_112 (lv_at hl 3 rfl) ?_
          obtain ⟨r2, hc2, h⟩ := oc_ex h
          refine kc_i (va_runSN (As := [.int (L.1 5)]) (rest := []) ⟨hx, hb, hml, hown, hts⟩ (c_y_X11_isError l dC dI cy a z k (lI lZ 0 ((L.1 5))) σ r2 hc2 H.size) ⟨va_cnB 1 hts g_y_X10_power_X11_isError_SN116 rfl rfl rfl (hG.1 _ (List.mem_of_getElem? (i := 107) rfl)) (hts _ (List.mem_cons_of_mem _ (List.mem_append_left _ (List.mem_append_left _ (List.mem_of_getElem? (i := 16) rfl))))) hd_y_X11_isError ⟨Nat.le_of_ble_eq_true rfl, Nat.le_of_ble_eq_true rfl⟩, (hts _ (List.mem_cons_of_mem _ (List.mem_append_left _ (List.mem_append_left _ (List.mem_of_getElem? (i := 17) rfl))))), trivial⟩ ⟨nb_blind, (kb_pre hK hG hP hD)⟩ rfl rfl hl.1 rfl (lv_room (Nat.le_of_ble_eq_true rfl)) dX10_power_114 ⟨Nat.le_refl _, Nat.le_refl _⟩) hA hP hD hS (fun H locs hP hD hS => ?_)
          refine lv_if_ne (tgt := 164) hx hb dX10_power_117 (by decide) (fun c3 => ?_) (fun c3 => ?_)
          · rw [if_neg c3] at h
            exact ih.2.2.2.2.2.2.2.2.2.2.2.2.1 L r2.2 r h H locs ls hP hD hS (lv_sub hl [3] rfl)
          · rw [if_pos c3] at h
            refine lv_aload_n hx hb dX10_power_120 rfl (lv_at hl 0 rfl) ?_
            refine lv_iload hx hb dX10_power_121 (lv_at hl 3 rfl) ?_
            refine lv_iload hx hb dX10_power_123 (lv_at hl 3 rfl) ?_
            obtain ⟨r4, hc4, h⟩ := oc_ex h
            refine kc_i (va_runV (As := [.int (L.1 5), .int (L.1 5)]) (rest := []) ⟨hx, hb, hml, hown, hts⟩ (c_y_X10_product l dC dI cy a z k (lI (lI lZ 1 ((L.1 5))) 2 ((L.1 5))) r2.2 r4 hc4 H.size) (cwV 2 hts g_y_X10_power_X10_product_V119 rfl rfl rfl hd_y_X10_product ⟨Nat.le_of_ble_eq_true rfl, Nat.le_of_ble_eq_true rfl⟩) ⟨nb_blind, va_recv hK hP (ci := 9) (q0 := 4) rfl rfl, (kb_pre hK hG hP hD)⟩ rfl rfl hl.1 rfl (lv_room (Nat.le_of_ble_eq_true rfl)) dX10_power_125 ⟨Nat.le_refl _, Nat.le_refl _⟩) hA hP hD hS (fun H locs hP hD hS => ?_)
            refine lv_istore (lv' := [(5, .int r4.1), (0, .ref (a 4)), (1, .int (L.1 1)), (4, .int (L.1 4)), (6, .int (L.1 6))]) hx hb dX10_power_128 hl (by decide) rfl (fun ls hl => ?_)
            refine lv_iload hx hb dX10_power_130 (lv_at hl 0 rfl) ?_
            obtain ⟨r5, hc5, h⟩ := oc_ex h
            refine kc_i (va_runSN (As := [.int r4.1]) (rest := []) ⟨hx, hb, hml, hown, hts⟩ (c_y_X11_isError l dC dI cy a z k (lI lZ 0 r4.1) r4.2 r5 hc5 H.size) ⟨va_cnB 1 hts g_y_X10_power_X11_isError_SN116 rfl rfl rfl (hG.1 _ (List.mem_of_getElem? (i := 107) rfl)) (hts _ (List.mem_cons_of_mem _ (List.mem_append_left _ (List.mem_append_left _ (List.mem_of_getElem? (i := 16) rfl))))) hd_y_X11_isError ⟨Nat.le_of_ble_eq_true rfl, Nat.le_of_ble_eq_true rfl⟩, (hts _ (List.mem_cons_of_mem _ (List.mem_append_left _ (List.mem_append_left _ (List.mem_of_getElem? (i := 17) rfl))))), trivial⟩ ⟨nb_blind, (kb_pre hK hG hP hD)⟩ rfl rfl hl.1 rfl (lv_room (Nat.le_of_ble_eq_true rfl)) dX10_power_132 ⟨Nat.le_refl _, Nat.le_refl _⟩) hA hP hD hS (fun H locs hP hD hS => ?_)
            refine lv_if_ne (tgt := 158) hx hb dX10_power_135 (by decide) (fun c6 => ?_) (fun c6 => ?_)
            · rw [if_neg c6] at h
              exact ih.2.2.2.2.2.2.2.2.2.2.2.2.2 (lI L 5 r4.1) r5.2 r h H locs ls hP hD hS (lv_sub hl [1, 2, 3, 0, 4] rfl)
            · rw [if_pos c6] at h
              refine lv_iload hx hb dX10_power_138 (lv_at hl 3 rfl) ?_
              refine lv_iload hx hb dX10_power_140 (lv_at hl 4 rfl) ?_
              refine lv_ishr hx hb dX10_power_142 ?_
              refine lv_iconst (v := 1) hx hb dX10_power_143 (by decide) ?_
              refine lv_iand hx hb dX10_power_144 ?_
              refine lv_iconst (v := 1) hx hb dX10_power_145 (by decide) ?_
              refine lv_icmp_ne (tgt := 158) hx hb dX10_power_146 (by decide) (fun c7 => ?_) (fun c7 => ?_)
              · rw [if_neg c7] at h
                exact ih.2.2.2.2.2.2.2.2.2.2.2.2.2 (lI L 5 r4.1) r5.2 r h H locs ls hP hD hS (lv_sub hl [1, 2, 3, 0, 4] rfl)
              · rw [if_pos c7] at h
                refine lv_aload_n hx hb dX10_power_149 rfl (lv_at hl 1 rfl) ?_
                refine lv_iload hx hb dX10_power_150 (lv_at hl 0 rfl) ?_
                refine lv_iload_n hx hb dX10_power_152 rfl (lv_at hl 2 rfl) ?_
                obtain ⟨r8, hc8, h⟩ := oc_ex h
                refine kc_i (va_runV (As := [.int r4.1, .int (L.1 1)]) (rest := []) ⟨hx, hb, hml, hown, hts⟩ (c_y_X10_product l dC dI cy a z k (lI (lI lZ 1 r4.1) 2 ((L.1 1))) r5.2 r8 hc8 H.size) (cwV 2 hts g_y_X10_power_X10_product_V119 rfl rfl rfl hd_y_X10_product ⟨Nat.le_of_ble_eq_true rfl, Nat.le_of_ble_eq_true rfl⟩) ⟨nb_blind, va_recv hK hP (ci := 9) (q0 := 4) rfl rfl, (kb_pre hK hG hP hD)⟩ rfl rfl hl.1 rfl (lv_room (Nat.le_of_ble_eq_true rfl)) dX10_power_153 ⟨Nat.le_refl _, Nat.le_refl _⟩) hA hP hD hS (fun H locs hP hD hS => ?_)
                refine lv_istore (lv' := [(5, .int r8.1), (0, .ref (a 4)), (1, .int (L.1 1)), (4, .int (L.1 4)), (6, .int (L.1 6))]) hx hb dX10_power_156 hl (by decide) rfl (fun ls hl => ?_)
                exact ih.2.2.2.2.2.2.2.2.2.2.2.2.2 (lI L 5 r8.1) r8.2 r h H locs ls hP hD hS (lv_sub hl [1, 2, 3, 0, 4] rfl)
      · intro L σ r h H locs ls hP hD hS hl
        rw [y_X10_power] at h
        refine lv_iload hx hb dX10_power_164 (lv_at hl 0 rfl) ?_
        obtain rfl := Option.some.inj h
        exact W.iret (v := (L.1 5)) hx hb hr (fun t ht hW => ⟨⟨(L.1 5), (), rfl, rfl, by rw [ht]; exact hP, va_K.moved hW.alike hK, hD⟩, hS.F ht⟩) hS.2.2 dX10_power_166
      · intro L σ r h H locs ls hP hD hS hl
        rw [y_X10_power] at h
        refine lv_iinc (v := ((L.1 6)) + (-1)) (lv' := [(6, .int (((L.1 6)) + (-1))), (0, .ref (a 4)), (1, .int (L.1 1)), (4, .int (L.1 4)), (5, .int (L.1 5))]) hx hb dX10_power_158 hl (k := 4) rfl rfl (by decide) rfl (fun ls hl => ?_)
        refine lv_goto (tgt := 107) hx hb dX10_power_161 (by decide) ?_
        exact ih.2.2.2.2.2.2.2.2.2.2.2.1 (lI L 6 ((((L.1 6)) + (-1)))) σ r h H locs ls hP hD hS (lv_sub hl [1, 2, 3, 4, 0] rfl)
  exact (blk k0).1 L0 σ0 r0 h0 s.heap [] ls hP hD hS hl
/-! X11_truth -/
def y_X11_truth : Nat → Nat → LV → CS → Option (Int32 × CS)
  | 0, _, _, _ => none
  | k + 1, 0, L, σ => if ((L.1 0)) = 0 then (y_X11_truth k 1 L σ) else (y_X11_truth k 2 (lI L 100 ((-1879048191))) σ)
  | k + 1, 1, L, σ => y_X11_truth k 2 (lI L 100 ((-1879048192))) σ
  | k + 1, 2, L, σ => some ((L.1 100), σ)
  | _ + 1, _ + 3, _, _ => none
def o_y_X11_truth : List Cond := [.constant RX11 5 (-1879048191), .constant RX11 6 (-1879048192)]
theorem o_y_X11_truth_good : o_y_X11_truth.all goodWord = true := by decide +kernel
def p_y_X11_truth : List Cond := o_y_X11_truth ++ []
theorem p_y_X11_truth_good : p_y_X11_truth.all goodWord = true := nb_all2 o_y_X11_truth_good rfl
def w_y_X11_truth : List Cond := .code yX11_truth cX11_truth 1 (some .int) :: (p_y_X11_truth ++ fC)
theorem w_y_X11_truth_good : w_y_X11_truth.all goodWord = true := nb_allc (by decide +kernel) (nb_all2 p_y_X11_truth_good fC_good)
theorem hd_y_X11_truth : yX11_truth.cls ≠ "java/lang/invoke/MethodHandle" ∧ yX11_truth.cls ≠ "java/lang/invoke/VarHandle" ∧ (parseMethodDescriptor yX11_truth.desc).map (fun d => d.parameters.length) = some 1 := by decide +kernel
set_option maxHeartbeats 40000000 in
set_option maxRecDepth 100000 in
theorem c_y_X11_truth (l : Launch) (dC : Nat → ClassId) (dI : Nat → Nat → Nat) (cy : Nat → ClassId) (a z : Nat → Nat) (k0 : Nat) (L0 : LV) (σ0 : CS) (r0 : Int32 × CS) (h0 : y_X11_truth k0 0 L0 σ0 = some r0) (sz : Nat) : Met l yX11_truth w_y_X11_truth ({ frames := 0, cells := 0, slots := 0, locals := 0 }) (va_Pc [.int (L0.1 0)] (nIn (dC, dI) cy sz (vC cy a z σ0))) (va_Qi (fun (x : Int32) (_ : Unit) => x = r0.1) (fun _ t => nOut (dC, dI) cy (va_A (vC cy a z σ0) sz) (vC cy a z r0.2) t) (va_A (vC cy a z σ0) sz)) 0 0 (va_A (vC cy a z σ0) sz) := by
  refine Met.ofW (cc := cX11_truth) (maxL := 1) (ret := (some .int)) (by decide) rfl ?_
  intro p e s m args below meth c s₁ B hml hv
  obtain ⟨rfl, hsz, hP, hK, hD0, hG⟩ := hv
  have hx := B.exec
  have hb := B.bytes
  have hr := B.returns
  have hts := atoms_spec (ws := w_y_X11_truth) B.pre
  have hown : s.vm.findClass RX11 = some m.cls := findClass_of_methodNamed B.named
  have hlocks := B.notSynchronized
  subst hsz
  have hD := hD0.self (sz := s.heap.size)
  generalize hAe : va_A (vC cy a z σ0) s.heap.size = A at hD ⊢
  have hA : ∀ q : Nat, s.heap.size ≤ q → A q := fun q h => by rw [← hAe]; exact Or.inr h
  have hS : va_S A s.heap s.heap [] := va_S.rf
  have hl := lv_entry ([.int (L0.1 0)]) (n := 1) (Nat.le_of_ble_eq_true rfl)
  rw [lg_entry_eq]
  generalize (lg_sl ([.int (L0.1 0)]) ++ List.replicate (1 - (lg_sl ([.int (L0.1 0)])).length) Slot.unset).toArray = ls at hl ⊢
  have hl : lv_has ls 1 [(0, .int (L0.1 0))] := hl
  have blk : ∀ k : Nat, (bC p l e (headSpec w_y_X11_truth ({ frames := 0, cells := 0, slots := 0, locals := 0 })).room s m #[.int (L0.1 0)] below meth c dC dI cy a z A (kI dC dI cy a z A below #[.int (L0.1 0)] s) 1 (y_X11_truth k 0) (fun L => [(0, .int (L.1 0))]) 0 (fun L => [])) ∧ (bC p l e (headSpec w_y_X11_truth ({ frames := 0, cells := 0, slots := 0, locals := 0 })).room s m #[.int (L0.1 0)] below meth c dC dI cy a z A (kI dC dI cy a z A below #[.int (L0.1 0)] s) 1 (y_X11_truth k 1) (fun L => []) 9 (fun L => [])) ∧ (bC p l e (headSpec w_y_X11_truth ({ frames := 0, cells := 0, slots := 0, locals := 0 })).room s m #[.int (L0.1 0)] below meth c dC dI cy a z A (kI dC dI cy a z A below #[.int (L0.1 0)] s) 1 (y_X11_truth k 2) (fun L => []) 11 (fun L => [.int (L.1 100)])) := by
    intro k
    induction k with
    | zero => exact ⟨fun L σ r h => (by cases h), fun L σ r h => (by cases h), fun L σ r h => (by cases h)⟩
    | succ k ih =>
      refine ⟨?_, ?_, ?_⟩
      · intro L σ r h H locs ls hP hD hS hl
        rw [y_X11_truth] at h
        refine lv_iload_n hx hb dX11_truth_0 rfl (lv_at hl 0 rfl) ?_
        refine lv_if_eq (tgt := 9) hx hb dX11_truth_1 (by decide) (fun c1 => ?_) (fun c1 => ?_)
        · rw [if_pos c1] at h
          exact ih.2.1 L σ r h H locs ls hP hD hS (lv_sub hl [] rfl)
        · rw [if_neg c1] at h
          refine lv_ldc (v := (-1879048191)) hx hb hown (hts _ (List.mem_cons_of_mem _ (List.mem_append_left _ (List.mem_append_left _ (List.mem_of_getElem? (i := 0) rfl))))) dX11_truth_4 ?_
          refine lv_goto (tgt := 11) hx hb dX11_truth_6 (by decide) ?_
          exact ih.2.2 (lI L 100 ((-1879048191))) σ r h H locs ls hP hD hS (lv_sub hl [] rfl)
      · intro L σ r h H locs ls hP hD hS hl
        rw [y_X11_truth] at h
        refine lv_ldc (v := (-1879048192)) hx hb hown (hts _ (List.mem_cons_of_mem _ (List.mem_append_left _ (List.mem_append_left _ (List.mem_of_getElem? (i := 1) rfl))))) dX11_truth_9 ?_
        exact ih.2.2 (lI L 100 ((-1879048192))) σ r h H locs ls hP hD hS (lv_sub hl [] rfl)
      · intro L σ r h H locs ls hP hD hS hl
        rw [y_X11_truth] at h
        obtain rfl := Option.some.inj h
        exact W.iret (v := (L.1 100)) hx hb hr (fun t ht hW => ⟨⟨(L.1 100), (), rfl, rfl, by rw [ht]; exact hP, va_K.moved hW.alike hK, hD⟩, hS.F ht⟩) hS.2.2 dX11_truth_11
  exact (blk k0).1 L0 σ0 r0 h0 s.heap [] ls hP hD hS hl
/-! X0_holds -/
def y_X0_holds : Nat → Nat → LV → CS → Option (Int32 × CS)
  | 0, _, _, _ => none
  | k + 1, 0, L, σ => oc (y_X0_placeOf k 0 (lI (lI (lI lZ 1 ((L.1 1))) 2 0) 3 ((L.1 2))) σ) (fun r1 => oc (y_X1_length k 0 (lI lZ 1 ((L.1 1))) r1.2) (fun r2 => if r2.1 ≤ r1.1 then (y_X0_holds k 1 L r2.2) else (oc (y_X1_member k 0 (lI (lI lZ 1 ((L.1 1))) 2 r1.1) r2.2) (fun r4 => oc (y_X1_same k 0 (lI (lI lZ 1 r4.1) 2 ((L.1 2))) r4.2) (fun r5 => if r5.1 = 0 then (y_X0_holds k 1 L r5.2) else (y_X0_holds k 2 (lI L 100 1) r5.2))))))
  | k + 1, 1, L, σ => y_X0_holds k 2 (lI L 100 0) σ
  | k + 1, 2, L, σ => if ((L.1 100)) = 0 ∨ ((L.1 100)) = 1 then some ((L.1 100), σ) else none
  | _ + 1, _ + 3, _, _ => none
def o_y_X0_holds : List Cond := [.methodLink RX0 157 yX0_placeOf, .instanceMethod yX0_placeOf, .selects RX0 yX0_placeOf yX0_placeOf, .initialized RX0, .fieldLink RX0 22 "SetHouse$Algebra" "heap" "LSetHouse$Heap;", .methodLink RX0 100 yX1_length, .instanceMethod yX1_length, .selects RX1 yX1_length yX1_length, .initialized RX1, .methodLink RX0 154 yX1_member, .instanceMethod yX1_member, .selects RX1 yX1_member yX1_member, .methodLink RX0 60 yX1_same, .instanceMethod yX1_same, .selects RX1 yX1_same yX1_same]
theorem o_y_X0_holds_good : o_y_X0_holds.all goodWord = true := by decide +kernel
def p_y_X0_holds : List Cond := o_y_X0_holds ++ ((.code yX0_placeOf cX0_placeOf 8 (some .int) :: p_y_X0_placeOf) ++ ((.code yX1_length cX1_length 2 (some .int) :: p_y_X1_length) ++ ((.code yX1_member cX1_member 3 (some .int) :: p_y_X1_member) ++ ((.code yX1_same cX1_same 3 (some .boolean) :: p_y_X1_same) ++ []))))
theorem p_y_X0_holds_good : p_y_X0_holds.all goodWord = true := nb_all2 o_y_X0_holds_good (nb_all2 (nb_allc (by decide +kernel) p_y_X0_placeOf_good) (nb_all2 (nb_allc (by decide +kernel) p_y_X1_length_good) (nb_all2 (nb_allc (by decide +kernel) p_y_X1_member_good) (nb_all2 (nb_allc (by decide +kernel) p_y_X1_same_good) rfl))))
def w_y_X0_holds : List Cond := .code yX0_holds cX0_holds 4 (some .boolean) :: (p_y_X0_holds ++ fC)
theorem w_y_X0_holds_good : w_y_X0_holds.all goodWord = true := nb_allc (by decide +kernel) (nb_all2 p_y_X0_holds_good fC_good)
theorem in_y_X0_holds_X0 : ∀ w ∈ wsX00, w ∈ w_y_X0_holds := fun _ h => List.mem_cons_of_mem _ (List.mem_append_right _ (List.mem_append_left _ h))
theorem hd_y_X0_holds : yX0_holds.cls = RX0 ∧ yX0_holds.cls ≠ "java/lang/invoke/MethodHandle" ∧ yX0_holds.cls ≠ "java/lang/invoke/VarHandle" ∧ (parseMethodDescriptor yX0_holds.desc).map (fun d => d.parameters.length) = some 2 := by decide +kernel
theorem gg_y_X0_holds_X0_placeOf : GoodIn w_y_X0_holds w_y_X0_placeOf := goodIn_sub (fun w h => (List.mem_cons.mp h).elim (fun e => (List.mem_cons_of_mem _ (List.mem_append_left _ (List.mem_append_right _ (List.mem_append_left _ (List.mem_cons.mpr (Or.inl e))))))) (fun h => (List.mem_append.mp h).elim (fun h => (List.mem_cons_of_mem _ (List.mem_append_left _ (List.mem_append_right _ (List.mem_append_left _ (List.mem_cons_of_mem _ h)))))) (fun h => List.mem_cons_of_mem _ (List.mem_append_right _ h)))) w_y_X0_placeOf_good
theorem g_y_X0_holds_X0_placeOf_V157 : GoodIn w_y_X0_holds (wsV RX0 157 RX0 yX0_placeOf w_y_X0_placeOf) := goodIn_app (nb_g4 (List.mem_cons_of_mem _ (List.mem_append_left _ (List.mem_append_left _ (List.mem_of_getElem? (i := 0) rfl)))) (List.mem_cons_of_mem _ (List.mem_append_left _ (List.mem_append_left _ (List.mem_of_getElem? (i := 1) rfl)))) (List.mem_cons_of_mem _ (List.mem_append_left _ (List.mem_append_left _ (List.mem_of_getElem? (i := 2) rfl)))) (List.mem_cons_of_mem _ (List.mem_append_left _ (List.mem_append_left _ (List.mem_of_getElem? (i := 3) rfl)))) (by decide +kernel)) gg_y_X0_holds_X0_placeOf
theorem gg_y_X0_holds_X1_length : GoodIn w_y_X0_holds w_y_X1_length := goodIn_sub (fun w h => (List.mem_cons.mp h).elim (fun e => (List.mem_cons_of_mem _ (List.mem_append_left _ (List.mem_append_right _ (List.mem_append_right _ (List.mem_append_left _ (List.mem_cons.mpr (Or.inl e)))))))) (fun h => (List.mem_append.mp h).elim (fun h => (List.mem_cons_of_mem _ (List.mem_append_left _ (List.mem_append_right _ (List.mem_append_right _ (List.mem_append_left _ (List.mem_cons_of_mem _ h))))))) (fun h => List.mem_cons_of_mem _ (List.mem_append_right _ h)))) w_y_X1_length_good
theorem g_y_X0_holds_X1_length_V100 : GoodIn w_y_X0_holds (wsV RX0 100 RX1 yX1_length w_y_X1_length) := goodIn_app (nb_g4 (List.mem_cons_of_mem _ (List.mem_append_left _ (List.mem_append_left _ (List.mem_of_getElem? (i := 5) rfl)))) (List.mem_cons_of_mem _ (List.mem_append_left _ (List.mem_append_left _ (List.mem_of_getElem? (i := 6) rfl)))) (List.mem_cons_of_mem _ (List.mem_append_left _ (List.mem_append_left _ (List.mem_of_getElem? (i := 7) rfl)))) (List.mem_cons_of_mem _ (List.mem_append_left _ (List.mem_append_left _ (List.mem_of_getElem? (i := 8) rfl)))) (by decide +kernel)) gg_y_X0_holds_X1_length
theorem gg_y_X0_holds_X1_member : GoodIn w_y_X0_holds w_y_X1_member := goodIn_sub (fun w h => (List.mem_cons.mp h).elim (fun e => (List.mem_cons_of_mem _ (List.mem_append_left _ (List.mem_append_right _ (List.mem_append_right _ (List.mem_append_right _ (List.mem_append_left _ (List.mem_cons.mpr (Or.inl e))))))))) (fun h => (List.mem_append.mp h).elim (fun h => (List.mem_cons_of_mem _ (List.mem_append_left _ (List.mem_append_right _ (List.mem_append_right _ (List.mem_append_right _ (List.mem_append_left _ (List.mem_cons_of_mem _ h)))))))) (fun h => List.mem_cons_of_mem _ (List.mem_append_right _ h)))) w_y_X1_member_good
theorem g_y_X0_holds_X1_member_V154 : GoodIn w_y_X0_holds (wsV RX0 154 RX1 yX1_member w_y_X1_member) := goodIn_app (nb_g4 (List.mem_cons_of_mem _ (List.mem_append_left _ (List.mem_append_left _ (List.mem_of_getElem? (i := 9) rfl)))) (List.mem_cons_of_mem _ (List.mem_append_left _ (List.mem_append_left _ (List.mem_of_getElem? (i := 10) rfl)))) (List.mem_cons_of_mem _ (List.mem_append_left _ (List.mem_append_left _ (List.mem_of_getElem? (i := 11) rfl)))) (List.mem_cons_of_mem _ (List.mem_append_left _ (List.mem_append_left _ (List.mem_of_getElem? (i := 8) rfl)))) (by decide +kernel)) gg_y_X0_holds_X1_member
theorem gg_y_X0_holds_X1_same : GoodIn w_y_X0_holds w_y_X1_same := goodIn_sub (fun w h => (List.mem_cons.mp h).elim (fun e => (List.mem_cons_of_mem _ (List.mem_append_left _ (List.mem_append_right _ (List.mem_append_right _ (List.mem_append_right _ (List.mem_append_right _ (List.mem_append_left _ (List.mem_cons.mpr (Or.inl e)))))))))) (fun h => (List.mem_append.mp h).elim (fun h => (List.mem_cons_of_mem _ (List.mem_append_left _ (List.mem_append_right _ (List.mem_append_right _ (List.mem_append_right _ (List.mem_append_right _ (List.mem_append_left _ (List.mem_cons_of_mem _ h))))))))) (fun h => List.mem_cons_of_mem _ (List.mem_append_right _ h)))) w_y_X1_same_good
theorem g_y_X0_holds_X1_same_V60 : GoodIn w_y_X0_holds (wsV RX0 60 RX1 yX1_same w_y_X1_same) := goodIn_app (nb_g4 (List.mem_cons_of_mem _ (List.mem_append_left _ (List.mem_append_left _ (List.mem_of_getElem? (i := 12) rfl)))) (List.mem_cons_of_mem _ (List.mem_append_left _ (List.mem_append_left _ (List.mem_of_getElem? (i := 13) rfl)))) (List.mem_cons_of_mem _ (List.mem_append_left _ (List.mem_append_left _ (List.mem_of_getElem? (i := 14) rfl)))) (List.mem_cons_of_mem _ (List.mem_append_left _ (List.mem_append_left _ (List.mem_of_getElem? (i := 8) rfl)))) (by decide +kernel)) gg_y_X0_holds_X1_same
set_option maxHeartbeats 40000000 in
set_option maxRecDepth 100000 in
theorem c_y_X0_holds (l : Launch) (dC : Nat → ClassId) (dI : Nat → Nat → Nat) (cy : Nat → ClassId) (a z : Nat → Nat) (k0 : Nat) (L0 : LV) (σ0 : CS) (r0 : Int32 × CS) (h0 : y_X0_holds k0 0 L0 σ0 = some r0) (sz : Nat) : Met l yX0_holds w_y_X0_holds ({ frames := 63, cells := 0, slots := 0, locals := 1765 }) (va_Pc [.ref (a 14), .int (L0.1 1), .int (L0.1 2)] (nIn (dC, dI) cy sz (vC cy a z σ0))) (va_Qi (fun (x : Int32) (_ : Unit) => x = r0.1) (fun _ t => nOut (dC, dI) cy (va_A (vC cy a z σ0) sz) (vC cy a z r0.2) t) (va_A (vC cy a z σ0) sz)) 0 0 (va_A (vC cy a z σ0) sz) := by
  refine Met.ofW (cc := cX0_holds) (maxL := 4) (ret := (some .boolean)) (by decide) rfl ?_
  intro p e s m args below meth c s₁ B hml hv
  obtain ⟨rfl, hsz, hP, hK, hD0, hG⟩ := hv
  have hx := B.exec
  have hb := B.bytes
  have hr := B.returns
  have hts := atoms_spec (ws := w_y_X0_holds) B.pre
  have hown : s.vm.findClass RX0 = some m.cls := findClass_of_methodNamed B.named
  have hlocks := B.notSynchronized
  subst hsz
  have hD := hD0.self (sz := s.heap.size)
  generalize hAe : va_A (vC cy a z σ0) s.heap.size = A at hD ⊢
  have hA : ∀ q : Nat, s.heap.size ≤ q → A q := fun q h => by rw [← hAe]; exact Or.inr h
  have hS : va_S A s.heap s.heap [] := va_S.rf
  have hl := lv_entry ([.ref (a 14), .int (L0.1 1), .int (L0.1 2)]) (n := 4) (Nat.le_of_ble_eq_true rfl)
  rw [lg_entry_eq]
  generalize (lg_sl ([.ref (a 14), .int (L0.1 1), .int (L0.1 2)]) ++ List.replicate (4 - (lg_sl ([.ref (a 14), .int (L0.1 1), .int (L0.1 2)])).length) Slot.unset).toArray = ls at hl ⊢
  have hl : lv_has ls 4 [(0, .ref (a 14)), (1, .int (L0.1 1)), (2, .int (L0.1 2))] := hl
  have blk : ∀ k : Nat, (bC p l e (headSpec w_y_X0_holds ({ frames := 63, cells := 0, slots := 0, locals := 1765 })).room s m #[.ref (a 14), .int (L0.1 1), .int (L0.1 2)] below meth c dC dI cy a z A (kI dC dI cy a z A below #[.ref (a 14), .int (L0.1 1), .int (L0.1 2)] s) 4 (y_X0_holds k 0) (fun L => [(0, .ref (a 14)), (1, .int (L.1 1)), (2, .int (L.1 2))]) 0 (fun L => [])) ∧ (bC p l e (headSpec w_y_X0_holds ({ frames := 63, cells := 0, slots := 0, locals := 1765 })).room s m #[.ref (a 14), .int (L0.1 1), .int (L0.1 2)] below meth c dC dI cy a z A (kI dC dI cy a z A below #[.ref (a 14), .int (L0.1 1), .int (L0.1 2)] s) 4 (y_X0_holds k 1) (fun L => []) 44 (fun L => [])) ∧ (bC p l e (headSpec w_y_X0_holds ({ frames := 63, cells := 0, slots := 0, locals := 1765 })).room s m #[.ref (a 14), .int (L0.1 1), .int (L0.1 2)] below meth c dC dI cy a z A (kI dC dI cy a z A below #[.ref (a 14), .int (L0.1 1), .int (L0.1 2)] s) 4 (y_X0_holds k 2) (fun L => []) 45 (fun L => [.int (L.1 100)])) := by
    intro k
    induction k with
    | zero => exact ⟨fun L σ r h => (by cases h), fun L σ r h => (by cases h), fun L σ r h => (by cases h)⟩
    | succ k ih =>
      refine ⟨?_, ?_, ?_⟩
      · intro L σ r h H locs ls hP hD hS hl
        rw [y_X0_holds] at h
        refine lv_aload_n hx hb dX0_holds_0 rfl (lv_at hl 0 rfl) ?_
        refine lv_iload_n hx hb dX0_holds_1 rfl (lv_at hl 1 rfl) ?_
        refine lv_iconst (v := 0) hx hb dX0_holds_2 (by decide) ?_
        refine lv_iload_n hx hb dX0_holds_3 rfl (lv_at hl 2 rfl) ?_
        obtain ⟨r1, hc1, h⟩ := oc_ex h
        refine kc_i (va_runV (As := [.int (L.1 1), .int 0, .int (L.1 2)]) (rest := []) ⟨hx, hb, hml, hown, hts⟩ (c_y_X0_placeOf l dC dI cy a z k (lI (lI (lI lZ 1 ((L.1 1))) 2 0) 3 ((L.1 2))) σ r1 hc1 H.size) (cwV 3 hts g_y_X0_holds_X0_placeOf_V157 rfl rfl rfl hd_y_X0_placeOf ⟨Nat.le_of_ble_eq_true rfl, Nat.le_of_ble_eq_true rfl⟩) ⟨nb_blind, va_recv hK hP (ci := 0) (q0 := 14) rfl rfl, (kb_pre hK hG hP hD)⟩ rfl rfl hl.1 rfl (lv_room (Nat.le_of_ble_eq_true rfl)) dX0_holds_4 ⟨Nat.le_refl _, Nat.le_refl _⟩) hA hP hD hS (fun H locs hP hD hS => ?_)
        refine lv_istore_n (lv' := [(3, .int r1.1), (0, .ref (a 14)), (1, .int (L.1 1)), (2, .int (L.1 2))]) hx hb dX0_holds_7 rfl hl (by decide) rfl (fun ls hl => ?_)
        refine lv_iload_n hx hb dX0_holds_8 rfl (lv_at hl 0 rfl) ?_
        refine lv_aload_n hx hb dX0_holds_9 rfl (lv_at hl 1 rfl) ?_
        refine hg_14_0 hx hb hts in_y_X0_holds_X0 hown hK hP (hts _ (List.mem_cons_of_mem _ (List.mem_append_left _ (List.mem_append_left _ (List.mem_of_getElem? (i := 4) rfl))))) dX0_holds_10 ?_
        refine lv_iload_n hx hb dX0_holds_13 rfl (lv_at hl 2 rfl) ?_
        obtain ⟨r2, hc2, h⟩ := oc_ex h
        refine kc_i (va_runV (As := [.int (L.1 1)]) (rest := [.int r1.1]) ⟨hx, hb, hml, hown, hts⟩ (c_y_X1_length l dC dI cy a z k (lI lZ 1 ((L.1 1))) r1.2 r2 hc2 H.size) (cwV 1 hts g_y_X0_holds_X1_length_V100 rfl rfl rfl hd_y_X1_length ⟨Nat.le_of_ble_eq_true rfl, Nat.le_of_ble_eq_true rfl⟩) ⟨nb_blind, va_recv hK hP (ci := 1) (q0 := 0) rfl rfl, (kb_pre hK hG hP hD)⟩ rfl rfl hl.1 rfl (lv_room (Nat.le_of_ble_eq_true rfl)) dX0_holds_14 ⟨Nat.le_refl _, Nat.le_refl _⟩) hA hP hD hS (fun H locs hP hD hS => ?_)
        refine lv_icmp_ge (tgt := 44) hx hb dX0_holds_17 (by decide) (fun c3 => ?_) (fun c3 => ?_)
        · rw [if_pos c3] at h
          exact ih.2.1 L r2.2 r h H locs ls hP hD hS (lv_sub hl [] rfl)
        · rw [if_neg c3] at h
          refine lv_aload_n hx hb dX0_holds_20 rfl (lv_at hl 1 rfl) ?_
          refine hg_14_0 hx hb hts in_y_X0_holds_X0 hown hK hP (hts _ (List.mem_cons_of_mem _ (List.mem_append_left _ (List.mem_append_left _ (List.mem_of_getElem? (i := 4) rfl))))) dX0_holds_21 ?_
          refine lv_aload_n hx hb dX0_holds_24 rfl (lv_at hl 1 rfl) ?_
          refine hg_14_0 hx hb hts in_y_X0_holds_X0 hown hK hP (hts _ (List.mem_cons_of_mem _ (List.mem_append_left _ (List.mem_append_left _ (List.mem_of_getElem? (i := 4) rfl))))) dX0_holds_25 ?_
          refine lv_iload_n hx hb dX0_holds_28 rfl (lv_at hl 2 rfl) ?_
          refine lv_iload_n hx hb dX0_holds_29 rfl (lv_at hl 0 rfl) ?_
          obtain ⟨r4, hc4, h⟩ := oc_ex h
          refine kc_i (va_runV (As := [.int (L.1 1), .int r1.1]) (rest := [.ref (a 0)]) ⟨hx, hb, hml, hown, hts⟩ (c_y_X1_member l dC dI cy a z k (lI (lI lZ 1 ((L.1 1))) 2 r1.1) r2.2 r4 hc4 H.size) (cwV 2 hts g_y_X0_holds_X1_member_V154 rfl rfl rfl hd_y_X1_member ⟨Nat.le_of_ble_eq_true rfl, Nat.le_of_ble_eq_true rfl⟩) ⟨nb_blind, va_recv hK hP (ci := 1) (q0 := 0) rfl rfl, (kb_pre hK hG hP hD)⟩ rfl rfl hl.1 rfl (lv_room (Nat.le_of_ble_eq_true rfl)) dX0_holds_30 ⟨Nat.le_refl _, Nat.le_refl _⟩) hA hP hD hS (fun H locs hP hD hS => ?_)
          refine lv_iload_n hx hb dX0_holds_33 rfl (lv_at hl 3 rfl) ?_
          obtain ⟨r5, hc5, h⟩ := oc_ex h
          refine kc_i (va_runV (As := [.int r4.1, .int (L.1 2)]) (rest := []) ⟨hx, hb, hml, hown, hts⟩ (c_y_X1_same l dC dI cy a z k (lI (lI lZ 1 r4.1) 2 ((L.1 2))) r4.2 r5 hc5 H.size) (cwV 2 hts g_y_X0_holds_X1_same_V60 rfl rfl rfl hd_y_X1_same ⟨Nat.le_of_ble_eq_true rfl, Nat.le_of_ble_eq_true rfl⟩) ⟨nb_blind, va_recv hK hP (ci := 1) (q0 := 0) rfl rfl, (kb_pre hK hG hP hD)⟩ rfl rfl hl.1 rfl (lv_room (Nat.le_of_ble_eq_true rfl)) dX0_holds_34 ⟨Nat.le_refl _, Nat.le_refl _⟩) hA hP hD hS (fun H locs hP hD hS => ?_)
          refine lv_if_eq (tgt := 44) hx hb dX0_holds_37 (by decide) (fun c6 => ?_) (fun c6 => ?_)
          · rw [if_pos c6] at h
            exact ih.2.1 L r5.2 r h H locs ls hP hD hS (lv_sub hl [] rfl)
          · rw [if_neg c6] at h
            refine lv_iconst (v := 1) hx hb dX0_holds_40 (by decide) ?_
            refine lv_goto (tgt := 45) hx hb dX0_holds_41 (by decide) ?_
            exact ih.2.2 (lI L 100 1) r5.2 r h H locs ls hP hD hS (lv_sub hl [] rfl)
      · intro L σ r h H locs ls hP hD hS hl
        rw [y_X0_holds] at h
        refine lv_iconst (v := 0) hx hb dX0_holds_44 (by decide) ?_
        exact ih.2.2 (lI L 100 0) σ r h H locs ls hP hD hS (lv_sub hl [] rfl)
      · intro L σ r h H locs ls hP hD hS hl
        rw [y_X0_holds] at h
        obtain ⟨q1, h⟩ := kb_ite1 h
        obtain rfl := Option.some.inj h
        exact W.zret (v := (L.1 100)) hx hb hr (nb_bz q1) (fun t ht hW => ⟨⟨(L.1 100), (), rfl, rfl, by rw [ht]; exact hP, va_K.moved hW.alike hK, hD⟩, hS.F ht⟩) hS.2.2 dX0_holds_45
  exact (blk k0).1 L0 σ0 r0 h0 s.heap [] ls hP hD hS hl

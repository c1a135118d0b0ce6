/-! X7_newSlots__P -/
def y_X7_newSlots__P : Nat → Nat → LV → CS → Option (Int32 × CS)
  | 0, _, _, _ => none
  | k + 1, 0, L, σ => if ¬ (((L.1 1)) < 0 ∨ 42 ≤ ((L.1 1)).toNatClampNeg) then (if ¬ (((L.1 1)) < 0 ∨ 42 ≤ ((L.1 1)).toNatClampNeg) then (if ¬ (((L.1 1)) < 0 ∨ 42 ≤ ((L.1 1)).toNatClampNeg) then (some (((((uA σ (pR18 (((L.2.2.1 0)))) ((L.1 1)).toNatClampNeg ((((σ.2.2.1 (pR18 (((L.2.2.1 0)))) ((L.1 1)).toNatClampNeg)) + ((L.1 2))))).2.2.1 (pR18 (((L.2.2.1 0)))) ((L.1 1)).toNatClampNeg)) - ((L.1 2))), (uA σ (pR18 (((L.2.2.1 0)))) ((L.1 1)).toNatClampNeg ((((σ.2.2.1 (pR18 (((L.2.2.1 0)))) ((L.1 1)).toNatClampNeg)) + ((L.1 2))))))) else none) else none) else none
  | _ + 1, _ + 1, _, _ => none
def o_y_X7_newSlots__P : List Cond := [.fieldLink RX7 50 "SetHouse$Program" "frames" "[I"]
theorem o_y_X7_newSlots__P_good : o_y_X7_newSlots__P.all goodWord = true := by decide +kernel
def p_y_X7_newSlots__P : List Cond := o_y_X7_newSlots__P ++ []
theorem p_y_X7_newSlots__P_good : p_y_X7_newSlots__P.all goodWord = true := nb_all2 o_y_X7_newSlots__P_good rfl
def w_y_X7_newSlots__P : List Cond := .code yX7_newSlots cX7_newSlots 3 (some .int) :: (p_y_X7_newSlots__P ++ fC)
theorem w_y_X7_newSlots__P_good : w_y_X7_newSlots__P.all goodWord = true := nb_allc (by decide +kernel) (nb_all2 p_y_X7_newSlots__P_good fC_good)
theorem in_y_X7_newSlots__P_X7 : ∀ w ∈ wsX70, w ∈ w_y_X7_newSlots__P := fun _ h => List.mem_cons_of_mem _ (List.mem_append_right _ (List.mem_append_right _ (List.mem_append_right _ (List.mem_append_right _ (List.mem_append_right _ (List.mem_append_right _ (List.mem_append_right _ (List.mem_append_left _ h))))))))
theorem hd_y_X7_newSlots__P : yX7_newSlots.cls = RX7 ∧ yX7_newSlots.cls ≠ "java/lang/invoke/MethodHandle" ∧ yX7_newSlots.cls ≠ "java/lang/invoke/VarHandle" ∧ (parseMethodDescriptor yX7_newSlots.desc).map (fun d => d.parameters.length) = some 2 := by decide +kernel
set_option maxHeartbeats 40000000 in
set_option maxRecDepth 100000 in
theorem c_y_X7_newSlots__P (l : Launch) (dC : Nat → ClassId) (dI : Nat → Nat → Nat) (cy : Nat → ClassId) (a z : Nat → Nat) (k0 : Nat) (L0 : LV) (σ0 : CS) (r0 : Int32 × CS) (h0 : y_X7_newSlots__P k0 0 L0 σ0 = some r0) (sz : Nat) : Met l yX7_newSlots w_y_X7_newSlots__P ({ frames := 0, cells := 0, slots := 0, locals := 0 }) (va_Pc [.ref (a (pA (L0.2.2.1 0))), .int (L0.1 1), .int (L0.1 2)] (nIn (dC, dI) cy sz (vC cy a z σ0))) (va_Qi (fun (x : Int32) (_ : Unit) => x = r0.1) (fun _ t => nOut (dC, dI) cy (va_A (vC cy a z σ0) sz) (vC cy a z r0.2) t) (va_A (vC cy a z σ0) sz)) 0 0 (va_A (vC cy a z σ0) sz) := by
  refine Met.ofW (cc := cX7_newSlots) (maxL := 3) (ret := (some .int)) (by decide) rfl ?_
  intro p e s m args below meth c s₁ B hml hv
  obtain ⟨rfl, hsz, hP, hK, hD0, hG⟩ := hv
  have hx := B.exec
  have hb := B.bytes
  have hr := B.returns
  have hts := atoms_spec (ws := w_y_X7_newSlots__P) B.pre
  have hown : s.vm.findClass RX7 = some m.cls := findClass_of_methodNamed B.named
  have hlocks := B.notSynchronized
  subst hsz
  have hD := hD0.self (sz := s.heap.size)
  generalize hAe : va_A (vC cy a z σ0) s.heap.size = A at hD ⊢
  have hA : ∀ q : Nat, s.heap.size ≤ q → A q := fun q h => by rw [← hAe]; exact Or.inr h
  have hS : va_S A s.heap s.heap [] := va_S.rf
  have hl := lv_entry ([.ref (a (pA (L0.2.2.1 0))), .int (L0.1 1), .int (L0.1 2)]) (n := 3) (Nat.le_of_ble_eq_true rfl)
  rw [lg_entry_eq]
  generalize (lg_sl ([.ref (a (pA (L0.2.2.1 0))), .int (L0.1 1), .int (L0.1 2)]) ++ List.replicate (3 - (lg_sl ([.ref (a (pA (L0.2.2.1 0))), .int (L0.1 1), .int (L0.1 2)])).length) Slot.unset).toArray = ls at hl ⊢
  have hl : lv_has ls 3 [(0, .ref (a (pA (L0.2.2.1 0)))), (1, .int (L0.1 1)), (2, .int (L0.1 2))] := hl
  have blk : ∀ k : Nat, (bC p l e (headSpec w_y_X7_newSlots__P ({ frames := 0, cells := 0, slots := 0, locals := 0 })).room s m #[.ref (a (pA (L0.2.2.1 0))), .int (L0.1 1), .int (L0.1 2)] below meth c dC dI cy a z A (kI dC dI cy a z A below #[.ref (a (pA (L0.2.2.1 0))), .int (L0.1 1), .int (L0.1 2)] s) 3 (y_X7_newSlots__P k 0) (fun L => [(0, .ref (a (pA (L.2.2.1 0)))), (1, .int (L.1 1)), (2, .int (L.1 2))]) 0 (fun L => [])) := by
    intro k
    induction k with
    | zero => exact fun L σ r h => (by cases h)
    | succ k ih =>
      skip
      · intro L σ r h H locs ls hP hD hS hl
        rw [y_X7_newSlots__P] at h
        refine lv_aload_n hx hb dX7_newSlots_0 rfl (lv_at hl 0 rfl) ?_
        refine hg_P_18 ((L.2.2.1 0)) hx hb hts in_y_X7_newSlots__P_X7 hown hK hP (hts _ (List.mem_cons_of_mem _ (List.mem_append_left _ (List.mem_append_left _ (List.mem_of_getElem? (i := 0) rfl))))) dX7_newSlots_1 ?_
        refine lv_iload_n hx hb dX7_newSlots_4 rfl (lv_at hl 1 rfl) ?_
        refine lv_aload_n hx hb dX7_newSlots_5 rfl (lv_at hl 0 rfl) ?_
        refine hg_P_18 ((L.2.2.1 0)) hx hb hts in_y_X7_newSlots__P_X7 hown hK hP (hts _ (List.mem_cons_of_mem _ (List.mem_append_left _ (List.mem_append_left _ (List.mem_of_getElem? (i := 0) rfl))))) dX7_newSlots_6 ?_
        refine lv_iload_n hx hb dX7_newSlots_9 rfl (lv_at hl 1 rfl) ?_
        obtain ⟨q1, h⟩ := kb_ite1 h
        refine hl_P18 (((L.2.2.1 0))) hx hb hK hP q1 dX7_newSlots_10 ?_
        refine lv_iload_n hx hb dX7_newSlots_11 rfl (lv_at hl 2 rfl) ?_
        refine lv_iadd hx hb dX7_newSlots_12 ?_
        obtain ⟨q2, h⟩ := kb_ite1 h
        refine hs_P18 (((L.2.2.1 0))) hx hb hK hP hD hS q2 dX7_newSlots_13 (fun H locs hP hD hS => ?_)
        refine lv_aload_n hx hb dX7_newSlots_14 rfl (lv_at hl 0 rfl) ?_
        refine hg_P_18 ((L.2.2.1 0)) hx hb hts in_y_X7_newSlots__P_X7 hown hK hP (hts _ (List.mem_cons_of_mem _ (List.mem_append_left _ (List.mem_append_left _ (List.mem_of_getElem? (i := 0) rfl))))) dX7_newSlots_15 ?_
        refine lv_iload_n hx hb dX7_newSlots_18 rfl (lv_at hl 1 rfl) ?_
        obtain ⟨q3, h⟩ := kb_ite1 h
        refine hl_P18 (((L.2.2.1 0))) hx hb hK hP q3 dX7_newSlots_19 ?_
        refine lv_iload_n hx hb dX7_newSlots_20 rfl (lv_at hl 2 rfl) ?_
        refine lv_isub hx hb dX7_newSlots_21 ?_
        obtain rfl := Option.some.inj h
        exact W.iret (v := ((((uA σ (pR18 (((L.2.2.1 0)))) ((L.1 1)).toNatClampNeg ((((σ.2.2.1 (pR18 (((L.2.2.1 0)))) ((L.1 1)).toNatClampNeg)) + ((L.1 2))))).2.2.1 (pR18 (((L.2.2.1 0)))) ((L.1 1)).toNatClampNeg)) - ((L.1 2)))) hx hb hr (fun t ht hW => ⟨⟨((((uA σ (pR18 (((L.2.2.1 0)))) ((L.1 1)).toNatClampNeg ((((σ.2.2.1 (pR18 (((L.2.2.1 0)))) ((L.1 1)).toNatClampNeg)) + ((L.1 2))))).2.2.1 (pR18 (((L.2.2.1 0)))) ((L.1 1)).toNatClampNeg)) - ((L.1 2))), (), rfl, rfl, by rw [ht]; exact hP, va_K.moved hW.alike hK, hD⟩, hS.F ht⟩) hS.2.2 dX7_newSlots_22
  exact (blk k0) L0 σ0 r0 h0 s.heap [] ls hP hD hS hl
/-! X7_newPassing__P -/
def y_X7_newPassing__P : Nat → Nat → LV → CS → Option (Int32 × CS)
  | 0, _, _, _ => none
  | k + 1, 0, L, σ => some (((((uI σ (fP ((L.2.2.1 0)) 19) ((((σ.1 (fP ((L.2.2.1 0)) 19))) + ((L.1 1))))).1 (fP ((L.2.2.1 0)) 19))) - ((L.1 1))), (uI σ (fP ((L.2.2.1 0)) 19) ((((σ.1 (fP ((L.2.2.1 0)) 19))) + ((L.1 1))))))
  | _ + 1, _ + 1, _, _ => none
def o_y_X7_newPassing__P : List Cond := [.fieldLink RX7 82 "SetHouse$Program" "passing" "I"]
theorem o_y_X7_newPassing__P_good : o_y_X7_newPassing__P.all goodWord = true := by decide +kernel
def p_y_X7_newPassing__P : List Cond := o_y_X7_newPassing__P ++ []
theorem p_y_X7_newPassing__P_good : p_y_X7_newPassing__P.all goodWord = true := nb_all2 o_y_X7_newPassing__P_good rfl
def w_y_X7_newPassing__P : List Cond := .code yX7_newPassing cX7_newPassing 2 (some .int) :: (p_y_X7_newPassing__P ++ fC)
theorem w_y_X7_newPassing__P_good : w_y_X7_newPassing__P.all goodWord = true := nb_allc (by decide +kernel) (nb_all2 p_y_X7_newPassing__P_good fC_good)
theorem in_y_X7_newPassing__P_X7 : ∀ w ∈ wsX70, w ∈ w_y_X7_newPassing__P := fun _ h => List.mem_cons_of_mem _ (List.mem_append_right _ (List.mem_append_right _ (List.mem_append_right _ (List.mem_append_right _ (List.mem_append_right _ (List.mem_append_right _ (List.mem_append_right _ (List.mem_append_left _ h))))))))
theorem hd_y_X7_newPassing__P : yX7_newPassing.cls = RX7 ∧ yX7_newPassing.cls ≠ "java/lang/invoke/MethodHandle" ∧ yX7_newPassing.cls ≠ "java/lang/invoke/VarHandle" ∧ (parseMethodDescriptor yX7_newPassing.desc).map (fun d => d.parameters.length) = some 1 := by decide +kernel
set_option maxHeartbeats 40000000 in
set_option maxRecDepth 100000 in
theorem c_y_X7_newPassing__P (l : Launch) (dC : Nat → ClassId) (dI : Nat → Nat → Nat) (cy : Nat → ClassId) (a z : Nat → Nat) (k0 : Nat) (L0 : LV) (σ0 : CS) (r0 : Int32 × CS) (h0 : y_X7_newPassing__P k0 0 L0 σ0 = some r0) (sz : Nat) : Met l yX7_newPassing w_y_X7_newPassing__P ({ frames := 0, cells := 0, slots := 0, locals := 0 }) (va_Pc [.ref (a (pA (L0.2.2.1 0))), .int (L0.1 1)] (nIn (dC, dI) cy sz (vC cy a z σ0))) (va_Qi (fun (x : Int32) (_ : Unit) => x = r0.1) (fun _ t => nOut (dC, dI) cy (va_A (vC cy a z σ0) sz) (vC cy a z r0.2) t) (va_A (vC cy a z σ0) sz)) 0 0 (va_A (vC cy a z σ0) sz) := by
  refine Met.ofW (cc := cX7_newPassing) (maxL := 2) (ret := (some .int)) (by decide) rfl ?_
  intro p e s m args below meth c s₁ B hml hv
  obtain ⟨rfl, hsz, hP, hK, hD0, hG⟩ := hv
  have hx := B.exec
  have hb := B.bytes
  have hr := B.returns
  have hts := atoms_spec (ws := w_y_X7_newPassing__P) B.pre
  have hown : s.vm.findClass RX7 = some m.cls := findClass_of_methodNamed B.named
  have hlocks := B.notSynchronized
  subst hsz
  have hD := hD0.self (sz := s.heap.size)
  generalize hAe : va_A (vC cy a z σ0) s.heap.size = A at hD ⊢
  have hA : ∀ q : Nat, s.heap.size ≤ q → A q := fun q h => by rw [← hAe]; exact Or.inr h
  have hS : va_S A s.heap s.heap [] := va_S.rf
  have hl := lv_entry ([.ref (a (pA (L0.2.2.1 0))), .int (L0.1 1)]) (n := 2) (Nat.le_of_ble_eq_true rfl)
  rw [lg_entry_eq]
  generalize (lg_sl ([.ref (a (pA (L0.2.2.1 0))), .int (L0.1 1)]) ++ List.replicate (2 - (lg_sl ([.ref (a (pA (L0.2.2.1 0))), .int (L0.1 1)])).length) Slot.unset).toArray = ls at hl ⊢
  have hl : lv_has ls 2 [(0, .ref (a (pA (L0.2.2.1 0)))), (1, .int (L0.1 1))] := hl
  have blk : ∀ k : Nat, (bC p l e (headSpec w_y_X7_newPassing__P ({ frames := 0, cells := 0, slots := 0, locals := 0 })).room s m #[.ref (a (pA (L0.2.2.1 0))), .int (L0.1 1)] below meth c dC dI cy a z A (kI dC dI cy a z A below #[.ref (a (pA (L0.2.2.1 0))), .int (L0.1 1)] s) 2 (y_X7_newPassing__P k 0) (fun L => [(0, .ref (a (pA (L.2.2.1 0)))), (1, .int (L.1 1))]) 0 (fun L => [])) := by
    intro k
    induction k with
    | zero => exact fun L σ r h => (by cases h)
    | succ k ih =>
      skip
      · intro L σ r h H locs ls hP hD hS hl
        rw [y_X7_newPassing__P] at h
        refine lv_aload_n hx hb dX7_newPassing_0 rfl (lv_at hl 0 rfl) ?_
        refine lv_aload_n hx hb dX7_newPassing_1 rfl (lv_at hl 0 rfl) ?_
        refine hg_P_19 ((L.2.2.1 0)) hx hb hts in_y_X7_newPassing__P_X7 hown hK hP (hts _ (List.mem_cons_of_mem _ (List.mem_append_left _ (List.mem_append_left _ (List.mem_of_getElem? (i := 0) rfl))))) dX7_newPassing_2 ?_
        refine lv_iload_n hx hb dX7_newPassing_5 rfl (lv_at hl 1 rfl) ?_
        refine lv_iadd hx hb dX7_newPassing_6 ?_
        refine hp_P_19 ((L.2.2.1 0)) hx hb hts in_y_X7_newPassing__P_X7 hown hK hP hD hS (hts _ (List.mem_cons_of_mem _ (List.mem_append_left _ (List.mem_append_left _ (List.mem_of_getElem? (i := 0) rfl))))) dX7_newPassing_7 (fun H locs hP hD hS => ?_)
        refine lv_aload_n hx hb dX7_newPassing_10 rfl (lv_at hl 0 rfl) ?_
        refine hg_P_19 ((L.2.2.1 0)) hx hb hts in_y_X7_newPassing__P_X7 hown hK hP (hts _ (List.mem_cons_of_mem _ (List.mem_append_left _ (List.mem_append_left _ (List.mem_of_getElem? (i := 0) rfl))))) dX7_newPassing_11 ?_
        refine lv_iload_n hx hb dX7_newPassing_14 rfl (lv_at hl 1 rfl) ?_
        refine lv_isub hx hb dX7_newPassing_15 ?_
        obtain rfl := Option.some.inj h
        exact W.iret (v := ((((uI σ (fP ((L.2.2.1 0)) 19) ((((σ.1 (fP ((L.2.2.1 0)) 19))) + ((L.1 1))))).1 (fP ((L.2.2.1 0)) 19))) - ((L.1 1)))) hx hb hr (fun t ht hW => ⟨⟨((((uI σ (fP ((L.2.2.1 0)) 19) ((((σ.1 (fP ((L.2.2.1 0)) 19))) + ((L.1 1))))).1 (fP ((L.2.2.1 0)) 19))) - ((L.1 1))), (), rfl, rfl, by rw [ht]; exact hP, va_K.moved hW.alike hK, hD⟩, hS.F ht⟩) hS.2.2 dX7_newPassing_16
  exact (blk k0) L0 σ0 r0 h0 s.heap [] ls hP hD hS hl
/-! X9_drop -/
def y_X9_drop : Nat → Nat → LV → CS → Option (Int32 × CS)
  | 0, _, _, _ => none
  | k + 1, 0, L, σ => y_X9_drop k 1 L (uI (uI (uI σ 2403 0) 2404 0) 2405 0)
  | k + 1, 1, L, σ => some (0, σ)
  | _ + 1, _ + 2, _, _ => none
def o_y_X9_drop : List Cond := [.fieldLink RX9 38 "SetHouse$Saves" "filled" "I", .fieldLink RX9 41 "SetHouse$Saves" "saved" "I", .fieldLink RX9 44 "SetHouse$Saves" "near" "Z"]
theorem o_y_X9_drop_good : o_y_X9_drop.all goodWord = true := by decide +kernel
def p_y_X9_drop : List Cond := o_y_X9_drop ++ []
theorem p_y_X9_drop_good : p_y_X9_drop.all goodWord = true := nb_all2 o_y_X9_drop_good rfl
def w_y_X9_drop : List Cond := .code yX9_drop cX9_drop 1 none :: (p_y_X9_drop ++ fC)
theorem w_y_X9_drop_good : w_y_X9_drop.all goodWord = true := nb_allc (by decide +kernel) (nb_all2 p_y_X9_drop_good fC_good)
theorem in_y_X9_drop_X9 : ∀ w ∈ wsX90, w ∈ w_y_X9_drop := fun _ h => List.mem_cons_of_mem _ (List.mem_append_right _ (List.mem_append_right _ (List.mem_append_right _ (List.mem_append_right _ (List.mem_append_right _ (List.mem_append_right _ (List.mem_append_right _ (List.mem_append_right _ (List.mem_append_right _ (List.mem_append_left _ h))))))))))
theorem hd_y_X9_drop : yX9_drop.cls = RX9 ∧ yX9_drop.cls ≠ "java/lang/invoke/MethodHandle" ∧ yX9_drop.cls ≠ "java/lang/invoke/VarHandle" ∧ (parseMethodDescriptor yX9_drop.desc).map (fun d => d.parameters.length) = some 0 := by decide +kernel
set_option maxHeartbeats 40000000 in
set_option maxRecDepth 100000 in
theorem c_y_X9_drop (l : Launch) (dC : Nat → ClassId) (dI : Nat → Nat → Nat) (cy : Nat → ClassId) (a z : Nat → Nat) (k0 : Nat) (L0 : LV) (σ0 : CS) (r0 : Int32 × CS) (h0 : y_X9_drop k0 0 L0 σ0 = some r0) (sz : Nat) : Met l yX9_drop w_y_X9_drop ({ frames := 0, cells := 0, slots := 0, locals := 0 }) (va_Pc [.ref (a 24)] (nIn (dC, dI) cy sz (vC cy a z σ0))) (va_Qv (fun _ : Unit => True) (fun _ t => nOut (dC, dI) cy (va_A (vC cy a z σ0) sz) (vC cy a z r0.2) t) (va_A (vC cy a z σ0) sz)) 0 0 (va_A (vC cy a z σ0) sz) := by
  refine Met.ofW (cc := cX9_drop) (maxL := 1) (ret := none) (by decide) rfl ?_
  intro p e s m args below meth c s₁ B hml hv
  obtain ⟨rfl, hsz, hP, hK, hD0, hG⟩ := hv
  have hx := B.exec
  have hb := B.bytes
  have hr := B.returns
  have hts := atoms_spec (ws := w_y_X9_drop) B.pre
  have hown : s.vm.findClass RX9 = some m.cls := findClass_of_methodNamed B.named
  have hlocks := B.notSynchronized
  subst hsz
  have hD := hD0.self (sz := s.heap.size)
  generalize hAe : va_A (vC cy a z σ0) s.heap.size = A at hD ⊢
  have hA : ∀ q : Nat, s.heap.size ≤ q → A q := fun q h => by rw [← hAe]; exact Or.inr h
  have hS : va_S A s.heap s.heap [] := va_S.rf
  have hl := lv_entry ([.ref (a 24)]) (n := 1) (Nat.le_of_ble_eq_true rfl)
  rw [lg_entry_eq]
  generalize (lg_sl ([.ref (a 24)]) ++ List.replicate (1 - (lg_sl ([.ref (a 24)])).length) Slot.unset).toArray = ls at hl ⊢
  have hl : lv_has ls 1 [(0, .ref (a 24))] := hl
  have blk : ∀ k : Nat, (bC p l e (headSpec w_y_X9_drop ({ frames := 0, cells := 0, slots := 0, locals := 0 })).room s m #[.ref (a 24)] below meth c dC dI cy a z A (kV dC dI cy a z A below #[.ref (a 24)] s) 1 (y_X9_drop k 0) (fun L => [(0, .ref (a 24))]) 0 (fun L => [])) ∧ (bC p l e (headSpec w_y_X9_drop ({ frames := 0, cells := 0, slots := 0, locals := 0 })).room s m #[.ref (a 24)] below meth c dC dI cy a z A (kV dC dI cy a z A below #[.ref (a 24)] s) 1 (y_X9_drop k 1) (fun L => []) 15 (fun L => [])) := by
    intro k
    induction k with
    | zero => exact ⟨fun L σ r h => (by cases h), fun L σ r h => (by cases h)⟩
    | succ k ih =>
      refine ⟨?_, ?_⟩
      · intro L σ r h H locs ls hP hD hS hl
        rw [y_X9_drop] at h
        refine lv_aload_n hx hb dX9_drop_0 rfl (lv_at hl 0 rfl) ?_
        refine lv_iconst (v := 0) hx hb dX9_drop_1 (by decide) ?_
        refine hp_24_3 hx hb hts in_y_X9_drop_X9 hown hK hP hD hS (hts _ (List.mem_cons_of_mem _ (List.mem_append_left _ (List.mem_append_left _ (List.mem_of_getElem? (i := 0) rfl))))) dX9_drop_2 (fun H locs hP hD hS => ?_)
        refine lv_aload_n hx hb dX9_drop_5 rfl (lv_at hl 0 rfl) ?_
        refine lv_iconst (v := 0) hx hb dX9_drop_6 (by decide) ?_
        refine hp_24_4 hx hb hts in_y_X9_drop_X9 hown hK hP hD hS (hts _ (List.mem_cons_of_mem _ (List.mem_append_left _ (List.mem_append_left _ (List.mem_of_getElem? (i := 1) rfl))))) dX9_drop_7 (fun H locs hP hD hS => ?_)
        refine lv_aload_n hx hb dX9_drop_10 rfl (lv_at hl 0 rfl) ?_
        refine lv_iconst (v := 0) hx hb dX9_drop_11 (by decide) ?_
        refine hp_24_5 hx hb hts in_y_X9_drop_X9 hown hK hP hD hS (hts _ (List.mem_cons_of_mem _ (List.mem_append_left _ (List.mem_append_left _ (List.mem_of_getElem? (i := 2) rfl))))) (Or.inl rfl) dX9_drop_12 (fun H locs hP hD hS => ?_)
        exact ih.2 L (uI (uI (uI σ 2403 0) 2404 0) 2405 0) r h H locs ls hP hD hS (lv_sub hl [] rfl)
      · intro L σ r h H locs ls hP hD hS hl
        rw [y_X9_drop] at h
        obtain rfl := Option.some.inj h
        exact W.vret hx hb hr (fun t ht hW => ⟨⟨(), rfl, trivial, by rw [ht]; exact hP, va_K.moved hW.alike hK, hD⟩, hS.F ht⟩) hS.2.2 dX9_drop_15
  exact (blk k0).1 L0 σ0 r0 h0 s.heap [] ls hP hD hS hl
/-! X9_empty -/
def y_X9_empty : Nat → Nat → LV → CS → Option (Int32 × CS)
  | 0, _, _, _ => none
  | k + 1, 0, L, σ => oc (y_X9_drop k 0 lZ σ) (fun r1 => y_X9_empty k 1 L (uI (uI (uI r1.2 2406 256) 2407 (((uI r1.2 2406 256).1 2406))) 2408 ((-1))))
  | k + 1, 1, L, σ => some (0, σ)
  | _ + 1, _ + 2, _, _ => none
def o_y_X9_empty : List Cond := [.methodLink RX9 29 yX9_drop, .instanceMethod yX9_drop, .selects RX9 yX9_drop yX9_drop, .initialized RX9, .fieldLink RX9 24 "SetHouse$Saves" "gap" "I", .fieldLink RX9 32 "SetHouse$Saves" "nextAt" "I", .fieldLink RX9 35 "SetHouse$Saves" "nearAt" "I"]
theorem o_y_X9_empty_good : o_y_X9_empty.all goodWord = true := by decide +kernel
def p_y_X9_empty : List Cond := o_y_X9_empty ++ ((.code yX9_drop cX9_drop 1 none :: p_y_X9_drop) ++ [])
theorem p_y_X9_empty_good : p_y_X9_empty.all goodWord = true := nb_all2 o_y_X9_empty_good (nb_all2 (nb_allc (by decide +kernel) p_y_X9_drop_good) rfl)
def w_y_X9_empty : List Cond := .code yX9_empty cX9_empty 1 none :: (p_y_X9_empty ++ fC)
theorem w_y_X9_empty_good : w_y_X9_empty.all goodWord = true := nb_allc (by decide +kernel) (nb_all2 p_y_X9_empty_good fC_good)
theorem in_y_X9_empty_X9 : ∀ w ∈ wsX90, w ∈ w_y_X9_empty := fun _ h => List.mem_cons_of_mem _ (List.mem_append_right _ (List.mem_append_right _ (List.mem_append_right _ (List.mem_append_right _ (List.mem_append_right _ (List.mem_append_right _ (List.mem_append_right _ (List.mem_append_right _ (List.mem_append_right _ (List.mem_append_left _ h))))))))))
theorem hd_y_X9_empty : yX9_empty.cls = RX9 ∧ yX9_empty.cls ≠ "java/lang/invoke/MethodHandle" ∧ yX9_empty.cls ≠ "java/lang/invoke/VarHandle" ∧ (parseMethodDescriptor yX9_empty.desc).map (fun d => d.parameters.length) = some 0 := by decide +kernel
theorem gg_y_X9_empty_X9_drop : GoodIn w_y_X9_empty w_y_X9_drop := goodIn_sub (fun w h => (List.mem_cons.mp h).elim (fun e => (List.mem_cons_of_mem _ (List.mem_append_left _ (List.mem_append_right _ (List.mem_append_left _ (List.mem_cons.mpr (Or.inl e))))))) (fun h => (List.mem_append.mp h).elim (fun h => (List.mem_cons_of_mem _ (List.mem_append_left _ (List.mem_append_right _ (List.mem_append_left _ (List.mem_cons_of_mem _ h)))))) (fun h => List.mem_cons_of_mem _ (List.mem_append_right _ h)))) w_y_X9_drop_good
theorem g_y_X9_empty_X9_drop_V29 : GoodIn w_y_X9_empty (wsV RX9 29 RX9 yX9_drop w_y_X9_drop) := goodIn_app (nb_g4 (List.mem_cons_of_mem _ (List.mem_append_left _ (List.mem_append_left _ (List.mem_of_getElem? (i := 0) rfl)))) (List.mem_cons_of_mem _ (List.mem_append_left _ (List.mem_append_left _ (List.mem_of_getElem? (i := 1) rfl)))) (List.mem_cons_of_mem _ (List.mem_append_left _ (List.mem_append_left _ (List.mem_of_getElem? (i := 2) rfl)))) (List.mem_cons_of_mem _ (List.mem_append_left _ (List.mem_append_left _ (List.mem_of_getElem? (i := 3) rfl)))) (by decide +kernel)) gg_y_X9_empty_X9_drop
set_option maxHeartbeats 40000000 in
set_option maxRecDepth 100000 in
theorem c_y_X9_empty (l : Launch) (dC : Nat → ClassId) (dI : Nat → Nat → Nat) (cy : Nat → ClassId) (a z : Nat → Nat) (k0 : Nat) (L0 : LV) (σ0 : CS) (r0 : Int32 × CS) (h0 : y_X9_empty k0 0 L0 σ0 = some r0) (sz : Nat) : Met l yX9_empty w_y_X9_empty ({ frames := 1, cells := 0, slots := 0, locals := 20 }) (va_Pc [.ref (a 24)] (nIn (dC, dI) cy sz (vC cy a z σ0))) (va_Qv (fun _ : Unit => True) (fun _ t => nOut (dC, dI) cy (va_A (vC cy a z σ0) sz) (vC cy a z r0.2) t) (va_A (vC cy a z σ0) sz)) 0 0 (va_A (vC cy a z σ0) sz) := by
  refine Met.ofW (cc := cX9_empty) (maxL := 1) (ret := none) (by decide) rfl ?_
  intro p e s m args below meth c s₁ B hml hv
  obtain ⟨rfl, hsz, hP, hK, hD0, hG⟩ := hv
  have hx := B.exec
  have hb := B.bytes
  have hr := B.returns
  have hts := atoms_spec (ws := w_y_X9_empty) B.pre
  have hown : s.vm.findClass RX9 = some m.cls := findClass_of_methodNamed B.named
  have hlocks := B.notSynchronized
  subst hsz
  have hD := hD0.self (sz := s.heap.size)
  generalize hAe : va_A (vC cy a z σ0) s.heap.size = A at hD ⊢
  have hA : ∀ q : Nat, s.heap.size ≤ q → A q := fun q h => by rw [← hAe]; exact Or.inr h
  have hS : va_S A s.heap s.heap [] := va_S.rf
  have hl := lv_entry ([.ref (a 24)]) (n := 1) (Nat.le_of_ble_eq_true rfl)
  rw [lg_entry_eq]
  generalize (lg_sl ([.ref (a 24)]) ++ List.replicate (1 - (lg_sl ([.ref (a 24)])).length) Slot.unset).toArray = ls at hl ⊢
  have hl : lv_has ls 1 [(0, .ref (a 24))] := hl
  have blk : ∀ k : Nat, (bC p l e (headSpec w_y_X9_empty ({ frames := 1, cells := 0, slots := 0, locals := 20 })).room s m #[.ref (a 24)] below meth c dC dI cy a z A (kV dC dI cy a z A below #[.ref (a 24)] s) 1 (y_X9_empty k 0) (fun L => [(0, .ref (a 24))]) 0 (fun L => [])) ∧ (bC p l e (headSpec w_y_X9_empty ({ frames := 1, cells := 0, slots := 0, locals := 20 })).room s m #[.ref (a 24)] below meth c dC dI cy a z A (kV dC dI cy a z A below #[.ref (a 24)] s) 1 (y_X9_empty k 1) (fun L => []) 24 (fun L => [])) := by
    intro k
    induction k with
    | zero => exact ⟨fun L σ r h => (by cases h), fun L σ r h => (by cases h)⟩
    | succ k ih =>
      refine ⟨?_, ?_⟩
      · intro L σ r h H locs ls hP hD hS hl
        rw [y_X9_empty] at h
        refine lv_aload_n hx hb dX9_empty_0 rfl (lv_at hl 0 rfl) ?_
        obtain ⟨r1, hc1, h⟩ := oc_ex h
        refine kc_v (va_runV (As := []) (rest := []) ⟨hx, hb, hml, hown, hts⟩ (c_y_X9_drop l dC dI cy a z k lZ σ r1 hc1 H.size) (cwV 0 hts g_y_X9_empty_X9_drop_V29 rfl rfl rfl hd_y_X9_drop ⟨Nat.le_of_ble_eq_true rfl, Nat.le_of_ble_eq_true rfl⟩) ⟨nb_blind, va_recv hK hP (ci := 8) (q0 := 24) rfl rfl, (kb_pre hK hG hP hD)⟩ rfl rfl hl.1 rfl (lv_room (Nat.le_of_ble_eq_true rfl)) dX9_empty_1 ⟨Nat.le_refl _, Nat.le_refl _⟩) hA hP hD hS (fun H locs hP hD hS => ?_)
        refine lv_aload_n hx hb dX9_empty_4 rfl (lv_at hl 0 rfl) ?_
        refine lv_sipush (v := 256) hx hb dX9_empty_5 (by decide) ?_
        refine hp_24_6 hx hb hts in_y_X9_empty_X9 hown hK hP hD hS (hts _ (List.mem_cons_of_mem _ (List.mem_append_left _ (List.mem_append_left _ (List.mem_of_getElem? (i := 4) rfl))))) dX9_empty_8 (fun H locs hP hD hS => ?_)
        refine lv_aload_n hx hb dX9_empty_11 rfl (lv_at hl 0 rfl) ?_
        refine lv_aload_n hx hb dX9_empty_12 rfl (lv_at hl 0 rfl) ?_
        refine hg_24_6 hx hb hts in_y_X9_empty_X9 hown hK hP (hts _ (List.mem_cons_of_mem _ (List.mem_append_left _ (List.mem_append_left _ (List.mem_of_getElem? (i := 4) rfl))))) dX9_empty_13 ?_
        refine hp_24_7 hx hb hts in_y_X9_empty_X9 hown hK hP hD hS (hts _ (List.mem_cons_of_mem _ (List.mem_append_left _ (List.mem_append_left _ (List.mem_of_getElem? (i := 5) rfl))))) dX9_empty_16 (fun H locs hP hD hS => ?_)
        refine lv_aload_n hx hb dX9_empty_19 rfl (lv_at hl 0 rfl) ?_
        refine lv_iconst (v := (-1)) hx hb dX9_empty_20 (by decide) ?_
        refine hp_24_8 hx hb hts in_y_X9_empty_X9 hown hK hP hD hS (hts _ (List.mem_cons_of_mem _ (List.mem_append_left _ (List.mem_append_left _ (List.mem_of_getElem? (i := 6) rfl))))) dX9_empty_21 (fun H locs hP hD hS => ?_)
        exact ih.2 L (uI (uI (uI r1.2 2406 256) 2407 (((uI r1.2 2406 256).1 2406))) 2408 ((-1))) r h H locs ls hP hD hS (lv_sub hl [] rfl)
      · intro L σ r h H locs ls hP hD hS hl
        rw [y_X9_empty] at h
        obtain rfl := Option.some.inj h
        exact W.vret hx hb hr (fun t ht hW => ⟨⟨(), rfl, trivial, by rw [ht]; exact hP, va_K.moved hW.alike hK, hD⟩, hS.F ht⟩) hS.2.2 dX9_empty_24
  exact (blk k0).1 L0 σ0 r0 h0 s.heap [] ls hP hD hS hl
/-! X9_expect -/
def y_X9_expect : Nat → Nat → LV → CS → Option (Int32 × CS)
  | 0, _, _, _ => none
  | k + 1, 0, L, σ => if ((L.1 2)) ≤ 64 then (y_X9_expect k 1 L σ) else (y_X9_expect k 2 (lI L 100 ((((((L.1 1)) + ((L.1 2)))) - 32))) σ)
  | k + 1, 1, L, σ => y_X9_expect k 2 (lI L 100 ((-1))) σ
  | k + 1, 2, L, σ => some (0, (uI σ 2408 ((L.1 100))))
  | _ + 1, _ + 3, _, _ => none
def o_y_X9_expect : List Cond := [.fieldLink RX9 35 "SetHouse$Saves" "nearAt" "I"]
theorem o_y_X9_expect_good : o_y_X9_expect.all goodWord = true := by decide +kernel
def p_y_X9_expect : List Cond := o_y_X9_expect ++ []
theorem p_y_X9_expect_good : p_y_X9_expect.all goodWord = true := nb_all2 o_y_X9_expect_good rfl
def w_y_X9_expect : List Cond := .code yX9_expect cX9_expect 3 none :: (p_y_X9_expect ++ fC)
theorem w_y_X9_expect_good : w_y_X9_expect.all goodWord = true := nb_allc (by decide +kernel) (nb_all2 p_y_X9_expect_good fC_good)
theorem in_y_X9_expect_X9 : ∀ w ∈ wsX90, w ∈ w_y_X9_expect := fun _ h => List.mem_cons_of_mem _ (List.mem_append_right _ (List.mem_append_right _ (List.mem_append_right _ (List.mem_append_right _ (List.mem_append_right _ (List.mem_append_right _ (List.mem_append_right _ (List.mem_append_right _ (List.mem_append_right _ (List.mem_append_left _ h))))))))))
theorem hd_y_X9_expect : yX9_expect.cls = RX9 ∧ yX9_expect.cls ≠ "java/lang/invoke/MethodHandle" ∧ yX9_expect.cls ≠ "java/lang/invoke/VarHandle" ∧ (parseMethodDescriptor yX9_expect.desc).map (fun d => d.parameters.length) = some 2 := by decide +kernel
set_option maxHeartbeats 40000000 in
set_option maxRecDepth 100000 in
theorem c_y_X9_expect (l : Launch) (dC : Nat → ClassId) (dI : Nat → Nat → Nat) (cy : Nat → ClassId) (a z : Nat → Nat) (k0 : Nat) (L0 : LV) (σ0 : CS) (r0 : Int32 × CS) (h0 : y_X9_expect k0 0 L0 σ0 = some r0) (sz : Nat) : Met l yX9_expect w_y_X9_expect ({ frames := 0, cells := 0, slots := 0, locals := 0 }) (va_Pc [.ref (a 24), .int (L0.1 1), .int (L0.1 2)] (nIn (dC, dI) cy sz (vC cy a z σ0))) (va_Qv (fun _ : Unit => True) (fun _ t => nOut (dC, dI) cy (va_A (vC cy a z σ0) sz) (vC cy a z r0.2) t) (va_A (vC cy a z σ0) sz)) 0 0 (va_A (vC cy a z σ0) sz) := by
  refine Met.ofW (cc := cX9_expect) (maxL := 3) (ret := none) (by decide) rfl ?_
  intro p e s m args below meth c s₁ B hml hv
  obtain ⟨rfl, hsz, hP, hK, hD0, hG⟩ := hv
  have hx := B.exec
  have hb := B.bytes
  have hr := B.returns
  have hts := atoms_spec (ws := w_y_X9_expect) B.pre
  have hown : s.vm.findClass RX9 = some m.cls := findClass_of_methodNamed B.named
  have hlocks := B.notSynchronized
  subst hsz
  have hD := hD0.self (sz := s.heap.size)
  generalize hAe : va_A (vC cy a z σ0) s.heap.size = A at hD ⊢
  have hA : ∀ q : Nat, s.heap.size ≤ q → A q := fun q h => by rw [← hAe]; exact Or.inr h
  have hS : va_S A s.heap s.heap [] := va_S.rf
  have hl := lv_entry ([.ref (a 24), .int (L0.1 1), .int (L0.1 2)]) (n := 3) (Nat.le_of_ble_eq_true rfl)
  rw [lg_entry_eq]
  generalize (lg_sl ([.ref (a 24), .int (L0.1 1), .int (L0.1 2)]) ++ List.replicate (3 - (lg_sl ([.ref (a 24), .int (L0.1 1), .int (L0.1 2)])).length) Slot.unset).toArray = ls at hl ⊢
  have hl : lv_has ls 3 [(0, .ref (a 24)), (1, .int (L0.1 1)), (2, .int (L0.1 2))] := hl
  have blk : ∀ k : Nat, (bC p l e (headSpec w_y_X9_expect ({ frames := 0, cells := 0, slots := 0, locals := 0 })).room s m #[.ref (a 24), .int (L0.1 1), .int (L0.1 2)] below meth c dC dI cy a z A (kV dC dI cy a z A below #[.ref (a 24), .int (L0.1 1), .int (L0.1 2)] s) 3 (y_X9_expect k 0) (fun L => [(0, .ref (a 24)), (1, .int (L.1 1)), (2, .int (L.1 2))]) 0 (fun L => [])) ∧ (bC p l e (headSpec w_y_X9_expect ({ frames := 0, cells := 0, slots := 0, locals := 0 })).room s m #[.ref (a 24), .int (L0.1 1), .int (L0.1 2)] below meth c dC dI cy a z A (kV dC dI cy a z A below #[.ref (a 24), .int (L0.1 1), .int (L0.1 2)] s) 3 (y_X9_expect k 1) (fun L => []) 16 (fun L => [.ref (a 24)])) ∧ (bC p l e (headSpec w_y_X9_expect ({ frames := 0, cells := 0, slots := 0, locals := 0 })).room s m #[.ref (a 24), .int (L0.1 1), .int (L0.1 2)] below meth c dC dI cy a z A (kV dC dI cy a z A below #[.ref (a 24), .int (L0.1 1), .int (L0.1 2)] s) 3 (y_X9_expect k 2) (fun L => []) 17 (fun L => [.int (L.1 100), .ref (a 24)])) := by
    intro k
    induction k with
    | zero => exact ⟨fun L σ r h => (by cases h), fun L σ r h => (by cases h), fun L σ r h => (by cases h)⟩
    | succ k ih =>
      refine ⟨?_, ?_, ?_⟩
      · intro L σ r h H locs ls hP hD hS hl
        rw [y_X9_expect] at h
        refine lv_aload_n hx hb dX9_expect_0 rfl (lv_at hl 0 rfl) ?_
        refine lv_iload_n hx hb dX9_expect_1 rfl (lv_at hl 2 rfl) ?_
        refine lv_bipush (v := 64) hx hb dX9_expect_2 (by decide) ?_
        refine lv_icmp_le (tgt := 16) hx hb dX9_expect_4 (by decide) (fun c1 => ?_) (fun c1 => ?_)
        · rw [if_pos c1] at h
          exact ih.2.1 L σ r h H locs ls hP hD hS (lv_sub hl [] rfl)
        · rw [if_neg c1] at h
          refine lv_iload_n hx hb dX9_expect_7 rfl (lv_at hl 1 rfl) ?_
          refine lv_iload_n hx hb dX9_expect_8 rfl (lv_at hl 2 rfl) ?_
          refine lv_iadd hx hb dX9_expect_9 ?_
          refine lv_bipush (v := 32) hx hb dX9_expect_10 (by decide) ?_
          refine lv_isub hx hb dX9_expect_12 ?_
          refine lv_goto (tgt := 17) hx hb dX9_expect_13 (by decide) ?_
          exact ih.2.2 (lI L 100 ((((((L.1 1)) + ((L.1 2)))) - 32))) σ r h H locs ls hP hD hS (lv_sub hl [] rfl)
      · intro L σ r h H locs ls hP hD hS hl
        rw [y_X9_expect] at h
        refine lv_iconst (v := (-1)) hx hb dX9_expect_16 (by decide) ?_
        exact ih.2.2 (lI L 100 ((-1))) σ r h H locs ls hP hD hS (lv_sub hl [] rfl)
      · intro L σ r h H locs ls hP hD hS hl
        rw [y_X9_expect] at h
        refine hp_24_8 hx hb hts in_y_X9_expect_X9 hown hK hP hD hS (hts _ (List.mem_cons_of_mem _ (List.mem_append_left _ (List.mem_append_left _ (List.mem_of_getElem? (i := 0) rfl))))) dX9_expect_17 (fun H locs hP hD hS => ?_)
        obtain rfl := Option.some.inj h
        exact W.vret hx hb hr (fun t ht hW => ⟨⟨(), rfl, trivial, by rw [ht]; exact hP, va_K.moved hW.alike hK, hD⟩, hS.F ht⟩) hS.2.2 dX9_expect_20
  exact (blk k0).1 L0 σ0 r0 h0 s.heap [] ls hP hD hS hl
/-! X9_newest -/
def y_X9_newest : Nat → Nat → LV → CS → Option (Int32 × CS)
  | 0, _, _, _ => none
  | k + 1, 0, L, σ => if ((σ.1 2405)) = 0 then (y_X9_newest k 1 L σ) else (if ¬ ((8 : Int32) < 0 ∨ 9 ≤ (8 : Int32).toNatClampNeg) then (if ((sPi σ (8 : Int32).toNatClampNeg)) < 9 then (if ((L.1 1)) < ((σ.1 (100 * (28 + ((sPi σ (8 : Int32).toNatClampNeg))) + 3))) then (y_X9_newest k 1 L σ) else (y_X9_newest k 2 (lI L 100 8) σ)) else none) else none)
  | k + 1, 1, L, σ => y_X9_newest k 2 (lI L 100 ((-1))) σ
  | k + 1, 2, L, σ => y_X9_newest k 3 (lI (lI L 2 ((L.1 100))) 3 0) σ
  | k + 1, 3, L, σ => if ((σ.1 2404)) ≤ ((L.1 3)) then (y_X9_newest k 4 L σ) else (if ¬ (((L.1 3)) < 0 ∨ 9 ≤ ((L.1 3)).toNatClampNeg) then (if ((sPi σ ((L.1 3)).toNatClampNeg)) < 9 then (if ((L.1 1)) < ((σ.1 (100 * (28 + ((sPi σ ((L.1 3)).toNatClampNeg))) + 3))) then (y_X9_newest k 5 L σ) else (if ((L.1 2)) = ((-1)) then (y_X9_newest k 6 L σ) else (if ¬ (((L.1 3)) < 0 ∨ 9 ≤ ((L.1 3)).toNatClampNeg) then (if ((sPi σ ((L.1 3)).toNatClampNeg)) < 9 then (if ¬ (((L.1 2)) < 0 ∨ 9 ≤ ((L.1 2)).toNatClampNeg) then (if ((sPi σ ((L.1 2)).toNatClampNeg)) < 9 then (if ((σ.1 (100 * (28 + ((sPi σ ((L.1 3)).toNatClampNeg))) + 3))) ≤ ((σ.1 (100 * (28 + ((sPi σ ((L.1 2)).toNatClampNeg))) + 3))) then (y_X9_newest k 5 L σ) else (y_X9_newest k 6 L σ)) else none) else none) else none) else none))) else none) else none)
  | k + 1, 4, L, σ => some ((L.1 2), σ)
  | k + 1, 5, L, σ => y_X9_newest k 3 (lI L 3 ((((L.1 3)) + 1))) σ
  | k + 1, 6, L, σ => y_X9_newest k 5 (lI L 2 ((L.1 3))) σ
  | _ + 1, _ + 7, _, _ => none
def o_y_X9_newest : List Cond := [.fieldLink RX9 44 "SetHouse$Saves" "near" "Z", .fieldLink RX9 13 "SetHouse$Saves" "runs" "[LSetHouse$Run;", .fieldLink RX9 41 "SetHouse$Saves" "saved" "I"]
theorem o_y_X9_newest_good : o_y_X9_newest.all goodWord = true := by decide +kernel
def p_y_X9_newest : List Cond := o_y_X9_newest ++ []
theorem p_y_X9_newest_good : p_y_X9_newest.all goodWord = true := nb_all2 o_y_X9_newest_good rfl
def w_y_X9_newest : List Cond := .code yX9_newest cX9_newest 4 (some .int) :: (p_y_X9_newest ++ fC)
theorem w_y_X9_newest_good : w_y_X9_newest.all goodWord = true := nb_allc (by decide +kernel) (nb_all2 p_y_X9_newest_good fC_good)
theorem in_y_X9_newest_X8 : ∀ w ∈ wsX80, w ∈ w_y_X9_newest := fun _ h => List.mem_cons_of_mem _ (List.mem_append_right _ (List.mem_append_right _ (List.mem_append_right _ (List.mem_append_right _ (List.mem_append_right _ (List.mem_append_right _ (List.mem_append_right _ (List.mem_append_right _ (List.mem_append_left _ h)))))))))
theorem in_y_X9_newest_X9 : ∀ w ∈ wsX90, w ∈ w_y_X9_newest := fun _ h => List.mem_cons_of_mem _ (List.mem_append_right _ (List.mem_append_right _ (List.mem_append_right _ (List.mem_append_right _ (List.mem_append_right _ (List.mem_append_right _ (List.mem_append_right _ (List.mem_append_right _ (List.mem_append_right _ (List.mem_append_left _ h))))))))))
theorem hd_y_X9_newest : yX9_newest.cls = RX9 ∧ yX9_newest.cls ≠ "java/lang/invoke/MethodHandle" ∧ yX9_newest.cls ≠ "java/lang/invoke/VarHandle" ∧ (parseMethodDescriptor yX9_newest.desc).map (fun d => d.parameters.length) = some 1 := by decide +kernel
set_option maxHeartbeats 40000000 in
set_option maxRecDepth 100000 in
theorem c_y_X9_newest (l : Launch) (dC : Nat → ClassId) (dI : Nat → Nat → Nat) (cy : Nat → ClassId) (a z : Nat → Nat) (k0 : Nat) (L0 : LV) (σ0 : CS) (r0 : Int32 × CS) (h0 : y_X9_newest k0 0 L0 σ0 = some r0) (sz : Nat) : Met l yX9_newest w_y_X9_newest ({ frames := 0, cells := 0, slots := 0, locals := 0 }) (va_Pc [.ref (a 24), .int (L0.1 1)] (nIn (dC, dI) cy sz (vC cy a z σ0))) (va_Qi (fun (x : Int32) (_ : Unit) => x = r0.1) (fun _ t => nOut (dC, dI) cy (va_A (vC cy a z σ0) sz) (vC cy a z r0.2) t) (va_A (vC cy a z σ0) sz)) 0 0 (va_A (vC cy a z σ0) sz) := by
  refine Met.ofW (cc := cX9_newest) (maxL := 4) (ret := (some .int)) (by decide) rfl ?_
  intro p e s m args below meth c s₁ B hml hv
  obtain ⟨rfl, hsz, hP, hK, hD0, hG⟩ := hv
  have hx := B.exec
  have hb := B.bytes
  have hr := B.returns
  have hts := atoms_spec (ws := w_y_X9_newest) B.pre
  have hown : s.vm.findClass RX9 = some m.cls := findClass_of_methodNamed B.named
  have hlocks := B.notSynchronized
  subst hsz
  have hD := hD0.self (sz := s.heap.size)
  generalize hAe : va_A (vC cy a z σ0) s.heap.size = A at hD ⊢
  have hA : ∀ q : Nat, s.heap.size ≤ q → A q := fun q h => by rw [← hAe]; exact Or.inr h
  have hS : va_S A s.heap s.heap [] := va_S.rf
  have hl := lv_entry ([.ref (a 24), .int (L0.1 1)]) (n := 4) (Nat.le_of_ble_eq_true rfl)
  rw [lg_entry_eq]
  generalize (lg_sl ([.ref (a 24), .int (L0.1 1)]) ++ List.replicate (4 - (lg_sl ([.ref (a 24), .int (L0.1 1)])).length) Slot.unset).toArray = ls at hl ⊢
  have hl : lv_has ls 4 [(0, .ref (a 24)), (1, .int (L0.1 1))] := hl
  have blk : ∀ k : Nat, (bC p l e (headSpec w_y_X9_newest ({ frames := 0, cells := 0, slots := 0, locals := 0 })).room s m #[.ref (a 24), .int (L0.1 1)] below meth c dC dI cy a z A (kI dC dI cy a z A below #[.ref (a 24), .int (L0.1 1)] s) 4 (y_X9_newest k 0) (fun L => [(0, .ref (a 24)), (1, .int (L.1 1))]) 0 (fun L => [])) ∧ (bC p l e (headSpec w_y_X9_newest ({ frames := 0, cells := 0, slots := 0, locals := 0 })).room s m #[.ref (a 24), .int (L0.1 1)] below meth c dC dI cy a z A (kI dC dI cy a z A below #[.ref (a 24), .int (L0.1 1)] s) 4 (y_X9_newest k 1) (fun L => [(0, .ref (a 24)), (1, .int (L.1 1))]) 26 (fun L => [])) ∧ (bC p l e (headSpec w_y_X9_newest ({ frames := 0, cells := 0, slots := 0, locals := 0 })).room s m #[.ref (a 24), .int (L0.1 1)] below meth c dC dI cy a z A (kI dC dI cy a z A below #[.ref (a 24), .int (L0.1 1)] s) 4 (y_X9_newest k 2) (fun L => [(0, .ref (a 24)), (1, .int (L.1 1))]) 27 (fun L => [.int (L.1 100)])) ∧ (bC p l e (headSpec w_y_X9_newest ({ frames := 0, cells := 0, slots := 0, locals := 0 })).room s m #[.ref (a 24), .int (L0.1 1)] below meth c dC dI cy a z A (kI dC dI cy a z A below #[.ref (a 24), .int (L0.1 1)] s) 4 (y_X9_newest k 3) (fun L => [(0, .ref (a 24)), (1, .int (L.1 1)), (2, .int (L.1 2)), (3, .int (L.1 3))]) 30 (fun L => [])) ∧ (bC p l e (headSpec w_y_X9_newest ({ frames := 0, cells := 0, slots := 0, locals := 0 })).room s m #[.ref (a 24), .int (L0.1 1)] below meth c dC dI cy a z A (kI dC dI cy a z A below #[.ref (a 24), .int (L0.1 1)] s) 4 (y_X9_newest k 4) (fun L => [(2, .int (L.1 2))]) 85 (fun L => [])) ∧ (bC p l e (headSpec w_y_X9_newest ({ frames := 0, cells := 0, slots := 0, locals := 0 })).room s m #[.ref (a 24), .int (L0.1 1)] below meth c dC dI cy a z A (kI dC dI cy a z A below #[.ref (a 24), .int (L0.1 1)] s) 4 (y_X9_newest k 5) (fun L => [(0, .ref (a 24)), (1, .int (L.1 1)), (2, .int (L.1 2)), (3, .int (L.1 3))]) 79 (fun L => [])) ∧ (bC p l e (headSpec w_y_X9_newest ({ frames := 0, cells := 0, slots := 0, locals := 0 })).room s m #[.ref (a 24), .int (L0.1 1)] below meth c dC dI cy a z A (kI dC dI cy a z A below #[.ref (a 24), .int (L0.1 1)] s) 4 (y_X9_newest k 6) (fun L => [(0, .ref (a 24)), (1, .int (L.1 1)), (3, .int (L.1 3))]) 77 (fun L => [])) := by
    intro k
    induction k with
    | zero => exact ⟨fun L σ r h => (by cases h), fun L σ r h => (by cases h), fun L σ r h => (by cases h), fun L σ r h => (by cases h), fun L σ r h => (by cases h), fun L σ r h => (by cases h), fun L σ r h => (by cases h)⟩
    | succ k ih =>
      refine ⟨?_, ?_, ?_, ?_, ?_, ?_, ?_⟩
      · intro L σ r h H locs ls hP hD hS hl
        rw [y_X9_newest] at h
        refine lv_aload_n hx hb dX9_newest_0 rfl (lv_at hl 0 rfl) ?_
        refine hg_24_5 hx hb hts in_y_X9_newest_X9 hown hK hP (hts _ (List.mem_cons_of_mem _ (List.mem_append_left _ (List.mem_append_left _ (List.mem_of_getElem? (i := 0) rfl))))) dX9_newest_1 ?_
        refine lv_if_eq (tgt := 26) hx hb dX9_newest_4 (by decide) (fun c1 => ?_) (fun c1 => ?_)
        · rw [if_pos c1] at h
          exact ih.2.1 L σ r h H locs ls hP hD hS (lv_sub hl [0, 1] rfl)
        · rw [if_neg c1] at h
          refine lv_aload_n hx hb dX9_newest_7 rfl (lv_at hl 0 rfl) ?_
          refine hg_24_0 hx hb hts in_y_X9_newest_X9 hown hK hP (hts _ (List.mem_cons_of_mem _ (List.mem_append_left _ (List.mem_append_left _ (List.mem_of_getElem? (i := 1) rfl))))) dX9_newest_8 ?_
          refine lv_bipush (v := 8) hx hb dX9_newest_11 (by decide) ?_
          obtain ⟨q2, h⟩ := kb_ite1 h
          refine hl_25 hx hb hK hP q2 dX9_newest_13 ?_
          obtain ⟨q3, h⟩ := kb_ite1 h
          refine hg_R_3n ((sPi σ (8 : Int32).toNatClampNeg)) q3 hx hb hts in_y_X9_newest_X8 hown hK hP (va_Nw.use rfl (hG.1 _ (List.mem_of_getElem? (i := 13) rfl))) dX9_newest_14 ?_
          refine lv_iload_n hx hb dX9_newest_17 rfl (lv_at hl 1 rfl) ?_
          refine lv_icmp_gt (tgt := 26) hx hb dX9_newest_18 (by decide) (fun c4 => ?_) (fun c4 => ?_)
          · rw [if_pos c4] at h
            exact ih.2.1 L σ r h H locs ls hP hD hS (lv_sub hl [0, 1] rfl)
          · rw [if_neg c4] at h
            refine lv_bipush (v := 8) hx hb dX9_newest_21 (by decide) ?_
            refine lv_goto (tgt := 27) hx hb dX9_newest_23 (by decide) ?_
            exact ih.2.2.1 (lI L 100 8) σ r h H locs ls hP hD hS (lv_sub hl [0, 1] rfl)
      · intro L σ r h H locs ls hP hD hS hl
        rw [y_X9_newest] at h
        refine lv_iconst (v := (-1)) hx hb dX9_newest_26 (by decide) ?_
        exact ih.2.2.1 (lI L 100 ((-1))) σ r h H locs ls hP hD hS (lv_sub hl [0, 1] rfl)
      · intro L σ r h H locs ls hP hD hS hl
        rw [y_X9_newest] at h
        refine lv_istore_n (lv' := [(2, .int (L.1 100)), (0, .ref (a 24)), (1, .int (L.1 1))]) hx hb dX9_newest_27 rfl hl (by decide) rfl (fun ls hl => ?_)
        refine lv_iconst (v := 0) hx hb dX9_newest_28 (by decide) ?_
        refine lv_istore_n (lv' := [(3, .int 0), (2, .int (L.1 100)), (0, .ref (a 24)), (1, .int (L.1 1))]) hx hb dX9_newest_29 rfl hl (by decide) rfl (fun ls hl => ?_)
        exact ih.2.2.2.1 (lI (lI L 2 ((L.1 100))) 3 0) σ r h H locs ls hP hD hS (lv_sub hl [2, 3, 1, 0] rfl)
      · intro L σ r h H locs ls hP hD hS hl
        rw [y_X9_newest] at h
        refine lv_iload_n hx hb dX9_newest_30 rfl (lv_at hl 3 rfl) ?_
        refine lv_aload_n hx hb dX9_newest_31 rfl (lv_at hl 0 rfl) ?_
        refine hg_24_4 hx hb hts in_y_X9_newest_X9 hown hK hP (hts _ (List.mem_cons_of_mem _ (List.mem_append_left _ (List.mem_append_left _ (List.mem_of_getElem? (i := 2) rfl))))) dX9_newest_32 ?_
        refine lv_icmp_ge (tgt := 85) hx hb dX9_newest_35 (by decide) (fun c1 => ?_) (fun c1 => ?_)
        · rw [if_pos c1] at h
          exact ih.2.2.2.2.1 L σ r h H locs ls hP hD hS (lv_sub hl [2] rfl)
        · rw [if_neg c1] at h
          refine lv_aload_n hx hb dX9_newest_38 rfl (lv_at hl 0 rfl) ?_
          refine hg_24_0 hx hb hts in_y_X9_newest_X9 hown hK hP (hts _ (List.mem_cons_of_mem _ (List.mem_append_left _ (List.mem_append_left _ (List.mem_of_getElem? (i := 1) rfl))))) dX9_newest_39 ?_
          refine lv_iload_n hx hb dX9_newest_42 rfl (lv_at hl 3 rfl) ?_
          obtain ⟨q2, h⟩ := kb_ite1 h
          refine hl_25 hx hb hK hP q2 dX9_newest_43 ?_
          obtain ⟨q3, h⟩ := kb_ite1 h
          refine hg_R_3n ((sPi σ ((L.1 3)).toNatClampNeg)) q3 hx hb hts in_y_X9_newest_X8 hown hK hP (va_Nw.use rfl (hG.1 _ (List.mem_of_getElem? (i := 13) rfl))) dX9_newest_44 ?_
          refine lv_iload_n hx hb dX9_newest_47 rfl (lv_at hl 1 rfl) ?_
          refine lv_icmp_gt (tgt := 79) hx hb dX9_newest_48 (by decide) (fun c4 => ?_) (fun c4 => ?_)
          · rw [if_pos c4] at h
            exact ih.2.2.2.2.2.1 L σ r h H locs ls hP hD hS (lv_sub hl [0, 1, 2, 3] rfl)
          · rw [if_neg c4] at h
            refine lv_iload_n hx hb dX9_newest_51 rfl (lv_at hl 2 rfl) ?_
            refine lv_iconst (v := (-1)) hx hb dX9_newest_52 (by decide) ?_
            refine lv_icmp_eq (tgt := 77) hx hb dX9_newest_53 (by decide) (fun c5 => ?_) (fun c5 => ?_)
            · rw [if_pos c5] at h
              exact ih.2.2.2.2.2.2 L σ r h H locs ls hP hD hS (lv_sub hl [0, 1, 3] rfl)
            · rw [if_neg c5] at h
              refine lv_aload_n hx hb dX9_newest_56 rfl (lv_at hl 0 rfl) ?_
              refine hg_24_0 hx hb hts in_y_X9_newest_X9 hown hK hP (hts _ (List.mem_cons_of_mem _ (List.mem_append_left _ (List.mem_append_left _ (List.mem_of_getElem? (i := 1) rfl))))) dX9_newest_57 ?_
              refine lv_iload_n hx hb dX9_newest_60 rfl (lv_at hl 3 rfl) ?_
              obtain ⟨q6, h⟩ := kb_ite1 h
              refine hl_25 hx hb hK hP q6 dX9_newest_61 ?_
              obtain ⟨q7, h⟩ := kb_ite1 h
              refine hg_R_3n ((sPi σ ((L.1 3)).toNatClampNeg)) q7 hx hb hts in_y_X9_newest_X8 hown hK hP (va_Nw.use rfl (hG.1 _ (List.mem_of_getElem? (i := 13) rfl))) dX9_newest_62 ?_
              refine lv_aload_n hx hb dX9_newest_65 rfl (lv_at hl 0 rfl) ?_
              refine hg_24_0 hx hb hts in_y_X9_newest_X9 hown hK hP (hts _ (List.mem_cons_of_mem _ (List.mem_append_left _ (List.mem_append_left _ (List.mem_of_getElem? (i := 1) rfl))))) dX9_newest_66 ?_
              refine lv_iload_n hx hb dX9_newest_69 rfl (lv_at hl 2 rfl) ?_
              obtain ⟨q8, h⟩ := kb_ite1 h
              refine hl_25 hx hb hK hP q8 dX9_newest_70 ?_
              obtain ⟨q9, h⟩ := kb_ite1 h
              refine hg_R_3n ((sPi σ ((L.1 2)).toNatClampNeg)) q9 hx hb hts in_y_X9_newest_X8 hown hK hP (va_Nw.use rfl (hG.1 _ (List.mem_of_getElem? (i := 13) rfl))) dX9_newest_71 ?_
              refine lv_icmp_le (tgt := 79) hx hb dX9_newest_74 (by decide) (fun c10 => ?_) (fun c10 => ?_)
              · rw [if_pos c10] at h
                exact ih.2.2.2.2.2.1 L σ r h H locs ls hP hD hS (lv_sub hl [0, 1, 2, 3] rfl)
              · rw [if_neg c10] at h
                exact ih.2.2.2.2.2.2 L σ r h H locs ls hP hD hS (lv_sub hl [0, 1, 3] rfl)
      · intro L σ r h H locs ls hP hD hS hl
        rw [y_X9_newest] at h
        refine lv_iload_n hx hb dX9_newest_85 rfl (lv_at hl 0 rfl) ?_
        obtain rfl := Option.some.inj h
        exact W.iret (v := (L.1 2)) hx hb hr (fun t ht hW => ⟨⟨(L.1 2), (), rfl, rfl, by rw [ht]; exact hP, va_K.moved hW.alike hK, hD⟩, hS.F ht⟩) hS.2.2 dX9_newest_86
      · intro L σ r h H locs ls hP hD hS hl
        rw [y_X9_newest] at h
        refine lv_iinc (v := ((L.1 3)) + 1) (lv' := [(3, .int (((L.1 3)) + 1)), (0, .ref (a 24)), (1, .int (L.1 1)), (2, .int (L.1 2))]) hx hb dX9_newest_79 hl (k := 3) rfl rfl (by decide) rfl (fun ls hl => ?_)
        refine lv_goto (tgt := 30) hx hb dX9_newest_82 (by decide) ?_
        exact ih.2.2.2.1 (lI L 3 ((((L.1 3)) + 1))) σ r h H locs ls hP hD hS (lv_sub hl [1, 2, 3, 0] rfl)
      · intro L σ r h H locs ls hP hD hS hl
        rw [y_X9_newest] at h
        refine lv_iload_n hx hb dX9_newest_77 rfl (lv_at hl 2 rfl) ?_
        refine lv_istore_n (lv' := [(2, .int (L.1 3)), (0, .ref (a 24)), (1, .int (L.1 1)), (3, .int (L.1 3))]) hx hb dX9_newest_78 rfl hl (by decide) rfl (fun ls hl => ?_)
        exact ih.2.2.2.2.2.1 (lI L 2 ((L.1 3))) σ r h H locs ls hP hD hS (lv_sub hl [1, 2, 0, 3] rfl)
  exact (blk k0).1 L0 σ0 r0 h0 s.heap [] ls hP hD hS hl
/-! X10_load__a7 -/
def y_X10_load__a7 : Nat → Nat → LV → CS → Option (Int32 × CS)
  | 0, _, _, _ => none
  | k + 1, 0, L, σ => if 0 ≤ ((L.1 1)) then (y_X10_load__a7 k 1 L σ) else (if 0 ≤ ((((((L.1 1)) <<< ((4 : Int32) &&& 31))) >>> ((4 : Int32) &&& 31))) then (y_X10_load__a7 k 2 (lI (lI L 3 ((((((L.1 1)) <<< ((4 : Int32) &&& 31))) >>> ((4 : Int32) &&& 31)))) 100 0) σ) else (y_X10_load__a7 k 3 (lI (lI (lI L 3 ((((((L.1 1)) <<< ((4 : Int32) &&& 31))) >>> ((4 : Int32) &&& 31)))) 100 ((- ((((((L.1 1)) <<< ((4 : Int32) &&& 31))) >>> ((4 : Int32) &&& 31)))))) 101 0) σ))
  | k + 1, 1, L, σ => if ¬ (((L.1 1)) < 0 ∨ (sN σ 3) ≤ ((L.1 1)).toNatClampNeg) then (if ¬ ((((L.1 1)) + 1)) < 0 ∧ ¬ (0 : Int32) < 0 ∧ ¬ (((((((σ.2.2.1 3 ((L.1 1)).toNatClampNeg)).toUInt32 >>> ((4 : Int32).toUInt32 &&& Int32.toUInt32 31)).toInt32)) &&& 4095)) < 0 ∧ ((((L.1 1)) + 1)).toNatClampNeg + (((((((σ.2.2.1 3 ((L.1 1)).toNatClampNeg)).toUInt32 >>> ((4 : Int32).toUInt32 &&& Int32.toUInt32 31)).toInt32)) &&& 4095)).toNatClampNeg ≤ (sN σ 3) ∧ (0 : Int32).toNatClampNeg + (((((((σ.2.2.1 3 ((L.1 1)).toNatClampNeg)).toUInt32 >>> ((4 : Int32).toUInt32 &&& Int32.toUInt32 31)).toInt32)) &&& 4095)).toNatClampNeg ≤ 72 then (some (((((((σ.2.2.1 3 ((L.1 1)).toNatClampNeg)).toUInt32 >>> ((4 : Int32).toUInt32 &&& Int32.toUInt32 31)).toInt32)) &&& 4095), (uF σ 7 (va_cpy (σ.2.2.1 3) (σ.2.2.1 7) ((((L.1 1)) + 1)).toNatClampNeg (0 : Int32).toNatClampNeg (((((((σ.2.2.1 3 ((L.1 1)).toNatClampNeg)).toUInt32 >>> ((4 : Int32).toUInt32 &&& Int32.toUInt32 31)).toInt32)) &&& 4095)).toNatClampNeg)))) else none) else none
  | k + 1, 2, L, σ => y_X10_load__a7 k 3 (lI (lI L 100 ((L.1 3))) 101 ((L.1 100))) σ
  | k + 1, 3, L, σ => if ¬ (((L.1 101)) < 0 ∨ 72 ≤ ((L.1 101)).toNatClampNeg) then (if ((L.1 3)) = 0 then (y_X10_load__a7 k 5 (lI L 100 0) (uA σ 7 ((L.1 101)).toNatClampNeg ((L.1 100)))) else (y_X10_load__a7 k 4 L (uA σ 7 ((L.1 101)).toNatClampNeg ((L.1 100))))) else none
  | k + 1, 4, L, σ => y_X10_load__a7 k 5 (lI L 100 1) σ
  | k + 1, 5, L, σ => some ((L.1 100), σ)
  | _ + 1, _ + 6, _, _ => none
def o_y_X10_load__a7 : List Cond := [.fieldLink RX10 33 "SetHouse$Wholes" "heap" "LSetHouse$Heap;", .methodLink RX10 58 arraycopyName, .native arraycopyName, .static arraycopyName, .initialized "java/lang/System"]
theorem o_y_X10_load__a7_good : o_y_X10_load__a7.all goodWord = true := by decide +kernel
def p_y_X10_load__a7 : List Cond := o_y_X10_load__a7 ++ []
theorem p_y_X10_load__a7_good : p_y_X10_load__a7.all goodWord = true := nb_all2 o_y_X10_load__a7_good rfl
def w_y_X10_load__a7 : List Cond := .code yX10_load cX10_load 4 (some .int) :: (p_y_X10_load__a7 ++ fC)
theorem w_y_X10_load__a7_good : w_y_X10_load__a7.all goodWord = true := nb_allc (by decide +kernel) (nb_all2 p_y_X10_load__a7_good fC_good)
theorem in_y_X10_load__a7_X1 : ∀ w ∈ wsX10, w ∈ w_y_X10_load__a7 := fun _ h => List.mem_cons_of_mem _ (List.mem_append_right _ (List.mem_append_right _ (List.mem_append_left _ h)))
theorem in_y_X10_load__a7_X10 : ∀ w ∈ wsX100, w ∈ w_y_X10_load__a7 := fun _ h => List.mem_cons_of_mem _ (List.mem_append_right _ (List.mem_append_right _ (List.mem_append_right _ (List.mem_append_right _ (List.mem_append_right _ (List.mem_append_right _ (List.mem_append_right _ (List.mem_append_right _ (List.mem_append_right _ (List.mem_append_right _ (List.mem_append_left _ h)))))))))))
theorem hd_y_X10_load__a7 : yX10_load.cls = RX10 ∧ yX10_load.cls ≠ "java/lang/invoke/MethodHandle" ∧ yX10_load.cls ≠ "java/lang/invoke/VarHandle" ∧ (parseMethodDescriptor yX10_load.desc).map (fun d => d.parameters.length) = some 2 := by decide +kernel
set_option maxHeartbeats 40000000 in
set_option maxRecDepth 100000 in
theorem c_y_X10_load__a7 (l : Launch) (dC : Nat → ClassId) (dI : Nat → Nat → Nat) (cy : Nat → ClassId) (a z : Nat → Nat) (k0 : Nat) (L0 : LV) (σ0 : CS) (r0 : Int32 × CS) (h0 : y_X10_load__a7 k0 0 L0 σ0 = some r0) (sz : Nat) : Met l yX10_load w_y_X10_load__a7 ({ frames := 1, cells := 0, slots := 0, locals := 60 }) (va_Pc [.ref (a 4), .int (L0.1 1), .ref (a 7)] (nIn (dC, dI) cy sz (vC cy a z σ0))) (va_Qi (fun (x : Int32) (_ : Unit) => x = r0.1) (fun _ t => nOut (dC, dI) cy (va_A (vC cy a z σ0) sz) (vC cy a z r0.2) t) (va_A (vC cy a z σ0) sz)) 0 0 (va_A (vC cy a z σ0) sz) := by
  refine Met.ofW (cc := cX10_load) (maxL := 4) (ret := (some .int)) (by decide) rfl ?_
  intro p e s m args below meth c s₁ B hml hv
  obtain ⟨rfl, hsz, hP, hK, hD0, hG⟩ := hv
  have hx := B.exec
  have hb := B.bytes
  have hr := B.returns
  have hts := atoms_spec (ws := w_y_X10_load__a7) B.pre
  have hown : s.vm.findClass RX10 = some m.cls := findClass_of_methodNamed B.named
  have hlocks := B.notSynchronized
  subst hsz
  have hD := hD0.self (sz := s.heap.size)
  generalize hAe : va_A (vC cy a z σ0) s.heap.size = A at hD ⊢
  have hA : ∀ q : Nat, s.heap.size ≤ q → A q := fun q h => by rw [← hAe]; exact Or.inr h
  have hS : va_S A s.heap s.heap [] := va_S.rf
  have hl := lv_entry ([.ref (a 4), .int (L0.1 1), .ref (a 7)]) (n := 4) (Nat.le_of_ble_eq_true rfl)
  rw [lg_entry_eq]
  generalize (lg_sl ([.ref (a 4), .int (L0.1 1), .ref (a 7)]) ++ List.replicate (4 - (lg_sl ([.ref (a 4), .int (L0.1 1), .ref (a 7)])).length) Slot.unset).toArray = ls at hl ⊢
  have hl : lv_has ls 4 [(0, .ref (a 4)), (1, .int (L0.1 1)), (2, .ref (a 7))] := hl
  have blk : ∀ k : Nat, (bC p l e (headSpec w_y_X10_load__a7 ({ frames := 1, cells := 0, slots := 0, locals := 60 })).room s m #[.ref (a 4), .int (L0.1 1), .ref (a 7)] below meth c dC dI cy a z A (kI dC dI cy a z A below #[.ref (a 4), .int (L0.1 1), .ref (a 7)] s) 4 (y_X10_load__a7 k 0) (fun L => [(0, .ref (a 4)), (1, .int (L.1 1)), (2, .ref (a 7))]) 0 (fun L => [])) ∧ (bC p l e (headSpec w_y_X10_load__a7 ({ frames := 1, cells := 0, slots := 0, locals := 60 })).room s m #[.ref (a 4), .int (L0.1 1), .ref (a 7)] below meth c dC dI cy a z A (kI dC dI cy a z A below #[.ref (a 4), .int (L0.1 1), .ref (a 7)] s) 4 (y_X10_load__a7 k 1) (fun L => [(0, .ref (a 4)), (1, .int (L.1 1)), (2, .ref (a 7))]) 33 (fun L => [])) ∧ (bC p l e (headSpec w_y_X10_load__a7 ({ frames := 1, cells := 0, slots := 0, locals := 60 })).room s m #[.ref (a 4), .int (L0.1 1), .ref (a 7)] below meth c dC dI cy a z A (kI dC dI cy a z A below #[.ref (a 4), .int (L0.1 1), .ref (a 7)] s) 4 (y_X10_load__a7 k 2) (fun L => [(3, .int (L.1 3))]) 21 (fun L => [.int (L.1 100), .ref (a 7)])) ∧ (bC p l e (headSpec w_y_X10_load__a7 ({ frames := 1, cells := 0, slots := 0, locals := 60 })).room s m #[.ref (a 4), .int (L0.1 1), .ref (a 7)] below meth c dC dI cy a z A (kI dC dI cy a z A below #[.ref (a 4), .int (L0.1 1), .ref (a 7)] s) 4 (y_X10_load__a7 k 3) (fun L => [(3, .int (L.1 3))]) 22 (fun L => [.int (L.1 100), .int (L.1 101), .ref (a 7)])) ∧ (bC p l e (headSpec w_y_X10_load__a7 ({ frames := 1, cells := 0, slots := 0, locals := 60 })).room s m #[.ref (a 4), .int (L0.1 1), .ref (a 7)] below meth c dC dI cy a z A (kI dC dI cy a z A below #[.ref (a 4), .int (L0.1 1), .ref (a 7)] s) 4 (y_X10_load__a7 k 4) (fun L => []) 31 (fun L => [])) ∧ (bC p l e (headSpec w_y_X10_load__a7 ({ frames := 1, cells := 0, slots := 0, locals := 60 })).room s m #[.ref (a 4), .int (L0.1 1), .ref (a 7)] below meth c dC dI cy a z A (kI dC dI cy a z A below #[.ref (a 4), .int (L0.1 1), .ref (a 7)] s) 4 (y_X10_load__a7 k 5) (fun L => []) 32 (fun L => [.int (L.1 100)])) := by
    intro k
    induction k with
    | zero => exact ⟨fun L σ r h => (by cases h), fun L σ r h => (by cases h), fun L σ r h => (by cases h), fun L σ r h => (by cases h), fun L σ r h => (by cases h), fun L σ r h => (by cases h)⟩
    | succ k ih =>
      refine ⟨?_, ?_, ?_, ?_, ?_, ?_⟩
      · intro L σ r h H locs ls hP hD hS hl
        rw [y_X10_load__a7] at h
        refine lv_iload_n hx hb dX10_load_0 rfl (lv_at hl 1 rfl) ?_
        refine lv_if_ge (tgt := 33) hx hb dX10_load_1 (by decide) (fun c1 => ?_) (fun c1 => ?_)
        · rw [if_pos c1] at h
          exact ih.2.1 L σ r h H locs ls hP hD hS (lv_sub hl [0, 1, 2] rfl)
        · rw [if_neg c1] at h
          refine lv_iload_n hx hb dX10_load_4 rfl (lv_at hl 1 rfl) ?_
          refine lv_iconst (v := 4) hx hb dX10_load_5 (by decide) ?_
          refine lv_ishl hx hb dX10_load_6 ?_
          refine lv_iconst (v := 4) hx hb dX10_load_7 (by decide) ?_
          refine lv_ishr hx hb dX10_load_8 ?_
          refine lv_istore_n (lv' := [(3, .int (((((L.1 1)) <<< ((4 : Int32) &&& 31))) >>> ((4 : Int32) &&& 31))), (0, .ref (a 4)), (1, .int (L.1 1)), (2, .ref (a 7))]) hx hb dX10_load_9 rfl hl (by decide) rfl (fun ls hl => ?_)
          refine lv_aload_n hx hb dX10_load_10 rfl (lv_at hl 3 rfl) ?_
          refine lv_iconst (v := 0) hx hb dX10_load_11 (by decide) ?_
          refine lv_iload_n hx hb dX10_load_12 rfl (lv_at hl 0 rfl) ?_
          refine lv_if_ge (tgt := 21) hx hb dX10_load_13 (by decide) (fun c2 => ?_) (fun c2 => ?_)
          · rw [if_pos c2] at h
            exact ih.2.2.1 (lI (lI L 3 ((((((L.1 1)) <<< ((4 : Int32) &&& 31))) >>> ((4 : Int32) &&& 31)))) 100 0) σ r h H locs ls hP hD hS (lv_sub hl [0] rfl)
          · rw [if_neg c2] at h
            refine lv_iload_n hx hb dX10_load_16 rfl (lv_at hl 0 rfl) ?_
            refine lv_ineg hx hb dX10_load_17 ?_
            refine lv_goto (tgt := 22) hx hb dX10_load_18 (by decide) ?_
            exact ih.2.2.2.1 (lI (lI (lI L 3 ((((((L.1 1)) <<< ((4 : Int32) &&& 31))) >>> ((4 : Int32) &&& 31)))) 100 ((- ((((((L.1 1)) <<< ((4 : Int32) &&& 31))) >>> ((4 : Int32) &&& 31)))))) 101 0) σ r h H locs ls hP hD hS (lv_sub hl [0] rfl)
      · intro L σ r h H locs ls hP hD hS hl
        rw [y_X10_load__a7] at h
        refine lv_aload_n hx hb dX10_load_33 rfl (lv_at hl 0 rfl) ?_
        refine hg_4_0 hx hb hts in_y_X10_load__a7_X10 hown hK hP (hts _ (List.mem_cons_of_mem _ (List.mem_append_left _ (List.mem_append_left _ (List.mem_of_getElem? (i := 0) rfl))))) dX10_load_34 ?_
        refine hg_0_0n hx hb hts in_y_X10_load__a7_X1 hown hK hP (va_Nw.use rfl (hG.1 _ (List.mem_of_getElem? (i := 0) rfl))) dX10_load_37 ?_
        refine lv_iload_n hx hb dX10_load_40 rfl (lv_at hl 1 rfl) ?_
        obtain ⟨q1, h⟩ := kb_ite1 h
        refine hl_3 hx hb hK hP q1 dX10_load_41 ?_
        refine lv_iconst (v := 4) hx hb dX10_load_42 (by decide) ?_
        refine lv_iushr (v := (((σ.2.2.1 3 ((L.1 1)).toNatClampNeg)).toUInt32 >>> ((4 : Int32).toUInt32 &&& Int32.toUInt32 31)).toInt32) hx hb dX10_load_43 rfl ?_
        refine lv_sipush (v := 4095) hx hb dX10_load_44 (by decide) ?_
        refine lv_iand hx hb dX10_load_47 ?_
        refine lv_istore_n (lv' := [(3, .int ((((((σ.2.2.1 3 ((L.1 1)).toNatClampNeg)).toUInt32 >>> ((4 : Int32).toUInt32 &&& Int32.toUInt32 31)).toInt32)) &&& 4095)), (0, .ref (a 4)), (1, .int (L.1 1)), (2, .ref (a 7))]) hx hb dX10_load_48 rfl hl (by decide) rfl (fun ls hl => ?_)
        refine lv_aload_n hx hb dX10_load_49 rfl (lv_at hl 1 rfl) ?_
        refine hg_4_0 hx hb hts in_y_X10_load__a7_X10 hown hK hP (hts _ (List.mem_cons_of_mem _ (List.mem_append_left _ (List.mem_append_left _ (List.mem_of_getElem? (i := 0) rfl))))) dX10_load_50 ?_
        refine hg_0_0n hx hb hts in_y_X10_load__a7_X1 hown hK hP (va_Nw.use rfl (hG.1 _ (List.mem_of_getElem? (i := 0) rfl))) dX10_load_53 ?_
        refine lv_iload_n hx hb dX10_load_56 rfl (lv_at hl 2 rfl) ?_
        refine lv_iconst (v := 1) hx hb dX10_load_57 (by decide) ?_
        refine lv_iadd hx hb dX10_load_58 ?_
        refine lv_aload_n hx hb dX10_load_59 rfl (lv_at hl 3 rfl) ?_
        refine lv_iconst (v := 0) hx hb dX10_load_60 (by decide) ?_
        refine lv_iload_n hx hb dX10_load_61 rfl (lv_at hl 0 rfl) ?_
        obtain ⟨q2, h⟩ := kb_ite1 h
        refine va_copyi (ty := .int) hx hb (hml.trans hl.1.symm) hown (hts _ (List.mem_cons_of_mem _ (List.mem_append_left _ (List.mem_append_left _ (List.mem_of_getElem? (i := 1) rfl))))) (hts _ (List.mem_cons_of_mem _ (List.mem_append_left _ (List.mem_append_left _ (List.mem_of_getElem? (i := 2) rfl))))) (hts _ (List.mem_cons_of_mem _ (List.mem_append_left _ (List.mem_append_left _ (List.mem_of_getElem? (i := 3) rfl))))) (hts _ (List.mem_cons_of_mem _ (List.mem_append_left _ (List.mem_append_left _ (List.mem_of_getElem? (i := 4) rfl))))) hK hP hD hS 3 7 1 1 rfl rfl rfl rfl rfl q2.1 q2.2.1 q2.2.2.1 q2.2.2.2.1 q2.2.2.2.2 (fun _ _ => rfl) (Nat.le_of_ble_eq_true rfl) (Nat.le_of_ble_eq_true rfl) dX10_load_62 (fun H locs hP hD hS => ?_)
        have hP : va_P (dC, dI) nCl (vC cy a z (uF σ 7 (va_cpy (σ.2.2.1 3) (σ.2.2.1 7) ((((L.1 1)) + 1)).toNatClampNeg (0 : Int32).toNatClampNeg (((((((σ.2.2.1 3 ((L.1 1)).toNatClampNeg)).toUInt32 >>> ((4 : Int32).toUInt32 &&& Int32.toUInt32 31)).toInt32)) &&& 4095)).toNatClampNeg))) H := hP
        have hD : va_D A (vC cy a z (uF σ 7 (va_cpy (σ.2.2.1 3) (σ.2.2.1 7) ((((L.1 1)) + 1)).toNatClampNeg (0 : Int32).toNatClampNeg (((((((σ.2.2.1 3 ((L.1 1)).toNatClampNeg)).toUInt32 >>> ((4 : Int32).toUInt32 &&& Int32.toUInt32 31)).toInt32)) &&& 4095)).toNatClampNeg))) := hD
        refine lv_iload_n hx hb dX10_load_65 rfl (lv_at hl 0 rfl) ?_
        obtain rfl := Option.some.inj h
        exact W.iret (v := ((((((σ.2.2.1 3 ((L.1 1)).toNatClampNeg)).toUInt32 >>> ((4 : Int32).toUInt32 &&& Int32.toUInt32 31)).toInt32)) &&& 4095)) hx hb hr (fun t ht hW => ⟨⟨((((((σ.2.2.1 3 ((L.1 1)).toNatClampNeg)).toUInt32 >>> ((4 : Int32).toUInt32 &&& Int32.toUInt32 31)).toInt32)) &&& 4095), (), rfl, rfl, by rw [ht]; exact hP, va_K.moved hW.alike hK, hD⟩, hS.F ht⟩) hS.2.2 dX10_load_66
      · intro L σ r h H locs ls hP hD hS hl
        rw [y_X10_load__a7] at h
        refine lv_iload_n hx hb dX10_load_21 rfl (lv_at hl 0 rfl) ?_
        exact ih.2.2.2.1 (lI (lI L 100 ((L.1 3))) 101 ((L.1 100))) σ r h H locs ls hP hD hS (lv_sub hl [0] rfl)
      · intro L σ r h H locs ls hP hD hS hl
        rw [y_X10_load__a7] at h
        obtain ⟨q1, h⟩ := kb_ite1 h
        refine hs_7 hx hb hK hP hD hS q1 dX10_load_22 (fun H locs hP hD hS => ?_)
        refine lv_iload_n hx hb dX10_load_23 rfl (lv_at hl 0 rfl) ?_
        refine lv_if_ne (tgt := 31) hx hb dX10_load_24 (by decide) (fun c2 => ?_) (fun c2 => ?_)
        · rw [if_neg c2] at h
          exact ih.2.2.2.2.1 L (uA σ 7 ((L.1 101)).toNatClampNeg ((L.1 100))) r h H locs ls hP hD hS (lv_sub hl [] rfl)
        · rw [if_pos c2] at h
          refine lv_iconst (v := 0) hx hb dX10_load_27 (by decide) ?_
          refine lv_goto (tgt := 32) hx hb dX10_load_28 (by decide) ?_
          exact ih.2.2.2.2.2 (lI L 100 0) (uA σ 7 ((L.1 101)).toNatClampNeg ((L.1 100))) r h H locs ls hP hD hS (lv_sub hl [] rfl)
      · intro L σ r h H locs ls hP hD hS hl
        rw [y_X10_load__a7] at h
        refine lv_iconst (v := 1) hx hb dX10_load_31 (by decide) ?_
        exact ih.2.2.2.2.2 (lI L 100 1) σ r h H locs ls hP hD hS (lv_sub hl [] rfl)
      · intro L σ r h H locs ls hP hD hS hl
        rw [y_X10_load__a7] at h
        obtain rfl := Option.some.inj h
        exact W.iret (v := (L.1 100)) hx hb hr (fun t ht hW => ⟨⟨(L.1 100), (), rfl, rfl, by rw [ht]; exact hP, va_K.moved hW.alike hK, hD⟩, hS.F ht⟩) hS.2.2 dX10_load_32
  exact (blk k0).1 L0 σ0 r0 h0 s.heap [] ls hP hD hS hl
/-! X10_negated -/
def y_X10_negated : Nat → Nat → LV → CS → Option (Int32 × CS)
  | 0, _, _, _ => none
  | k + 1, 0, L, σ => oc (y_X10_load__a7 k 0 (lI lZ 1 ((L.1 1))) σ) (fun r1 => oc (y_X10_isBelow k 0 (lI lZ 1 ((L.1 1))) r1.2) (fun r2 => if r2.1 = 0 then (y_X10_negated k 2 (lI (lI L 100 1) 101 r1.1) r2.2) else (y_X10_negated k 1 (lI L 100 r1.1) r2.2)))
  | k + 1, 1, L, σ => y_X10_negated k 2 (lI (lI L 100 0) 101 ((L.1 100))) σ
  | k + 1, 2, L, σ => oc (y_X10_made k 0 (lI (lI lZ 1 ((L.1 101))) 2 ((L.1 100))) σ) (fun r1 => some (r1.1, r1.2))
  | _ + 1, _ + 3, _, _ => none
def o_y_X10_negated : List Cond := [.fieldLink RX10 18 "SetHouse$Wholes" "result" "[I", .methodLink RX10 64 yX10_load, .instanceMethod yX10_load, .selects RX10 yX10_load yX10_load, .initialized RX10, .methodLink RX10 68 yX10_isBelow, .instanceMethod yX10_isBelow, .selects RX10 yX10_isBelow yX10_isBelow, .methodLink RX10 72 yX10_made, .instanceMethod yX10_made, .selects RX10 yX10_made yX10_made]
theorem o_y_X10_negated_good : o_y_X10_negated.all goodWord = true := by decide +kernel
def p_y_X10_negated : List Cond := o_y_X10_negated ++ ((.code yX10_load cX10_load 4 (some .int) :: p_y_X10_load__a7) ++ ((.code yX10_isBelow cX10_isBelow 2 (some .boolean) :: p_y_X10_isBelow) ++ ((.code yX10_made cX10_made 5 (some .int) :: p_y_X10_made) ++ [])))
theorem p_y_X10_negated_good : p_y_X10_negated.all goodWord = true := nb_all2 o_y_X10_negated_good (nb_all2 (nb_allc (by decide +kernel) p_y_X10_load__a7_good) (nb_all2 (nb_allc (by decide +kernel) p_y_X10_isBelow_good) (nb_all2 (nb_allc (by decide +kernel) p_y_X10_made_good) rfl)))
def w_y_X10_negated : List Cond := .code yX10_negated cX10_negated 2 (some .int) :: (p_y_X10_negated ++ fC)
theorem w_y_X10_negated_good : w_y_X10_negated.all goodWord = true := nb_allc (by decide +kernel) (nb_all2 p_y_X10_negated_good fC_good)
theorem in_y_X10_negated_X10 : ∀ w ∈ wsX100, w ∈ w_y_X10_negated := fun _ h => List.mem_cons_of_mem _ (List.mem_append_right _ (List.mem_append_right _ (List.mem_append_right _ (List.mem_append_right _ (List.mem_append_right _ (List.mem_append_right _ (List.mem_append_right _ (List.mem_append_right _ (List.mem_append_right _ (List.mem_append_right _ (List.mem_append_left _ h)))))))))))
theorem hd_y_X10_negated : yX10_negated.cls = RX10 ∧ yX10_negated.cls ≠ "java/lang/invoke/MethodHandle" ∧ yX10_negated.cls ≠ "java/lang/invoke/VarHandle" ∧ (parseMethodDescriptor yX10_negated.desc).map (fun d => d.parameters.length) = some 1 := by decide +kernel
theorem gg_y_X10_negated_X10_isBelow : GoodIn w_y_X10_negated w_y_X10_isBelow := goodIn_sub (fun w h => (List.mem_cons.mp h).elim (fun e => (List.mem_cons_of_mem _ (List.mem_append_left _ (List.mem_append_right _ (List.mem_append_right _ (List.mem_append_left _ (List.mem_cons.mpr (Or.inl e)))))))) (fun h => (List.mem_append.mp h).elim (fun h => (List.mem_cons_of_mem _ (List.mem_append_left _ (List.mem_append_right _ (List.mem_append_right _ (List.mem_append_left _ (List.mem_cons_of_mem _ h))))))) (fun h => List.mem_cons_of_mem _ (List.mem_append_right _ h)))) w_y_X10_isBelow_good
theorem g_y_X10_negated_X10_isBelow_V68 : GoodIn w_y_X10_negated (wsV RX10 68 RX10 yX10_isBelow w_y_X10_isBelow) := goodIn_app (nb_g4 (List.mem_cons_of_mem _ (List.mem_append_left _ (List.mem_append_left _ (List.mem_of_getElem? (i := 5) rfl)))) (List.mem_cons_of_mem _ (List.mem_append_left _ (List.mem_append_left _ (List.mem_of_getElem? (i := 6) rfl)))) (List.mem_cons_of_mem _ (List.mem_append_left _ (List.mem_append_left _ (List.mem_of_getElem? (i := 7) rfl)))) (List.mem_cons_of_mem _ (List.mem_append_left _ (List.mem_append_left _ (List.mem_of_getElem? (i := 4) rfl)))) (by decide +kernel)) gg_y_X10_negated_X10_isBelow
theorem gg_y_X10_negated_X10_load__a7 : GoodIn w_y_X10_negated w_y_X10_load__a7 := goodIn_sub (fun w h => (List.mem_cons.mp h).elim (fun e => (List.mem_cons_of_mem _ (List.mem_append_left _ (List.mem_append_right _ (List.mem_append_left _ (List.mem_cons.mpr (Or.inl e))))))) (fun h => (List.mem_append.mp h).elim (fun h => (List.mem_cons_of_mem _ (List.mem_append_left _ (List.mem_append_right _ (List.mem_append_left _ (List.mem_cons_of_mem _ h)))))) (fun h => List.mem_cons_of_mem _ (List.mem_append_right _ h)))) w_y_X10_load__a7_good
theorem g_y_X10_negated_X10_load__a7_V64 : GoodIn w_y_X10_negated (wsV RX10 64 RX10 yX10_load w_y_X10_load__a7) := goodIn_app (nb_g4 (List.mem_cons_of_mem _ (List.mem_append_left _ (List.mem_append_left _ (List.mem_of_getElem? (i := 1) rfl)))) (List.mem_cons_of_mem _ (List.mem_append_left _ (List.mem_append_left _ (List.mem_of_getElem? (i := 2) rfl)))) (List.mem_cons_of_mem _ (List.mem_append_left _ (List.mem_append_left _ (List.mem_of_getElem? (i := 3) rfl)))) (List.mem_cons_of_mem _ (List.mem_append_left _ (List.mem_append_left _ (List.mem_of_getElem? (i := 4) rfl)))) (by decide +kernel)) gg_y_X10_negated_X10_load__a7
theorem gg_y_X10_negated_X10_made : GoodIn w_y_X10_negated w_y_X10_made := goodIn_sub (fun w h => (List.mem_cons.mp h).elim (fun e => (List.mem_cons_of_mem _ (List.mem_append_left _ (List.mem_append_right _ (List.mem_append_right _ (List.mem_append_right _ (List.mem_append_left _ (List.mem_cons.mpr (Or.inl e))))))))) (fun h => (List.mem_append.mp h).elim (fun h => (List.mem_cons_of_mem _ (List.mem_append_left _ (List.mem_append_right _ (List.mem_append_right _ (List.mem_append_right _ (List.mem_append_left _ (List.mem_cons_of_mem _ h)))))))) (fun h => List.mem_cons_of_mem _ (List.mem_append_right _ h)))) w_y_X10_made_good
theorem g_y_X10_negated_X10_made_V72 : GoodIn w_y_X10_negated (wsV RX10 72 RX10 yX10_made w_y_X10_made) := goodIn_app (nb_g4 (List.mem_cons_of_mem _ (List.mem_append_left _ (List.mem_append_left _ (List.mem_of_getElem? (i := 8) rfl)))) (List.mem_cons_of_mem _ (List.mem_append_left _ (List.mem_append_left _ (List.mem_of_getElem? (i := 9) rfl)))) (List.mem_cons_of_mem _ (List.mem_append_left _ (List.mem_append_left _ (List.mem_of_getElem? (i := 10) rfl)))) (List.mem_cons_of_mem _ (List.mem_append_left _ (List.mem_append_left _ (List.mem_of_getElem? (i := 4) rfl)))) (by decide +kernel)) gg_y_X10_negated_X10_made
set_option maxHeartbeats 40000000 in
set_option maxRecDepth 100000 in
theorem c_y_X10_negated (l : Launch) (dC : Nat → ClassId) (dI : Nat → Nat → Nat) (cy : Nat → ClassId) (a z : Nat → Nat) (k0 : Nat) (L0 : LV) (σ0 : CS) (r0 : Int32 × CS) (h0 : y_X10_negated k0 0 L0 σ0 = some r0) (sz : Nat) : Met l yX10_negated w_y_X10_negated ({ frames := 3, cells := 0, slots := 0, locals := 108 }) (va_Pc [.ref (a 4), .int (L0.1 1)] (nIn (dC, dI) cy sz (vC cy a z σ0))) (va_Qi (fun (x : Int32) (_ : Unit) => x = r0.1) (fun _ t => nOut (dC, dI) cy (va_A (vC cy a z σ0) sz) (vC cy a z r0.2) t) (va_A (vC cy a z σ0) sz)) 0 0 (va_A (vC cy a z σ0) sz) := by
  refine Met.ofW (cc := cX10_negated) (maxL := 2) (ret := (some .int)) (by decide) rfl ?_
  intro p e s m args below meth c s₁ B hml hv
  obtain ⟨rfl, hsz, hP, hK, hD0, hG⟩ := hv
  have hx := B.exec
  have hb := B.bytes
  have hr := B.returns
  have hts := atoms_spec (ws := w_y_X10_negated) B.pre
  have hown : s.vm.findClass RX10 = some m.cls := findClass_of_methodNamed B.named
  have hlocks := B.notSynchronized
  subst hsz
  have hD := hD0.self (sz := s.heap.size)
  generalize hAe : va_A (vC cy a z σ0) s.heap.size = A at hD ⊢
  have hA : ∀ q : Nat, s.heap.size ≤ q → A q := fun q h => by rw [← hAe]; exact Or.inr h
  have hS : va_S A s.heap s.heap [] := va_S.rf
  have hl := lv_entry ([.ref (a 4), .int (L0.1 1)]) (n := 2) (Nat.le_of_ble_eq_true rfl)
  rw [lg_entry_eq]
  generalize (lg_sl ([.ref (a 4), .int (L0.1 1)]) ++ List.replicate (2 - (lg_sl ([.ref (a 4), .int (L0.1 1)])).length) Slot.unset).toArray = ls at hl ⊢
  have hl : lv_has ls 2 [(0, .ref (a 4)), (1, .int (L0.1 1))] := hl
  have blk : ∀ k : Nat, (bC p l e (headSpec w_y_X10_negated ({ frames := 3, cells := 0, slots := 0, locals := 108 })).room s m #[.ref (a 4), .int (L0.1 1)] below meth c dC dI cy a z A (kI dC dI cy a z A below #[.ref (a 4), .int (L0.1 1)] s) 2 (y_X10_negated k 0) (fun L => [(0, .ref (a 4)), (1, .int (L.1 1))]) 0 (fun L => [])) ∧ (bC p l e (headSpec w_y_X10_negated ({ frames := 3, cells := 0, slots := 0, locals := 108 })).room s m #[.ref (a 4), .int (L0.1 1)] below meth c dC dI cy a z A (kI dC dI cy a z A below #[.ref (a 4), .int (L0.1 1)] s) 2 (y_X10_negated k 1) (fun L => []) 22 (fun L => [.int (L.1 100), .ref (a 4)])) ∧ (bC p l e (headSpec w_y_X10_negated ({ frames := 3, cells := 0, slots := 0, locals := 108 })).room s m #[.ref (a 4), .int (L0.1 1)] below meth c dC dI cy a z A (kI dC dI cy a z A below #[.ref (a 4), .int (L0.1 1)] s) 2 (y_X10_negated k 2) (fun L => []) 23 (fun L => [.int (L.1 100), .int (L.1 101), .ref (a 4)])) := by
    intro k
    induction k with
    | zero => exact ⟨fun L σ r h => (by cases h), fun L σ r h => (by cases h), fun L σ r h => (by cases h)⟩
    | succ k ih =>
      refine ⟨?_, ?_, ?_⟩
      · intro L σ r h H locs ls hP hD hS hl
        rw [y_X10_negated] at h
        refine lv_aload_n hx hb dX10_negated_0 rfl (lv_at hl 0 rfl) ?_
        refine lv_aload_n hx hb dX10_negated_1 rfl (lv_at hl 0 rfl) ?_
        refine lv_iload_n hx hb dX10_negated_2 rfl (lv_at hl 1 rfl) ?_
        refine lv_aload_n hx hb dX10_negated_3 rfl (lv_at hl 0 rfl) ?_
        refine hg_4_3 hx hb hts in_y_X10_negated_X10 hown hK hP (hts _ (List.mem_cons_of_mem _ (List.mem_append_left _ (List.mem_append_left _ (List.mem_of_getElem? (i := 0) rfl))))) dX10_negated_4 ?_
        obtain ⟨r1, hc1, h⟩ := oc_ex h
        refine kc_i (va_runV (As := [.int (L.1 1), .ref (a 7)]) (rest := [.ref (a 4)]) ⟨hx, hb, hml, hown, hts⟩ (c_y_X10_load__a7 l dC dI cy a z k (lI lZ 1 ((L.1 1))) σ r1 hc1 H.size) (cwV 2 hts g_y_X10_negated_X10_load__a7_V64 rfl rfl rfl hd_y_X10_load__a7 ⟨Nat.le_of_ble_eq_true rfl, Nat.le_of_ble_eq_true rfl⟩) ⟨nb_blind, va_recv hK hP (ci := 9) (q0 := 4) rfl rfl, (kb_pre hK hG hP hD)⟩ rfl rfl hl.1 rfl (lv_room (Nat.le_of_ble_eq_true rfl)) dX10_negated_7 ⟨Nat.le_refl _, Nat.le_refl _⟩) hA hP hD hS (fun H locs hP hD hS => ?_)
        refine lv_aload_n hx hb dX10_negated_10 rfl (lv_at hl 0 rfl) ?_
        refine lv_iload_n hx hb dX10_negated_11 rfl (lv_at hl 1 rfl) ?_
        obtain ⟨r2, hc2, h⟩ := oc_ex h
        refine kc_i (va_runV (As := [.int (L.1 1)]) (rest := [.int r1.1, .ref (a 4)]) ⟨hx, hb, hml, hown, hts⟩ (c_y_X10_isBelow l dC dI cy a z k (lI lZ 1 ((L.1 1))) r1.2 r2 hc2 H.size) (cwV 1 hts g_y_X10_negated_X10_isBelow_V68 rfl rfl rfl hd_y_X10_isBelow ⟨Nat.le_of_ble_eq_true rfl, Nat.le_of_ble_eq_true rfl⟩) ⟨nb_blind, va_recv hK hP (ci := 9) (q0 := 4) rfl rfl, (kb_pre hK hG hP hD)⟩ rfl rfl hl.1 rfl (lv_room (Nat.le_of_ble_eq_true rfl)) dX10_negated_12 ⟨Nat.le_refl _, Nat.le_refl _⟩) hA hP hD hS (fun H locs hP hD hS => ?_)
        refine lv_if_ne (tgt := 22) hx hb dX10_negated_15 (by decide) (fun c3 => ?_) (fun c3 => ?_)
        · rw [if_neg c3] at h
          exact ih.2.1 (lI L 100 r1.1) r2.2 r h H locs ls hP hD hS (lv_sub hl [] rfl)
        · rw [if_pos c3] at h
          refine lv_iconst (v := 1) hx hb dX10_negated_18 (by decide) ?_
          refine lv_goto (tgt := 23) hx hb dX10_negated_19 (by decide) ?_
          exact ih.2.2 (lI (lI L 100 1) 101 r1.1) r2.2 r h H locs ls hP hD hS (lv_sub hl [] rfl)
      · intro L σ r h H locs ls hP hD hS hl
        rw [y_X10_negated] at h
        refine lv_iconst (v := 0) hx hb dX10_negated_22 (by decide) ?_
        exact ih.2.2 (lI (lI L 100 0) 101 ((L.1 100))) σ r h H locs ls hP hD hS (lv_sub hl [] rfl)
      · intro L σ r h H locs ls hP hD hS hl
        rw [y_X10_negated] at h
        obtain ⟨r1, hc1, h⟩ := oc_ex h
        refine kc_i (va_runV (As := [.int (L.1 101), .int (L.1 100)]) (rest := []) ⟨hx, hb, hml, hown, hts⟩ (c_y_X10_made l dC dI cy a z k (lI (lI lZ 1 ((L.1 101))) 2 ((L.1 100))) σ r1 hc1 H.size) (cwV 2 hts g_y_X10_negated_X10_made_V72 rfl rfl rfl hd_y_X10_made ⟨Nat.le_of_ble_eq_true rfl, Nat.le_of_ble_eq_true rfl⟩) ⟨nb_blind, va_recv hK hP (ci := 9) (q0 := 4) rfl rfl, (kb_pre hK hG hP hD)⟩ rfl rfl hl.1 rfl (lv_room (Nat.le_of_ble_eq_true rfl)) dX10_negated_23 ⟨Nat.le_refl _, Nat.le_refl _⟩) hA hP hD hS (fun H locs hP hD hS => ?_)
        obtain rfl := Option.some.inj h
        exact W.iret (v := r1.1) hx hb hr (fun t ht hW => ⟨⟨r1.1, (), rfl, rfl, by rw [ht]; exact hP, va_K.moved hW.alike hK, hD⟩, hS.F ht⟩) hS.2.2 dX10_negated_26
  exact (blk k0).1 L0 σ0 r0 h0 s.heap [] ls hP hD hS hl
/-! X10_absolute -/
def y_X10_absolute : Nat → Nat → LV → CS → Option (Int32 × CS)
  | 0, _, _, _ => none
  | k + 1, 0, L, σ => oc (y_X10_isBelow k 0 (lI lZ 1 ((L.1 1))) σ) (fun r1 => if r1.1 = 0 then (y_X10_absolute k 1 L r1.2) else (oc (y_X10_negated k 0 (lI lZ 1 ((L.1 1))) r1.2) (fun r3 => y_X10_absolute k 2 (lI L 100 r3.1) r3.2)))
  | k + 1, 1, L, σ => y_X10_absolute k 2 (lI L 100 ((L.1 1))) σ
  | k + 1, 2, L, σ => some ((L.1 100), σ)
  | _ + 1, _ + 3, _, _ => none
def o_y_X10_absolute : List Cond := [.methodLink RX10 68 yX10_isBelow, .instanceMethod yX10_isBelow, .selects RX10 yX10_isBelow yX10_isBelow, .initialized RX10, .methodLink RX10 76 yX10_negated, .instanceMethod yX10_negated, .selects RX10 yX10_negated yX10_negated]
theorem o_y_X10_absolute_good : o_y_X10_absolute.all goodWord = true := by decide +kernel
def p_y_X10_absolute : List Cond := o_y_X10_absolute ++ ((.code yX10_isBelow cX10_isBelow 2 (some .boolean) :: p_y_X10_isBelow) ++ ((.code yX10_negated cX10_negated 2 (some .int) :: p_y_X10_negated) ++ []))
theorem p_y_X10_absolute_good : p_y_X10_absolute.all goodWord = true := nb_all2 o_y_X10_absolute_good (nb_all2 (nb_allc (by decide +kernel) p_y_X10_isBelow_good) (nb_all2 (nb_allc (by decide +kernel) p_y_X10_negated_good) rfl))
def w_y_X10_absolute : List Cond := .code yX10_absolute cX10_absolute 2 (some .int) :: (p_y_X10_absolute ++ fC)
theorem w_y_X10_absolute_good : w_y_X10_absolute.all goodWord = true := nb_allc (by decide +kernel) (nb_all2 p_y_X10_absolute_good fC_good)
theorem hd_y_X10_absolute : yX10_absolute.cls = RX10 ∧ yX10_absolute.cls ≠ "java/lang/invoke/MethodHandle" ∧ yX10_absolute.cls ≠ "java/lang/invoke/VarHandle" ∧ (parseMethodDescriptor yX10_absolute.desc).map (fun d => d.parameters.length) = some 1 := by decide +kernel
theorem gg_y_X10_absolute_X10_isBelow : GoodIn w_y_X10_absolute w_y_X10_isBelow := goodIn_sub (fun w h => (List.mem_cons.mp h).elim (fun e => (List.mem_cons_of_mem _ (List.mem_append_left _ (List.mem_append_right _ (List.mem_append_left _ (List.mem_cons.mpr (Or.inl e))))))) (fun h => (List.mem_append.mp h).elim (fun h => (List.mem_cons_of_mem _ (List.mem_append_left _ (List.mem_append_right _ (List.mem_append_left _ (List.mem_cons_of_mem _ h)))))) (fun h => List.mem_cons_of_mem _ (List.mem_append_right _ h)))) w_y_X10_isBelow_good
theorem g_y_X10_absolute_X10_isBelow_V68 : GoodIn w_y_X10_absolute (wsV RX10 68 RX10 yX10_isBelow w_y_X10_isBelow) := goodIn_app (nb_g4 (List.mem_cons_of_mem _ (List.mem_append_left _ (List.mem_append_left _ (List.mem_of_getElem? (i := 0) rfl)))) (List.mem_cons_of_mem _ (List.mem_append_left _ (List.mem_append_left _ (List.mem_of_getElem? (i := 1) rfl)))) (List.mem_cons_of_mem _ (List.mem_append_left _ (List.mem_append_left _ (List.mem_of_getElem? (i := 2) rfl)))) (List.mem_cons_of_mem _ (List.mem_append_left _ (List.mem_append_left _ (List.mem_of_getElem? (i := 3) rfl)))) (by decide +kernel)) gg_y_X10_absolute_X10_isBelow
theorem gg_y_X10_absolute_X10_negated : GoodIn w_y_X10_absolute w_y_X10_negated := goodIn_sub (fun w h => (List.mem_cons.mp h).elim (fun e => (List.mem_cons_of_mem _ (List.mem_append_left _ (List.mem_append_right _ (List.mem_append_right _ (List.mem_append_left _ (List.mem_cons.mpr (Or.inl e)))))))) (fun h => (List.mem_append.mp h).elim (fun h => (List.mem_cons_of_mem _ (List.mem_append_left _ (List.mem_append_right _ (List.mem_append_right _ (List.mem_append_left _ (List.mem_cons_of_mem _ h))))))) (fun h => List.mem_cons_of_mem _ (List.mem_append_right _ h)))) w_y_X10_negated_good
theorem g_y_X10_absolute_X10_negated_V76 : GoodIn w_y_X10_absolute (wsV RX10 76 RX10 yX10_negated w_y_X10_negated) := goodIn_app (nb_g4 (List.mem_cons_of_mem _ (List.mem_append_left _ (List.mem_append_left _ (List.mem_of_getElem? (i := 4) rfl)))) (List.mem_cons_of_mem _ (List.mem_append_left _ (List.mem_append_left _ (List.mem_of_getElem? (i := 5) rfl)))) (List.mem_cons_of_mem _ (List.mem_append_left _ (List.mem_append_left _ (List.mem_of_getElem? (i := 6) rfl)))) (List.mem_cons_of_mem _ (List.mem_append_left _ (List.mem_append_left _ (List.mem_of_getElem? (i := 3) rfl)))) (by decide +kernel)) gg_y_X10_absolute_X10_negated
set_option maxHeartbeats 40000000 in
set_option maxRecDepth 100000 in
theorem c_y_X10_absolute (l : Launch) (dC : Nat → ClassId) (dI : Nat → Nat → Nat) (cy : Nat → ClassId) (a z : Nat → Nat) (k0 : Nat) (L0 : LV) (σ0 : CS) (r0 : Int32 × CS) (h0 : y_X10_absolute k0 0 L0 σ0 = some r0) (sz : Nat) : Met l yX10_absolute w_y_X10_absolute ({ frames := 4, cells := 0, slots := 0, locals := 129 }) (va_Pc [.ref (a 4), .int (L0.1 1)] (nIn (dC, dI) cy sz (vC cy a z σ0))) (va_Qi (fun (x : Int32) (_ : Unit) => x = r0.1) (fun _ t => nOut (dC, dI) cy (va_A (vC cy a z σ0) sz) (vC cy a z r0.2) t) (va_A (vC cy a z σ0) sz)) 0 0 (va_A (vC cy a z σ0) sz) := by
  refine Met.ofW (cc := cX10_absolute) (maxL := 2) (ret := (some .int)) (by decide) rfl ?_
  intro p e s m args below meth c s₁ B hml hv
  obtain ⟨rfl, hsz, hP, hK, hD0, hG⟩ := hv
  have hx := B.exec
  have hb := B.bytes
  have hr := B.returns
  have hts := atoms_spec (ws := w_y_X10_absolute) B.pre
  have hown : s.vm.findClass RX10 = some m.cls := findClass_of_methodNamed B.named
  have hlocks := B.notSynchronized
  subst hsz
  have hD := hD0.self (sz := s.heap.size)
  generalize hAe : va_A (vC cy a z σ0) s.heap.size = A at hD ⊢
  have hA : ∀ q : Nat, s.heap.size ≤ q → A q := fun q h => by rw [← hAe]; exact Or.inr h
  have hS : va_S A s.heap s.heap [] := va_S.rf
  have hl := lv_entry ([.ref (a 4), .int (L0.1 1)]) (n := 2) (Nat.le_of_ble_eq_true rfl)
  rw [lg_entry_eq]
  generalize (lg_sl ([.ref (a 4), .int (L0.1 1)]) ++ List.replicate (2 - (lg_sl ([.ref (a 4), .int (L0.1 1)])).length) Slot.unset).toArray = ls at hl ⊢
  have hl : lv_has ls 2 [(0, .ref (a 4)), (1, .int (L0.1 1))] := hl
  have blk : ∀ k : Nat, (bC p l e (headSpec w_y_X10_absolute ({ frames := 4, cells := 0, slots := 0, locals := 129 })).room s m #[.ref (a 4), .int (L0.1 1)] below meth c dC dI cy a z A (kI dC dI cy a z A below #[.ref (a 4), .int (L0.1 1)] s) 2 (y_X10_absolute k 0) (fun L => [(0, .ref (a 4)), (1, .int (L.1 1))]) 0 (fun L => [])) ∧ (bC p l e (headSpec w_y_X10_absolute ({ frames := 4, cells := 0, slots := 0, locals := 129 })).room s m #[.ref (a 4), .int (L0.1 1)] below meth c dC dI cy a z A (kI dC dI cy a z A below #[.ref (a 4), .int (L0.1 1)] s) 2 (y_X10_absolute k 1) (fun L => [(1, .int (L.1 1))]) 16 (fun L => [])) ∧ (bC p l e (headSpec w_y_X10_absolute ({ frames := 4, cells := 0, slots := 0, locals := 129 })).room s m #[.ref (a 4), .int (L0.1 1)] below meth c dC dI cy a z A (kI dC dI cy a z A below #[.ref (a 4), .int (L0.1 1)] s) 2 (y_X10_absolute k 2) (fun L => []) 17 (fun L => [.int (L.1 100)])) := by
    intro k
    induction k with
    | zero => exact ⟨fun L σ r h => (by cases h), fun L σ r h => (by cases h), fun L σ r h => (by cases h)⟩
    | succ k ih =>
      refine ⟨?_, ?_, ?_⟩
      · intro L σ r h H locs ls hP hD hS hl
        rw [y_X10_absolute] at h
        refine lv_aload_n hx hb dX10_absolute_0 rfl (lv_at hl 0 rfl) ?_
        refine lv_iload_n hx hb dX10_absolute_1 rfl (lv_at hl 1 rfl) ?_
        obtain ⟨r1, hc1, h⟩ := oc_ex h
        refine kc_i (va_runV (As := [.int (L.1 1)]) (rest := []) ⟨hx, hb, hml, hown, hts⟩ (c_y_X10_isBelow l dC dI cy a z k (lI lZ 1 ((L.1 1))) σ r1 hc1 H.size) (cwV 1 hts g_y_X10_absolute_X10_isBelow_V68 rfl rfl rfl hd_y_X10_isBelow ⟨Nat.le_of_ble_eq_true rfl, Nat.le_of_ble_eq_true rfl⟩) ⟨nb_blind, va_recv hK hP (ci := 9) (q0 := 4) rfl rfl, (kb_pre hK hG hP hD)⟩ rfl rfl hl.1 rfl (lv_room (Nat.le_of_ble_eq_true rfl)) dX10_absolute_2 ⟨Nat.le_refl _, Nat.le_refl _⟩) hA hP hD hS (fun H locs hP hD hS => ?_)
        refine lv_if_eq (tgt := 16) hx hb dX10_absolute_5 (by decide) (fun c2 => ?_) (fun c2 => ?_)
        · rw [if_pos c2] at h
          exact ih.2.1 L r1.2 r h H locs ls hP hD hS (lv_sub hl [1] rfl)
        · rw [if_neg c2] at h
          refine lv_aload_n hx hb dX10_absolute_8 rfl (lv_at hl 0 rfl) ?_
          refine lv_iload_n hx hb dX10_absolute_9 rfl (lv_at hl 1 rfl) ?_
          obtain ⟨r3, hc3, h⟩ := oc_ex h
          refine kc_i (va_runV (As := [.int (L.1 1)]) (rest := []) ⟨hx, hb, hml, hown, hts⟩ (c_y_X10_negated l dC dI cy a z k (lI lZ 1 ((L.1 1))) r1.2 r3 hc3 H.size) (cwV 1 hts g_y_X10_absolute_X10_negated_V76 rfl rfl rfl hd_y_X10_negated ⟨Nat.le_of_ble_eq_true rfl, Nat.le_of_ble_eq_true rfl⟩) ⟨nb_blind, va_recv hK hP (ci := 9) (q0 := 4) rfl rfl, (kb_pre hK hG hP hD)⟩ rfl rfl hl.1 rfl (lv_room (Nat.le_of_ble_eq_true rfl)) dX10_absolute_10 ⟨Nat.le_refl _, Nat.le_refl _⟩) hA hP hD hS (fun H locs hP hD hS => ?_)
          refine lv_goto (tgt := 17) hx hb dX10_absolute_13 (by decide) ?_
          exact ih.2.2 (lI L 100 r3.1) r3.2 r h H locs ls hP hD hS (lv_sub hl [] rfl)
      · intro L σ r h H locs ls hP hD hS hl
        rw [y_X10_absolute] at h
        refine lv_iload_n hx hb dX10_absolute_16 rfl (lv_at hl 0 rfl) ?_
        exact ih.2.2 (lI L 100 ((L.1 1))) σ r h H locs ls hP hD hS (lv_sub hl [] rfl)
      · intro L σ r h H locs ls hP hD hS hl
        rw [y_X10_absolute] at h
        obtain rfl := Option.some.inj h
        exact W.iret (v := (L.1 100)) hx hb hr (fun t ht hW => ⟨⟨(L.1 100), (), rfl, rfl, by rw [ht]; exact hP, va_K.moved hW.alike hK, hD⟩, hS.F ht⟩) hS.2.2 dX10_absolute_17
  exact (blk k0).1 L0 σ0 r0 h0 s.heap [] ls hP hD hS hl
/-! X10_resultLimb -/
def y_X10_resultLimb : Nat → Nat → LV → CS → Option (Int32 × CS)
  | 0, _, _, _ => none
  | k + 1, 0, L, σ => if ((L.1 1)) < 0 then (y_X10_resultLimb k 1 L σ) else (if ((σ.1 404)) ≤ ((L.1 1)) then (y_X10_resultLimb k 1 L σ) else (if ¬ (((L.1 1)) < 0 ∨ 72 ≤ ((L.1 1)).toNatClampNeg) then (y_X10_resultLimb k 2 (lI L 100 ((σ.2.2.1 7 ((L.1 1)).toNatClampNeg))) σ) else none))
  | k + 1, 1, L, σ => y_X10_resultLimb k 2 (lI L 100 0) σ
  | k + 1, 2, L, σ => some ((L.1 100), σ)
  | _ + 1, _ + 3, _, _ => none
def o_y_X10_resultLimb : List Cond := [.fieldLink RX10 169 "SetHouse$Wholes" "resultLimbs" "I", .fieldLink RX10 18 "SetHouse$Wholes" "result" "[I"]
theorem o_y_X10_resultLimb_good : o_y_X10_resultLimb.all goodWord = true := by decide +kernel
def p_y_X10_resultLimb : List Cond := o_y_X10_resultLimb ++ []
theorem p_y_X10_resultLimb_good : p_y_X10_resultLimb.all goodWord = true := nb_all2 o_y_X10_resultLimb_good rfl
def w_y_X10_resultLimb : List Cond := .code yX10_resultLimb cX10_resultLimb 2 (some .int) :: (p_y_X10_resultLimb ++ fC)
theorem w_y_X10_resultLimb_good : w_y_X10_resultLimb.all goodWord = true := nb_allc (by decide +kernel) (nb_all2 p_y_X10_resultLimb_good fC_good)
theorem in_y_X10_resultLimb_X10 : ∀ w ∈ wsX100, w ∈ w_y_X10_resultLimb := fun _ h => List.mem_cons_of_mem _ (List.mem_append_right _ (List.mem_append_right _ (List.mem_append_right _ (List.mem_append_right _ (List.mem_append_right _ (List.mem_append_right _ (List.mem_append_right _ (List.mem_append_right _ (List.mem_append_right _ (List.mem_append_right _ (List.mem_append_left _ h)))))))))))
theorem hd_y_X10_resultLimb : yX10_resultLimb.cls = RX10 ∧ yX10_resultLimb.cls ≠ "java/lang/invoke/MethodHandle" ∧ yX10_resultLimb.cls ≠ "java/lang/invoke/VarHandle" ∧ (parseMethodDescriptor yX10_resultLimb.desc).map (fun d => d.parameters.length) = some 1 := by decide +kernel
set_option maxHeartbeats 40000000 in
set_option maxRecDepth 100000 in
theorem c_y_X10_resultLimb (l : Launch) (dC : Nat → ClassId) (dI : Nat → Nat → Nat) (cy : Nat → ClassId) (a z : Nat → Nat) (k0 : Nat) (L0 : LV) (σ0 : CS) (r0 : Int32 × CS) (h0 : y_X10_resultLimb k0 0 L0 σ0 = some r0) (sz : Nat) : Met l yX10_resultLimb w_y_X10_resultLimb ({ frames := 0, cells := 0, slots := 0, locals := 0 }) (va_Pc [.ref (a 4), .int (L0.1 1)] (nIn (dC, dI) cy sz (vC cy a z σ0))) (va_Qi (fun (x : Int32) (_ : Unit) => x = r0.1) (fun _ t => nOut (dC, dI) cy (va_A (vC cy a z σ0) sz) (vC cy a z r0.2) t) (va_A (vC cy a z σ0) sz)) 0 0 (va_A (vC cy a z σ0) sz) := by
  refine Met.ofW (cc := cX10_resultLimb) (maxL := 2) (ret := (some .int)) (by decide) rfl ?_
  intro p e s m args below meth c s₁ B hml hv
  obtain ⟨rfl, hsz, hP, hK, hD0, hG⟩ := hv
  have hx := B.exec
  have hb := B.bytes
  have hr := B.returns
  have hts := atoms_spec (ws := w_y_X10_resultLimb) B.pre
  have hown : s.vm.findClass RX10 = some m.cls := findClass_of_methodNamed B.named
  have hlocks := B.notSynchronized
  subst hsz
  have hD := hD0.self (sz := s.heap.size)
  generalize hAe : va_A (vC cy a z σ0) s.heap.size = A at hD ⊢
  have hA : ∀ q : Nat, s.heap.size ≤ q → A q := fun q h => by rw [← hAe]; exact Or.inr h
  have hS : va_S A s.heap s.heap [] := va_S.rf
  have hl := lv_entry ([.ref (a 4), .int (L0.1 1)]) (n := 2) (Nat.le_of_ble_eq_true rfl)
  rw [lg_entry_eq]
  generalize (lg_sl ([.ref (a 4), .int (L0.1 1)]) ++ List.replicate (2 - (lg_sl ([.ref (a 4), .int (L0.1 1)])).length) Slot.unset).toArray = ls at hl ⊢
  have hl : lv_has ls 2 [(0, .ref (a 4)), (1, .int (L0.1 1))] := hl
  have blk : ∀ k : Nat, (bC p l e (headSpec w_y_X10_resultLimb ({ frames := 0, cells := 0, slots := 0, locals := 0 })).room s m #[.ref (a 4), .int (L0.1 1)] below meth c dC dI cy a z A (kI dC dI cy a z A below #[.ref (a 4), .int (L0.1 1)] s) 2 (y_X10_resultLimb k 0) (fun L => [(0, .ref (a 4)), (1, .int (L.1 1))]) 0 (fun L => [])) ∧ (bC p l e (headSpec w_y_X10_resultLimb ({ frames := 0, cells := 0, slots := 0, locals := 0 })).room s m #[.ref (a 4), .int (L0.1 1)] below meth c dC dI cy a z A (kI dC dI cy a z A below #[.ref (a 4), .int (L0.1 1)] s) 2 (y_X10_resultLimb k 1) (fun L => []) 21 (fun L => [])) ∧ (bC p l e (headSpec w_y_X10_resultLimb ({ frames := 0, cells := 0, slots := 0, locals := 0 })).room s m #[.ref (a 4), .int (L0.1 1)] below meth c dC dI cy a z A (kI dC dI cy a z A below #[.ref (a 4), .int (L0.1 1)] s) 2 (y_X10_resultLimb k 2) (fun L => []) 22 (fun L => [.int (L.1 100)])) := by
    intro k
    induction k with
    | zero => exact ⟨fun L σ r h => (by cases h), fun L σ r h => (by cases h), fun L σ r h => (by cases h)⟩
    | succ k ih =>
      refine ⟨?_, ?_, ?_⟩
      · intro L σ r h H locs ls hP hD hS hl
        rw [y_X10_resultLimb] at h
        refine lv_iload_n hx hb dX10_resultLimb_0 rfl (lv_at hl 1 rfl) ?_
        refine lv_if_lt (tgt := 21) hx hb dX10_resultLimb_1 (by decide) (fun c1 => ?_) (fun c1 => ?_)
        · rw [if_pos c1] at h
          exact ih.2.1 L σ r h H locs ls hP hD hS (lv_sub hl [] rfl)
        · rw [if_neg c1] at h
          refine lv_iload_n hx hb dX10_resultLimb_4 rfl (lv_at hl 1 rfl) ?_
          refine lv_aload_n hx hb dX10_resultLimb_5 rfl (lv_at hl 0 rfl) ?_
          refine hg_4_4 hx hb hts in_y_X10_resultLimb_X10 hown hK hP (hts _ (List.mem_cons_of_mem _ (List.mem_append_left _ (List.mem_append_left _ (List.mem_of_getElem? (i := 0) rfl))))) dX10_resultLimb_6 ?_
          refine lv_icmp_ge (tgt := 21) hx hb dX10_resultLimb_9 (by decide) (fun c2 => ?_) (fun c2 => ?_)
          · rw [if_pos c2] at h
            exact ih.2.1 L σ r h H locs ls hP hD hS (lv_sub hl [] rfl)
          · rw [if_neg c2] at h
            refine lv_aload_n hx hb dX10_resultLimb_12 rfl (lv_at hl 0 rfl) ?_
            refine hg_4_3 hx hb hts in_y_X10_resultLimb_X10 hown hK hP (hts _ (List.mem_cons_of_mem _ (List.mem_append_left _ (List.mem_append_left _ (List.mem_of_getElem? (i := 1) rfl))))) dX10_resultLimb_13 ?_
            refine lv_iload_n hx hb dX10_resultLimb_16 rfl (lv_at hl 1 rfl) ?_
            obtain ⟨q3, h⟩ := kb_ite1 h
            refine hl_7 hx hb hK hP q3 dX10_resultLimb_17 ?_
            refine lv_goto (tgt := 22) hx hb dX10_resultLimb_18 (by decide) ?_
            exact ih.2.2 (lI L 100 ((σ.2.2.1 7 ((L.1 1)).toNatClampNeg))) σ r h H locs ls hP hD hS (lv_sub hl [] rfl)
      · intro L σ r h H locs ls hP hD hS hl
        rw [y_X10_resultLimb] at h
        refine lv_iconst (v := 0) hx hb dX10_resultLimb_21 (by decide) ?_
        exact ih.2.2 (lI L 100 0) σ r h H locs ls hP hD hS (lv_sub hl [] rfl)
      · intro L σ r h H locs ls hP hD hS hl
        rw [y_X10_resultLimb] at h
        obtain rfl := Option.some.inj h
        exact W.iret (v := (L.1 100)) hx hb hr (fun t ht hW => ⟨⟨(L.1 100), (), rfl, rfl, by rw [ht]; exact hP, va_K.moved hW.alike hK, hD⟩, hS.F ht⟩) hS.2.2 dX10_resultLimb_22
  exact (blk k0).1 L0 σ0 r0 h0 s.heap [] ls hP hD hS hl
/-! X10_takeBillion -/
def y_X10_takeBillion : Nat → Nat → LV → CS → Option (Int32 × CS)
  | 0, _, _, _ => none
  | k + 1, 0, L, σ => y_X10_takeBillion k 1 (lI (lJ L 2 0) 4 ((((L.1 1)) - 1))) σ
  | k + 1, 1, L, σ => if ((L.1 4)) < 0 then (y_X10_takeBillion k 2 L σ) else (if ¬ (((L.1 4)) < 0 ∨ 72 ≤ ((L.1 4)).toNatClampNeg) then (if (1000000000 : Int64) = 0 then none else (if ¬ (((L.1 4)) < 0 ∨ 72 ≤ ((L.1 4)).toNatClampNeg) then (if (1000000000 : Int64) = 0 then none else (y_X10_takeBillion k 1 (lI (lJ L 2 ((((((((L.2.1 2)) <<< ((32 : Int32).toInt64 &&& 63))) ||| ((((((σ.2.2.1 5 ((L.1 4)).toNatClampNeg)).toInt64)) &&& 4294967295)))) - ((((((L.2.1 2)) <<< ((32 : Int32).toInt64 &&& 63))) ||| ((((((σ.2.2.1 5 ((L.1 4)).toNatClampNeg)).toInt64)) &&& 4294967295)))) / 1000000000 * 1000000000))) 4 ((((L.1 4)) + (-1)))) (uA σ 5 ((L.1 4)).toNatClampNeg ((((((((((L.2.1 2)) <<< ((32 : Int32).toInt64 &&& 63))) ||| ((((((σ.2.2.1 5 ((L.1 4)).toNatClampNeg)).toInt64)) &&& 4294967295)))) / 1000000000)).toInt32))))) else none)) else none)
  | k + 1, 2, L, σ => some ((((L.2.1 2)).toInt32), σ)
  | _ + 1, _ + 3, _, _ => none
def o_y_X10_takeBillion : List Cond := [.fieldLink RX10 9 "SetHouse$Wholes" "left" "[I", .constantLong RX10 105 (4294967295), .constantLong RX10 180 (1000000000)]
theorem o_y_X10_takeBillion_good : o_y_X10_takeBillion.all goodWord = true := by decide +kernel
def p_y_X10_takeBillion : List Cond := o_y_X10_takeBillion ++ []
theorem p_y_X10_takeBillion_good : p_y_X10_takeBillion.all goodWord = true := nb_all2 o_y_X10_takeBillion_good rfl
def w_y_X10_takeBillion : List Cond := .code yX10_takeBillion cX10_takeBillion 7 (some .int) :: (p_y_X10_takeBillion ++ fC)
theorem w_y_X10_takeBillion_good : w_y_X10_takeBillion.all goodWord = true := nb_allc (by decide +kernel) (nb_all2 p_y_X10_takeBillion_good fC_good)
theorem in_y_X10_takeBillion_X10 : ∀ w ∈ wsX100, w ∈ w_y_X10_takeBillion := fun _ h => List.mem_cons_of_mem _ (List.mem_append_right _ (List.mem_append_right _ (List.mem_append_right _ (List.mem_append_right _ (List.mem_append_right _ (List.mem_append_right _ (List.mem_append_right _ (List.mem_append_right _ (List.mem_append_right _ (List.mem_append_right _ (List.mem_append_left _ h)))))))))))
theorem hd_y_X10_takeBillion : yX10_takeBillion.cls = RX10 ∧ yX10_takeBillion.cls ≠ "java/lang/invoke/MethodHandle" ∧ yX10_takeBillion.cls ≠ "java/lang/invoke/VarHandle" ∧ (parseMethodDescriptor yX10_takeBillion.desc).map (fun d => d.parameters.length) = some 1 := by decide +kernel
set_option maxHeartbeats 40000000 in
set_option maxRecDepth 100000 in
theorem c_y_X10_takeBillion (l : Launch) (dC : Nat → ClassId) (dI : Nat → Nat → Nat) (cy : Nat → ClassId) (a z : Nat → Nat) (k0 : Nat) (L0 : LV) (σ0 : CS) (r0 : Int32 × CS) (h0 : y_X10_takeBillion k0 0 L0 σ0 = some r0) (sz : Nat) : Met l yX10_takeBillion w_y_X10_takeBillion ({ frames := 0, cells := 0, slots := 0, locals := 0 }) (va_Pc [.ref (a 4), .int (L0.1 1)] (nIn (dC, dI) cy sz (vC cy a z σ0))) (va_Qi (fun (x : Int32) (_ : Unit) => x = r0.1) (fun _ t => nOut (dC, dI) cy (va_A (vC cy a z σ0) sz) (vC cy a z r0.2) t) (va_A (vC cy a z σ0) sz)) 0 0 (va_A (vC cy a z σ0) sz) := by
  refine Met.ofW (cc := cX10_takeBillion) (maxL := 7) (ret := (some .int)) (by decide) rfl ?_
  intro p e s m args below meth c s₁ B hml hv
  obtain ⟨rfl, hsz, hP, hK, hD0, hG⟩ := hv
  have hx := B.exec
  have hb := B.bytes
  have hr := B.returns
  have hts := atoms_spec (ws := w_y_X10_takeBillion) B.pre
  have hown : s.vm.findClass RX10 = some m.cls := findClass_of_methodNamed B.named
  have hlocks := B.notSynchronized
  subst hsz
  have hD := hD0.self (sz := s.heap.size)
  generalize hAe : va_A (vC cy a z σ0) s.heap.size = A at hD ⊢
  have hA : ∀ q : Nat, s.heap.size ≤ q → A q := fun q h => by rw [← hAe]; exact Or.inr h
  have hS : va_S A s.heap s.heap [] := va_S.rf
  have hl := lv_entry ([.ref (a 4), .int (L0.1 1)]) (n := 7) (Nat.le_of_ble_eq_true rfl)
  rw [lg_entry_eq]
  generalize (lg_sl ([.ref (a 4), .int (L0.1 1)]) ++ List.replicate (7 - (lg_sl ([.ref (a 4), .int (L0.1 1)])).length) Slot.unset).toArray = ls at hl ⊢
  have hl : lv_has ls 7 [(0, .ref (a 4)), (1, .int (L0.1 1))] := hl
  have blk : ∀ k : Nat, (bC p l e (headSpec w_y_X10_takeBillion ({ frames := 0, cells := 0, slots := 0, locals := 0 })).room s m #[.ref (a 4), .int (L0.1 1)] below meth c dC dI cy a z A (kI dC dI cy a z A below #[.ref (a 4), .int (L0.1 1)] s) 7 (y_X10_takeBillion k 0) (fun L => [(0, .ref (a 4)), (1, .int (L.1 1))]) 0 (fun L => [])) ∧ (bC p l e (headSpec w_y_X10_takeBillion ({ frames := 0, cells := 0, slots := 0, locals := 0 })).room s m #[.ref (a 4), .int (L0.1 1)] below meth c dC dI cy a z A (kI dC dI cy a z A below #[.ref (a 4), .int (L0.1 1)] s) 7 (y_X10_takeBillion k 1) (fun L => [(0, .ref (a 4)), (2, .long (L.2.1 2)), (4, .int (L.1 4))]) 7 (fun L => [])) ∧ (bC p l e (headSpec w_y_X10_takeBillion ({ frames := 0, cells := 0, slots := 0, locals := 0 })).room s m #[.ref (a 4), .int (L0.1 1)] below meth c dC dI cy a z A (kI dC dI cy a z A below #[.ref (a 4), .int (L0.1 1)] s) 7 (y_X10_takeBillion k 2) (fun L => [(2, .long (L.2.1 2))]) 58 (fun L => [])) := by
    intro k
    induction k with
    | zero => exact ⟨fun L σ r h => (by cases h), fun L σ r h => (by cases h), fun L σ r h => (by cases h)⟩
    | succ k ih =>
      refine ⟨?_, ?_, ?_⟩
      · intro L σ r h H locs ls hP hD hS hl
        rw [y_X10_takeBillion] at h
        refine lv_lconst (v := 0) hx hb dX10_takeBillion_0 (by decide) ?_
        refine lv_lstore_n (lv' := [(2, .long 0), (0, .ref (a 4)), (1, .int (L.1 1))]) hx hb dX10_takeBillion_1 rfl hl (by decide) rfl (fun ls hl => ?_)
        refine lv_iload_n hx hb dX10_takeBillion_2 rfl (lv_at hl 2 rfl) ?_
        refine lv_iconst (v := 1) hx hb dX10_takeBillion_3 (by decide) ?_
        refine lv_isub hx hb dX10_takeBillion_4 ?_
        refine lv_istore (lv' := [(4, .int (((L.1 1)) - 1)), (2, .long 0), (0, .ref (a 4)), (1, .int (L.1 1))]) hx hb dX10_takeBillion_5 hl (by decide) rfl (fun ls hl => ?_)
        exact ih.2.1 (lI (lJ L 2 0) 4 ((((L.1 1)) - 1))) σ r h H locs ls hP hD hS (lv_sub hl [2, 1, 0] rfl)
      · intro L σ r h H locs ls hP hD hS hl
        rw [y_X10_takeBillion] at h
        refine lv_iload hx hb dX10_takeBillion_7 (lv_at hl 2 rfl) ?_
        refine lv_if_lt (tgt := 58) hx hb dX10_takeBillion_9 (by decide) (fun c1 => ?_) (fun c1 => ?_)
        · rw [if_pos c1] at h
          exact ih.2.2 L σ r h H locs ls hP hD hS (lv_sub hl [1] rfl)
        · rw [if_neg c1] at h
          refine lv_lload_n hx hb dX10_takeBillion_12 rfl (lv_at hl 1 rfl) ?_
          refine lv_bipush (v := 32) hx hb dX10_takeBillion_13 (by decide) ?_
          refine lv_lshl (v := ((L.2.1 2)) <<< ((32 : Int32).toInt64 &&& 63)) hx hb dX10_takeBillion_15 rfl ?_
          refine lv_aload_n hx hb dX10_takeBillion_16 rfl (lv_at hl 0 rfl) ?_
          refine hg_4_1 hx hb hts in_y_X10_takeBillion_X10 hown hK hP (hts _ (List.mem_cons_of_mem _ (List.mem_append_left _ (List.mem_append_left _ (List.mem_of_getElem? (i := 0) rfl))))) dX10_takeBillion_17 ?_
          refine lv_iload hx hb dX10_takeBillion_20 (lv_at hl 2 rfl) ?_
          obtain ⟨q2, h⟩ := kb_ite1 h
          refine hl_5 hx hb hK hP q2 dX10_takeBillion_22 ?_
          refine lv_i2l (v := ((σ.2.2.1 5 ((L.1 4)).toNatClampNeg)).toInt64) hx hb dX10_takeBillion_23 rfl ?_
          refine lv_ldc2 (v := 4294967295) hx hb hown (hts _ (List.mem_cons_of_mem _ (List.mem_append_left _ (List.mem_append_left _ (List.mem_of_getElem? (i := 1) rfl))))) dX10_takeBillion_24 ?_
          refine lv_land hx hb dX10_takeBillion_27 ?_
          refine lv_lor hx hb dX10_takeBillion_28 ?_
          refine lv_lstore (lv' := [(5, .long (((((L.2.1 2)) <<< ((32 : Int32).toInt64 &&& 63))) ||| ((((((σ.2.2.1 5 ((L.1 4)).toNatClampNeg)).toInt64)) &&& 4294967295)))), (0, .ref (a 4)), (2, .long (L.2.1 2)), (4, .int (L.1 4))]) hx hb dX10_takeBillion_29 hl (by decide) rfl (fun ls hl => ?_)
          refine lv_aload_n hx hb dX10_takeBillion_31 rfl (lv_at hl 1 rfl) ?_
          refine hg_4_1 hx hb hts in_y_X10_takeBillion_X10 hown hK hP (hts _ (List.mem_cons_of_mem _ (List.mem_append_left _ (List.mem_append_left _ (List.mem_of_getElem? (i := 0) rfl))))) dX10_takeBillion_32 ?_
          refine lv_iload hx hb dX10_takeBillion_35 (lv_at hl 3 rfl) ?_
          refine lv_lload hx hb dX10_takeBillion_37 (lv_at hl 0 rfl) ?_
          refine lv_ldc2 (v := 1000000000) hx hb hown (hts _ (List.mem_cons_of_mem _ (List.mem_append_left _ (List.mem_append_left _ (List.mem_of_getElem? (i := 2) rfl))))) dX10_takeBillion_39 ?_
          obtain ⟨q3, h⟩ := kb_ite0 h
          refine lv_ldiv hx hb dX10_takeBillion_42 q3 ?_
          refine lv_l2i (v := ((((((((L.2.1 2)) <<< ((32 : Int32).toInt64 &&& 63))) ||| ((((((σ.2.2.1 5 ((L.1 4)).toNatClampNeg)).toInt64)) &&& 4294967295)))) / 1000000000)).toInt32) hx hb dX10_takeBillion_43 rfl ?_
          obtain ⟨q4, h⟩ := kb_ite1 h
          refine hs_5 hx hb hK hP hD hS q4 dX10_takeBillion_44 (fun H locs hP hD hS => ?_)
          refine lv_lload hx hb dX10_takeBillion_45 (lv_at hl 0 rfl) ?_
          refine lv_ldc2 (v := 1000000000) hx hb hown (hts _ (List.mem_cons_of_mem _ (List.mem_append_left _ (List.mem_append_left _ (List.mem_of_getElem? (i := 2) rfl))))) dX10_takeBillion_47 ?_
          obtain ⟨q5, h⟩ := kb_ite0 h
          refine lv_lrem hx hb dX10_takeBillion_50 q5 ?_
          refine lv_lstore_n (lv' := [(2, .long (((((((L.2.1 2)) <<< ((32 : Int32).toInt64 &&& 63))) ||| ((((((σ.2.2.1 5 ((L.1 4)).toNatClampNeg)).toInt64)) &&& 4294967295)))) - ((((((L.2.1 2)) <<< ((32 : Int32).toInt64 &&& 63))) ||| ((((((σ.2.2.1 5 ((L.1 4)).toNatClampNeg)).toInt64)) &&& 4294967295)))) / 1000000000 * 1000000000)), (5, .long (((((L.2.1 2)) <<< ((32 : Int32).toInt64 &&& 63))) ||| ((((((σ.2.2.1 5 ((L.1 4)).toNatClampNeg)).toInt64)) &&& 4294967295)))), (0, .ref (a 4)), (4, .int (L.1 4))]) hx hb dX10_takeBillion_51 rfl hl (by decide) rfl (fun ls hl => ?_)
          refine lv_iinc (v := ((L.1 4)) + (-1)) (lv' := [(4, .int (((L.1 4)) + (-1))), (2, .long (((((((L.2.1 2)) <<< ((32 : Int32).toInt64 &&& 63))) ||| ((((((σ.2.2.1 5 ((L.1 4)).toNatClampNeg)).toInt64)) &&& 4294967295)))) - ((((((L.2.1 2)) <<< ((32 : Int32).toInt64 &&& 63))) ||| ((((((σ.2.2.1 5 ((L.1 4)).toNatClampNeg)).toInt64)) &&& 4294967295)))) / 1000000000 * 1000000000)), (5, .long (((((L.2.1 2)) <<< ((32 : Int32).toInt64 &&& 63))) ||| ((((((σ.2.2.1 5 ((L.1 4)).toNatClampNeg)).toInt64)) &&& 4294967295)))), (0, .ref (a 4))]) hx hb dX10_takeBillion_52 hl (k := 3) rfl rfl (by decide) rfl (fun ls hl => ?_)
          refine lv_goto (tgt := 7) hx hb dX10_takeBillion_55 (by decide) ?_
          exact ih.2.1 (lI (lJ L 2 ((((((((L.2.1 2)) <<< ((32 : Int32).toInt64 &&& 63))) ||| ((((((σ.2.2.1 5 ((L.1 4)).toNatClampNeg)).toInt64)) &&& 4294967295)))) - ((((((L.2.1 2)) <<< ((32 : Int32).toInt64 &&& 63))) ||| ((((((σ.2.2.1 5 ((L.1 4)).toNatClampNeg)).toInt64)) &&& 4294967295)))) / 1000000000 * 1000000000))) 4 ((((L.1 4)) + (-1)))) (uA σ 5 ((L.1 4)).toNatClampNeg ((((((((((L.2.1 2)) <<< ((32 : Int32).toInt64 &&& 63))) ||| ((((((σ.2.2.1 5 ((L.1 4)).toNatClampNeg)).toInt64)) &&& 4294967295)))) / 1000000000)).toInt32))) r h H locs ls hP hD hS (lv_sub hl [3, 1, 0] rfl)
      · intro L σ r h H locs ls hP hD hS hl
        rw [y_X10_takeBillion] at h
        refine lv_lload_n hx hb dX10_takeBillion_58 rfl (lv_at hl 0 rfl) ?_
        refine lv_l2i (v := ((L.2.1 2)).toInt32) hx hb dX10_takeBillion_59 rfl ?_
        obtain rfl := Option.some.inj h
        exact W.iret (v := (((L.2.1 2)).toInt32)) hx hb hr (fun t ht hW => ⟨⟨(((L.2.1 2)).toInt32), (), rfl, rfl, by rw [ht]; exact hP, va_K.moved hW.alike hK, hD⟩, hS.F ht⟩) hS.2.2 dX10_takeBillion_60
  exact (blk k0).1 L0 σ0 r0 h0 s.heap [] ls hP hD hS hl
/-! X11_fault -/
def y_X11_fault : Nat → Nat → LV → CS → Option (Int32 × CS)
  | 0, _, _, _ => none
  | k + 1, 0, L, σ => some ((σ.1 7512), σ)
  | _ + 1, _ + 1, _, _ => none
def o_y_X11_fault : List Cond := [.fieldLink RX11 137 "SetHouse" "latestFault" "I"]
theorem o_y_X11_fault_good : o_y_X11_fault.all goodWord = true := by decide +kernel
def p_y_X11_fault : List Cond := o_y_X11_fault ++ []
theorem p_y_X11_fault_good : p_y_X11_fault.all goodWord = true := nb_all2 o_y_X11_fault_good rfl
def w_y_X11_fault : List Cond := .code yX11_fault cX11_fault 1 (some .int) :: (p_y_X11_fault ++ fC)
theorem w_y_X11_fault_good : w_y_X11_fault.all goodWord = true := nb_allc (by decide +kernel) (nb_all2 p_y_X11_fault_good fC_good)
theorem in_y_X11_fault_X11 : ∀ w ∈ wsX110, w ∈ w_y_X11_fault := fun _ h => List.mem_cons_of_mem _ (List.mem_append_right _ (List.mem_append_right _ (List.mem_append_right _ (List.mem_append_right _ (List.mem_append_right _ (List.mem_append_right _ (List.mem_append_right _ (List.mem_append_right _ (List.mem_append_right _ (List.mem_append_right _ (List.mem_append_right _ h)))))))))))
theorem hd_y_X11_fault : yX11_fault.cls = RX11 ∧ yX11_fault.cls ≠ "java/lang/invoke/MethodHandle" ∧ yX11_fault.cls ≠ "java/lang/invoke/VarHandle" ∧ (parseMethodDescriptor yX11_fault.desc).map (fun d => d.parameters.length) = some 0 := by decide +kernel
set_option maxHeartbeats 40000000 in
set_option maxRecDepth 100000 in
theorem c_y_X11_fault (l : Launch) (dC : Nat → ClassId) (dI : Nat → Nat → Nat) (cy : Nat → ClassId) (a z : Nat → Nat) (k0 : Nat) (L0 : LV) (σ0 : CS) (r0 : Int32 × CS) (h0 : y_X11_fault k0 0 L0 σ0 = some r0) (sz : Nat) : Met l yX11_fault w_y_X11_fault ({ frames := 0, cells := 0, slots := 0, locals := 0 }) (va_Pc [.ref (a 75)] (nIn (dC, dI) cy sz (vC cy a z σ0))) (va_Qi (fun (x : Int32) (_ : Unit) => x = r0.1) (fun _ t => nOut (dC, dI) cy (va_A (vC cy a z σ0) sz) (vC cy a z r0.2) t) (va_A (vC cy a z σ0) sz)) 0 0 (va_A (vC cy a z σ0) sz) := by
  refine Met.ofW (cc := cX11_fault) (maxL := 1) (ret := (some .int)) (by decide) rfl ?_
  intro p e s m args below meth c s₁ B hml hv
  obtain ⟨rfl, hsz, hP, hK, hD0, hG⟩ := hv
  have hx := B.exec
  have hb := B.bytes
  have hr := B.returns
  have hts := atoms_spec (ws := w_y_X11_fault) B.pre
  have hown : s.vm.findClass RX11 = some m.cls := findClass_of_methodNamed B.named
  have hlocks := B.notSynchronized
  subst hsz
  have hD := hD0.self (sz := s.heap.size)
  generalize hAe : va_A (vC cy a z σ0) s.heap.size = A at hD ⊢
  have hA : ∀ q : Nat, s.heap.size ≤ q → A q := fun q h => by rw [← hAe]; exact Or.inr h
  have hS : va_S A s.heap s.heap [] := va_S.rf
  have hl := lv_entry ([.ref (a 75)]) (n := 1) (Nat.le_of_ble_eq_true rfl)
  rw [lg_entry_eq]
  generalize (lg_sl ([.ref (a 75)]) ++ List.replicate (1 - (lg_sl ([.ref (a 75)])).length) Slot.unset).toArray = ls at hl ⊢
  have hl : lv_has ls 1 [(0, .ref (a 75))] := hl
  have blk : ∀ k : Nat, (bC p l e (headSpec w_y_X11_fault ({ frames := 0, cells := 0, slots := 0, locals := 0 })).room s m #[.ref (a 75)] below meth c dC dI cy a z A (kI dC dI cy a z A below #[.ref (a 75)] s) 1 (y_X11_fault k 0) (fun L => [(0, .ref (a 75))]) 0 (fun L => [])) := by
    intro k
    induction k with
    | zero => exact fun L σ r h => (by cases h)
    | succ k ih =>
      skip
      · intro L σ r h H locs ls hP hD hS hl
        rw [y_X11_fault] at h
        refine lv_aload_n hx hb dX11_fault_0 rfl (lv_at hl 0 rfl) ?_
        refine hg_75_12 hx hb hts in_y_X11_fault_X11 hown hK hP (hts _ (List.mem_cons_of_mem _ (List.mem_append_left _ (List.mem_append_left _ (List.mem_of_getElem? (i := 0) rfl))))) dX11_fault_1 ?_
        obtain rfl := Option.some.inj h
        exact W.iret (v := (σ.1 7512)) hx hb hr (fun t ht hW => ⟨⟨(σ.1 7512), (), rfl, rfl, by rw [ht]; exact hP, va_K.moved hW.alike hK, hD⟩, hS.F ht⟩) hS.2.2 dX11_fault_4
  exact (blk k0) L0 σ0 r0 h0 s.heap [] ls hP hD hS hl
/-! X11_renew -/
def y_X11_renew : Nat → Nat → LV → CS → Option (Int32 × CS)
  | 0, _, _, _ => none
  | k + 1, 0, L, σ => if ¬ (((L.1 1)) < 0 ∨ 27 ≤ ((L.1 1)).toNatClampNeg) then (if ¬ ((2 : Int32) < 0 ∨ 27 ≤ (2 : Int32).toNatClampNeg) then (oc (y_X1_same k 0 (lI (lI lZ 1 ((σ.2.2.1 67 ((L.1 1)).toNatClampNeg))) 2 ((σ.2.2.1 67 (2 : Int32).toNatClampNeg))) σ) (fun r3 => if r3.1 = 0 then (y_X11_renew k 2 (lI (lI (lI L 2 ((σ.2.2.1 67 ((L.1 1)).toNatClampNeg))) 3 ((σ.2.2.1 67 (2 : Int32).toNatClampNeg))) 100 1) r3.2) else (y_X11_renew k 1 (lI (lI L 2 ((σ.2.2.1 67 ((L.1 1)).toNatClampNeg))) 3 ((σ.2.2.1 67 (2 : Int32).toNatClampNeg))) r3.2))) else none) else none
  | k + 1, 1, L, σ => y_X11_renew k 2 (lI L 100 0) σ
  | k + 1, 2, L, σ => oc (y_X1_kind k 0 (lI lZ 1 ((L.1 2))) σ) (fun r1 => if r1.1 = 6 then (oc (y_X1_kind k 0 (lI lZ 1 ((L.1 3))) r1.2) (fun r3 => if r3.1 = 6 then (y_X11_renew k 4 (lI (lI L 4 ((L.1 100))) 100 1) r3.2) else (y_X11_renew k 3 (lI L 4 ((L.1 100))) r3.2))) else (y_X11_renew k 3 (lI L 4 ((L.1 100))) r1.2))
  | k + 1, 3, L, σ => y_X11_renew k 4 (lI L 100 0) σ
  | k + 1, 4, L, σ => if ¬ (((L.1 1)) < 0 ∨ 27 ≤ ((L.1 1)).toNatClampNeg) then (if ((L.1 4)) = 0 then (if ¬ (((((L.1 1)) + 1)) < 0 ∨ 27 ≤ ((((L.1 1)) + 1)).toNatClampNeg) then (if ¬ (((((L.1 1)) + 2)) < 0 ∨ 27 ≤ ((((L.1 1)) + 2)).toNatClampNeg) then (y_X11_renew k 6 L (uA (uA (uA σ 67 ((L.1 1)).toNatClampNeg ((L.1 3))) 67 ((((L.1 1)) + 1)).toNatClampNeg 2) 67 ((((L.1 1)) + 2)).toNatClampNeg 2)) else none) else none) else (y_X11_renew k 5 (lI L 5 ((L.1 100))) (uA σ 67 ((L.1 1)).toNatClampNeg ((L.1 3))))) else none
  | k + 1, 5, L, σ => if ((L.1 5)) = 0 then (y_X11_renew k 7 L σ) else (oc (y_X0_binary k 0 (lI (lI (lI lZ 1 129) 2 ((L.1 3))) 3 ((L.1 2))) σ) (fun r2 => if ¬ (((((L.1 1)) + 1)) < 0 ∨ 27 ≤ ((((L.1 1)) + 1)).toNatClampNeg) then (oc (y_X0_binary k 0 (lI (lI (lI lZ 1 129) 2 ((L.1 2))) 3 ((L.1 3))) (uA r2.2 67 ((((L.1 1)) + 1)).toNatClampNeg r2.1)) (fun r4 => if ¬ (((((L.1 1)) + 2)) < 0 ∨ 27 ≤ ((((L.1 1)) + 2)).toNatClampNeg) then (y_X11_renew k 8 L (uA r4.2 67 ((((L.1 1)) + 2)).toNatClampNeg r4.1)) else none)) else none))
  | k + 1, 6, L, σ => y_X11_renew k 8 L σ
  | k + 1, 7, L, σ => if ¬ (((((L.1 1)) + 1)) < 0 ∨ 27 ≤ ((((L.1 1)) + 1)).toNatClampNeg) then (if ¬ (((((L.1 1)) + 2)) < 0 ∨ 27 ≤ ((((L.1 1)) + 2)).toNatClampNeg) then (y_X11_renew k 8 L (uA (uA σ 67 ((((L.1 1)) + 1)).toNatClampNeg ((L.1 3))) 67 ((((L.1 1)) + 2)).toNatClampNeg ((L.1 2)))) else none) else none
  | k + 1, 8, L, σ => if ((L.1 4)) = 0 ∨ ((L.1 4)) = 1 then some ((L.1 4), σ) else none
  | _ + 1, _ + 9, _, _ => none
def o_y_X11_renew : List Cond := [.fieldLink RX11 56 "SetHouse" "kept" "[I", .fieldLink RX11 25 "SetHouse" "heap" "LSetHouse$Heap;", .methodLink RX11 317 yX1_same, .instanceMethod yX1_same, .selects RX1 yX1_same yX1_same, .initialized RX1, .methodLink RX11 321 yX1_kind, .instanceMethod yX1_kind, .selects RX1 yX1_kind yX1_kind, .fieldLink RX11 52 "SetHouse" "algebra" "LSetHouse$Algebra;", .methodLink RX11 325 yX0_binary, .instanceMethod yX0_binary, .selects RX0 yX0_binary yX0_binary, .initialized RX0]
theorem o_y_X11_renew_good : o_y_X11_renew.all goodWord = true := by decide +kernel
def p_y_X11_renew : List Cond := o_y_X11_renew ++ ((.code yX1_same cX1_same 3 (some .boolean) :: p_y_X1_same) ++ ((.code yX1_kind cX1_kind 2 (some .int) :: p_y_X1_kind) ++ ((.code yX0_binary cX0_binary 5 (some .int) :: p_y_X0_binary) ++ [])))
theorem p_y_X11_renew_good : p_y_X11_renew.all goodWord = true := nb_all2 o_y_X11_renew_good (nb_all2 (nb_allc (by decide +kernel) p_y_X1_same_good) (nb_all2 (nb_allc (by decide +kernel) p_y_X1_kind_good) (nb_all2 (nb_allc (by decide +kernel) p_y_X0_binary_good) rfl)))
def w_y_X11_renew : List Cond := .code yX11_renew cX11_renew 6 (some .boolean) :: (p_y_X11_renew ++ fC)
theorem w_y_X11_renew_good : w_y_X11_renew.all goodWord = true := nb_allc (by decide +kernel) (nb_all2 p_y_X11_renew_good fC_good)
theorem in_y_X11_renew_X11 : ∀ w ∈ wsX110, w ∈ w_y_X11_renew := fun _ h => List.mem_cons_of_mem _ (List.mem_append_right _ (List.mem_append_right _ (List.mem_append_right _ (List.mem_append_right _ (List.mem_append_right _ (List.mem_append_right _ (List.mem_append_right _ (List.mem_append_right _ (List.mem_append_right _ (List.mem_append_right _ (List.mem_append_right _ h)))))))))))
theorem hd_y_X11_renew : yX11_renew.cls = RX11 ∧ yX11_renew.cls ≠ "java/lang/invoke/MethodHandle" ∧ yX11_renew.cls ≠ "java/lang/invoke/VarHandle" ∧ (parseMethodDescriptor yX11_renew.desc).map (fun d => d.parameters.length) = some 1 := by decide +kernel
theorem gg_y_X11_renew_X0_binary : GoodIn w_y_X11_renew w_y_X0_binary := goodIn_sub (fun w h => (List.mem_cons.mp h).elim (fun e => (List.mem_cons_of_mem _ (List.mem_append_left _ (List.mem_append_right _ (List.mem_append_right _ (List.mem_append_right _ (List.mem_append_left _ (List.mem_cons.mpr (Or.inl e))))))))) (fun h => (List.mem_append.mp h).elim (fun h => (List.mem_cons_of_mem _ (List.mem_append_left _ (List.mem_append_right _ (List.mem_append_right _ (List.mem_append_right _ (List.mem_append_left _ (List.mem_cons_of_mem _ h)))))))) (fun h => List.mem_cons_of_mem _ (List.mem_append_right _ h)))) w_y_X0_binary_good
theorem g_y_X11_renew_X0_binary_V325 : GoodIn w_y_X11_renew (wsV RX11 325 RX0 yX0_binary w_y_X0_binary) := goodIn_app (nb_g4 (List.mem_cons_of_mem _ (List.mem_append_left _ (List.mem_append_left _ (List.mem_of_getElem? (i := 10) rfl)))) (List.mem_cons_of_mem _ (List.mem_append_left _ (List.mem_append_left _ (List.mem_of_getElem? (i := 11) rfl)))) (List.mem_cons_of_mem _ (List.mem_append_left _ (List.mem_append_left _ (List.mem_of_getElem? (i := 12) rfl)))) (List.mem_cons_of_mem _ (List.mem_append_left _ (List.mem_append_left _ (List.mem_of_getElem? (i := 13) rfl)))) (by decide +kernel)) gg_y_X11_renew_X0_binary
theorem gg_y_X11_renew_X1_kind : GoodIn w_y_X11_renew w_y_X1_kind := goodIn_sub (fun w h => (List.mem_cons.mp h).elim (fun e => (List.mem_cons_of_mem _ (List.mem_append_left _ (List.mem_append_right _ (List.mem_append_right _ (List.mem_append_left _ (List.mem_cons.mpr (Or.inl e)))))))) (fun h => (List.mem_append.mp h).elim (fun h => (List.mem_cons_of_mem _ (List.mem_append_left _ (List.mem_append_right _ (List.mem_append_right _ (List.mem_append_left _ (List.mem_cons_of_mem _ h))))))) (fun h => List.mem_cons_of_mem _ (List.mem_append_right _ h)))) w_y_X1_kind_good
theorem g_y_X11_renew_X1_kind_V321 : GoodIn w_y_X11_renew (wsV RX11 321 RX1 yX1_kind w_y_X1_kind) := goodIn_app (nb_g4 (List.mem_cons_of_mem _ (List.mem_append_left _ (List.mem_append_left _ (List.mem_of_getElem? (i := 6) rfl)))) (List.mem_cons_of_mem _ (List.mem_append_left _ (List.mem_append_left _ (List.mem_of_getElem? (i := 7) rfl)))) (List.mem_cons_of_mem _ (List.mem_append_left _ (List.mem_append_left _ (List.mem_of_getElem? (i := 8) rfl)))) (List.mem_cons_of_mem _ (List.mem_append_left _ (List.mem_append_left _ (List.mem_of_getElem? (i := 5) rfl)))) (by decide +kernel)) gg_y_X11_renew_X1_kind
theorem gg_y_X11_renew_X1_same : GoodIn w_y_X11_renew w_y_X1_same := goodIn_sub (fun w h => (List.mem_cons.mp h).elim (fun e => (List.mem_cons_of_mem _ (List.mem_append_left _ (List.mem_append_right _ (List.mem_append_left _ (List.mem_cons.mpr (Or.inl e))))))) (fun h => (List.mem_append.mp h).elim (fun h => (List.mem_cons_of_mem _ (List.mem_append_left _ (List.mem_append_right _ (List.mem_append_left _ (List.mem_cons_of_mem _ h)))))) (fun h => List.mem_cons_of_mem _ (List.mem_append_right _ h)))) w_y_X1_same_good
theorem g_y_X11_renew_X1_same_V317 : GoodIn w_y_X11_renew (wsV RX11 317 RX1 yX1_same w_y_X1_same) := goodIn_app (nb_g4 (List.mem_cons_of_mem _ (List.mem_append_left _ (List.mem_append_left _ (List.mem_of_getElem? (i := 2) rfl)))) (List.mem_cons_of_mem _ (List.mem_append_left _ (List.mem_append_left _ (List.mem_of_getElem? (i := 3) rfl)))) (List.mem_cons_of_mem _ (List.mem_append_left _ (List.mem_append_left _ (List.mem_of_getElem? (i := 4) rfl)))) (List.mem_cons_of_mem _ (List.mem_append_left _ (List.mem_append_left _ (List.mem_of_getElem? (i := 5) rfl)))) (by decide +kernel)) gg_y_X11_renew_X1_same
set_option maxHeartbeats 40000000 in
set_option maxRecDepth 100000 in
theorem c_y_X11_renew (l : Launch) (dC : Nat → ClassId) (dI : Nat → Nat → Nat) (cy : Nat → ClassId) (a z : Nat → Nat) (k0 : Nat) (L0 : LV) (σ0 : CS) (r0 : Int32 × CS) (h0 : y_X11_renew k0 0 L0 σ0 = some r0) (sz : Nat) : Met l yX11_renew w_y_X11_renew ({ frames := 66, cells := 0, slots := 0, locals := 1840 }) (va_Pc [.ref (a 75), .int (L0.1 1)] (nIn (dC, dI) cy sz (vC cy a z σ0))) (va_Qi (fun (x : Int32) (_ : Unit) => x = r0.1) (fun _ t => nOut (dC, dI) cy (va_A (vC cy a z σ0) sz) (vC cy a z r0.2) t) (va_A (vC cy a z σ0) sz)) 0 0 (va_A (vC cy a z σ0) sz) := by
  refine Met.ofW (cc := cX11_renew) (maxL := 6) (ret := (some .boolean)) (by decide) rfl ?_
  intro p e s m args below meth c s₁ B hml hv
  obtain ⟨rfl, hsz, hP, hK, hD0, hG⟩ := hv
  have hx := B.exec
  have hb := B.bytes
  have hr := B.returns
  have hts := atoms_spec (ws := w_y_X11_renew) B.pre
  have hown : s.vm.findClass RX11 = some m.cls := findClass_of_methodNamed B.named
  have hlocks := B.notSynchronized
  subst hsz
  have hD := hD0.self (sz := s.heap.size)
  generalize hAe : va_A (vC cy a z σ0) s.heap.size = A at hD ⊢
  have hA : ∀ q : Nat, s.heap.size ≤ q → A q := fun q h => by rw [← hAe]; exact Or.inr h
  have hS : va_S A s.heap s.heap [] := va_S.rf
  have hl := lv_entry ([.ref (a 75), .int (L0.1 1)]) (n := 6) (Nat.le_of_ble_eq_true rfl)
  rw [lg_entry_eq]
  generalize (lg_sl ([.ref (a 75), .int (L0.1 1)]) ++ List.replicate (6 - (lg_sl ([.ref (a 75), .int (L0.1 1)])).length) Slot.unset).toArray = ls at hl ⊢
  have hl : lv_has ls 6 [(0, .ref (a 75)), (1, .int (L0.1 1))] := hl
  have blk : ∀ k : Nat, (bC p l e (headSpec w_y_X11_renew ({ frames := 66, cells := 0, slots := 0, locals := 1840 })).room s m #[.ref (a 75), .int (L0.1 1)] below meth c dC dI cy a z A (kI dC dI cy a z A below #[.ref (a 75), .int (L0.1 1)] s) 6 (y_X11_renew k 0) (fun L => [(0, .ref (a 75)), (1, .int (L.1 1))]) 0 (fun L => [])) ∧ (bC p l e (headSpec w_y_X11_renew ({ frames := 66, cells := 0, slots := 0, locals := 1840 })).room s m #[.ref (a 75), .int (L0.1 1)] below meth c dC dI cy a z A (kI dC dI cy a z A below #[.ref (a 75), .int (L0.1 1)] s) 6 (y_X11_renew k 1) (fun L => [(0, .ref (a 75)), (1, .int (L.1 1)), (2, .int (L.1 2)), (3, .int (L.1 3))]) 30 (fun L => [])) ∧ (bC p l e (headSpec w_y_X11_renew ({ frames := 66, cells := 0, slots := 0, locals := 1840 })).room s m #[.ref (a 75), .int (L0.1 1)] below meth c dC dI cy a z A (kI dC dI cy a z A below #[.ref (a 75), .int (L0.1 1)] s) 6 (y_X11_renew k 2) (fun L => [(0, .ref (a 75)), (1, .int (L.1 1)), (2, .int (L.1 2)), (3, .int (L.1 3))]) 31 (fun L => [.int (L.1 100)])) ∧ (bC p l e (headSpec w_y_X11_renew ({ frames := 66, cells := 0, slots := 0, locals := 1840 })).room s m #[.ref (a 75), .int (L0.1 1)] below meth c dC dI cy a z A (kI dC dI cy a z A below #[.ref (a 75), .int (L0.1 1)] s) 6 (y_X11_renew k 3) (fun L => [(0, .ref (a 75)), (1, .int (L.1 1)), (2, .int (L.1 2)), (3, .int (L.1 3)), (4, .int (L.1 4))]) 63 (fun L => [])) ∧ (bC p l e (headSpec w_y_X11_renew ({ frames := 66, cells := 0, slots := 0, locals := 1840 })).room s m #[.ref (a 75), .int (L0.1 1)] below meth c dC dI cy a z A (kI dC dI cy a z A below #[.ref (a 75), .int (L0.1 1)] s) 6 (y_X11_renew k 4) (fun L => [(0, .ref (a 75)), (1, .int (L.1 1)), (2, .int (L.1 2)), (3, .int (L.1 3)), (4, .int (L.1 4))]) 64 (fun L => [.int (L.1 100)])) ∧ (bC p l e (headSpec w_y_X11_renew ({ frames := 66, cells := 0, slots := 0, locals := 1840 })).room s m #[.ref (a 75), .int (L0.1 1)] below meth c dC dI cy a z A (kI dC dI cy a z A below #[.ref (a 75), .int (L0.1 1)] s) 6 (y_X11_renew k 5) (fun L => [(0, .ref (a 75)), (1, .int (L.1 1)), (2, .int (L.1 2)), (3, .int (L.1 3)), (4, .int (L.1 4)), (5, .int (L.1 5))]) 99 (fun L => [])) ∧ (bC p l e (headSpec w_y_X11_renew ({ frames := 66, cells := 0, slots := 0, locals := 1840 })).room s m #[.ref (a 75), .int (L0.1 1)] below meth c dC dI cy a z A (kI dC dI cy a z A below #[.ref (a 75), .int (L0.1 1)] s) 6 (y_X11_renew k 6) (fun L => [(4, .int (L.1 4))]) 96 (fun L => [])) ∧ (bC p l e (headSpec w_y_X11_renew ({ frames := 66, cells := 0, slots := 0, locals := 1840 })).room s m #[.ref (a 75), .int (L0.1 1)] below meth c dC dI cy a z A (kI dC dI cy a z A below #[.ref (a 75), .int (L0.1 1)] s) 6 (y_X11_renew k 7) (fun L => [(0, .ref (a 75)), (1, .int (L.1 1)), (2, .int (L.1 2)), (3, .int (L.1 3)), (4, .int (L.1 4))]) 147 (fun L => [])) ∧ (bC p l e (headSpec w_y_X11_renew ({ frames := 66, cells := 0, slots := 0, locals := 1840 })).room s m #[.ref (a 75), .int (L0.1 1)] below meth c dC dI cy a z A (kI dC dI cy a z A below #[.ref (a 75), .int (L0.1 1)] s) 6 (y_X11_renew k 8) (fun L => [(4, .int (L.1 4))]) 165 (fun L => [])) := by
    intro k
    induction k with
    | zero => exact ⟨fun L σ r h => (by cases h), fun L σ r h => (by cases h), fun L σ r h => (by cases h), fun L σ r h => (by cases h), fun L σ r h => (by cases h), fun L σ r h => (by cases h), fun L σ r h => (by cases h), fun L σ r h => (by cases h), fun L σ r h => (by cases h)⟩
    | succ k ih =>
      refine ⟨?_, ?_, ?_, ?_, ?_, ?_, ?_, ?_, ?_⟩
      · intro L σ r h H locs ls hP hD hS hl
        rw [y_X11_renew] at h
        refine lv_aload_n hx hb dX11_renew_0 rfl (lv_at hl 0 rfl) ?_
        refine hg_75_4 hx hb hts in_y_X11_renew_X11 hown hK hP (hts _ (List.mem_cons_of_mem _ (List.mem_append_left _ (List.mem_append_left _ (List.mem_of_getElem? (i := 0) rfl))))) dX11_renew_1 ?_
        refine lv_iload_n hx hb dX11_renew_4 rfl (lv_at hl 1 rfl) ?_
        obtain ⟨q1, h⟩ := kb_ite1 h
        refine hl_67 hx hb hK hP q1 dX11_renew_5 ?_
        refine lv_istore_n (lv' := [(2, .int (σ.2.2.1 67 ((L.1 1)).toNatClampNeg)), (0, .ref (a 75)), (1, .int (L.1 1))]) hx hb dX11_renew_6 rfl hl (by decide) rfl (fun ls hl => ?_)
        refine lv_aload_n hx hb dX11_renew_7 rfl (lv_at hl 1 rfl) ?_
        refine hg_75_4 hx hb hts in_y_X11_renew_X11 hown hK hP (hts _ (List.mem_cons_of_mem _ (List.mem_append_left _ (List.mem_append_left _ (List.mem_of_getElem? (i := 0) rfl))))) dX11_renew_8 ?_
        refine lv_iconst (v := 2) hx hb dX11_renew_11 (by decide) ?_
        obtain ⟨q2, h⟩ := kb_ite1 h
        refine hl_67 hx hb hK hP q2 dX11_renew_12 ?_
        refine lv_istore_n (lv' := [(3, .int (σ.2.2.1 67 (2 : Int32).toNatClampNeg)), (2, .int (σ.2.2.1 67 ((L.1 1)).toNatClampNeg)), (0, .ref (a 75)), (1, .int (L.1 1))]) hx hb dX11_renew_13 rfl hl (by decide) rfl (fun ls hl => ?_)
        refine lv_aload_n hx hb dX11_renew_14 rfl (lv_at hl 2 rfl) ?_
        refine hg_75_0 hx hb hts in_y_X11_renew_X11 hown hK hP (hts _ (List.mem_cons_of_mem _ (List.mem_append_left _ (List.mem_append_left _ (List.mem_of_getElem? (i := 1) rfl))))) dX11_renew_15 ?_
        refine lv_iload_n hx hb dX11_renew_18 rfl (lv_at hl 1 rfl) ?_
        refine lv_iload_n hx hb dX11_renew_19 rfl (lv_at hl 0 rfl) ?_
        obtain ⟨r3, hc3, h⟩ := oc_ex h
        refine kc_i (va_runV (As := [.int (σ.2.2.1 67 ((L.1 1)).toNatClampNeg), .int (σ.2.2.1 67 (2 : Int32).toNatClampNeg)]) (rest := []) ⟨hx, hb, hml, hown, hts⟩ (c_y_X1_same l dC dI cy a z k (lI (lI lZ 1 ((σ.2.2.1 67 ((L.1 1)).toNatClampNeg))) 2 ((σ.2.2.1 67 (2 : Int32).toNatClampNeg))) σ r3 hc3 H.size) (cwV 2 hts g_y_X11_renew_X1_same_V317 rfl rfl rfl hd_y_X1_same ⟨Nat.le_of_ble_eq_true rfl, Nat.le_of_ble_eq_true rfl⟩) ⟨nb_blind, va_recv hK hP (ci := 1) (q0 := 0) rfl rfl, (kb_pre hK hG hP hD)⟩ rfl rfl hl.1 rfl (lv_room (Nat.le_of_ble_eq_true rfl)) dX11_renew_20 ⟨Nat.le_refl _, Nat.le_refl _⟩) hA hP hD hS (fun H locs hP hD hS => ?_)
        refine lv_if_ne (tgt := 30) hx hb dX11_renew_23 (by decide) (fun c4 => ?_) (fun c4 => ?_)
        · rw [if_neg c4] at h
          exact ih.2.1 (lI (lI L 2 ((σ.2.2.1 67 ((L.1 1)).toNatClampNeg))) 3 ((σ.2.2.1 67 (2 : Int32).toNatClampNeg))) r3.2 r h H locs ls hP hD hS (lv_sub hl [2, 3, 1, 0] rfl)
        · rw [if_pos c4] at h
          refine lv_iconst (v := 1) hx hb dX11_renew_26 (by decide) ?_
          refine lv_goto (tgt := 31) hx hb dX11_renew_27 (by decide) ?_
          exact ih.2.2.1 (lI (lI (lI L 2 ((σ.2.2.1 67 ((L.1 1)).toNatClampNeg))) 3 ((σ.2.2.1 67 (2 : Int32).toNatClampNeg))) 100 1) r3.2 r h H locs ls hP hD hS (lv_sub hl [2, 3, 1, 0] rfl)
      · intro L σ r h H locs ls hP hD hS hl
        rw [y_X11_renew] at h
        refine lv_iconst (v := 0) hx hb dX11_renew_30 (by decide) ?_
        exact ih.2.2.1 (lI L 100 0) σ r h H locs ls hP hD hS (lv_sub hl [0, 1, 2, 3] rfl)
      · intro L σ r h H locs ls hP hD hS hl
        rw [y_X11_renew] at h
        refine lv_istore (lv' := [(4, .int (L.1 100)), (0, .ref (a 75)), (1, .int (L.1 1)), (2, .int (L.1 2)), (3, .int (L.1 3))]) hx hb dX11_renew_31 hl (by decide) rfl (fun ls hl => ?_)
        refine lv_aload_n hx hb dX11_renew_33 rfl (lv_at hl 1 rfl) ?_
        refine hg_75_0 hx hb hts in_y_X11_renew_X11 hown hK hP (hts _ (List.mem_cons_of_mem _ (List.mem_append_left _ (List.mem_append_left _ (List.mem_of_getElem? (i := 1) rfl))))) dX11_renew_34 ?_
        refine lv_iload_n hx hb dX11_renew_37 rfl (lv_at hl 3 rfl) ?_
        obtain ⟨r1, hc1, h⟩ := oc_ex h
        refine kc_i (va_runV (As := [.int (L.1 2)]) (rest := []) ⟨hx, hb, hml, hown, hts⟩ (c_y_X1_kind l dC dI cy a z k (lI lZ 1 ((L.1 2))) σ r1 hc1 H.size) (cwV 1 hts g_y_X11_renew_X1_kind_V321 rfl rfl rfl hd_y_X1_kind ⟨Nat.le_of_ble_eq_true rfl, Nat.le_of_ble_eq_true rfl⟩) ⟨nb_blind, va_recv hK hP (ci := 1) (q0 := 0) rfl rfl, (kb_pre hK hG hP hD)⟩ rfl rfl hl.1 rfl (lv_room (Nat.le_of_ble_eq_true rfl)) dX11_renew_38 ⟨Nat.le_refl _, Nat.le_refl _⟩) hA hP hD hS (fun H locs hP hD hS => ?_)
        refine lv_bipush (v := 6) hx hb dX11_renew_41 (by decide) ?_
        refine lv_icmp_ne (tgt := 63) hx hb dX11_renew_43 (by decide) (fun c2 => ?_) (fun c2 => ?_)
        · rw [if_neg c2] at h
          exact ih.2.2.2.1 (lI L 4 ((L.1 100))) r1.2 r h H locs ls hP hD hS (lv_sub hl [1, 2, 3, 4, 0] rfl)
        · rw [if_pos c2] at h
          refine lv_aload_n hx hb dX11_renew_46 rfl (lv_at hl 1 rfl) ?_
          refine hg_75_0 hx hb hts in_y_X11_renew_X11 hown hK hP (hts _ (List.mem_cons_of_mem _ (List.mem_append_left _ (List.mem_append_left _ (List.mem_of_getElem? (i := 1) rfl))))) dX11_renew_47 ?_
          refine lv_iload_n hx hb dX11_renew_50 rfl (lv_at hl 4 rfl) ?_
          obtain ⟨r3, hc3, h⟩ := oc_ex h
          refine kc_i (va_runV (As := [.int (L.1 3)]) (rest := []) ⟨hx, hb, hml, hown, hts⟩ (c_y_X1_kind l dC dI cy a z k (lI lZ 1 ((L.1 3))) r1.2 r3 hc3 H.size) (cwV 1 hts g_y_X11_renew_X1_kind_V321 rfl rfl rfl hd_y_X1_kind ⟨Nat.le_of_ble_eq_true rfl, Nat.le_of_ble_eq_true rfl⟩) ⟨nb_blind, va_recv hK hP (ci := 1) (q0 := 0) rfl rfl, (kb_pre hK hG hP hD)⟩ rfl rfl hl.1 rfl (lv_room (Nat.le_of_ble_eq_true rfl)) dX11_renew_51 ⟨Nat.le_refl _, Nat.le_refl _⟩) hA hP hD hS (fun H locs hP hD hS => ?_)
          refine lv_bipush (v := 6) hx hb dX11_renew_54 (by decide) ?_
          refine lv_icmp_ne (tgt := 63) hx hb dX11_renew_56 (by decide) (fun c4 => ?_) (fun c4 => ?_)
          · rw [if_neg c4] at h
            exact ih.2.2.2.1 (lI L 4 ((L.1 100))) r3.2 r h H locs ls hP hD hS (lv_sub hl [1, 2, 3, 4, 0] rfl)
          · rw [if_pos c4] at h
            refine lv_iconst (v := 1) hx hb dX11_renew_59 (by decide) ?_
            refine lv_goto (tgt := 64) hx hb dX11_renew_60 (by decide) ?_
            exact ih.2.2.2.2.1 (lI (lI L 4 ((L.1 100))) 100 1) r3.2 r h H locs ls hP hD hS (lv_sub hl [1, 2, 3, 4, 0] rfl)
      · intro L σ r h H locs ls hP hD hS hl
        rw [y_X11_renew] at h
        refine lv_iconst (v := 0) hx hb dX11_renew_63 (by decide) ?_
        exact ih.2.2.2.2.1 (lI L 100 0) σ r h H locs ls hP hD hS (lv_sub hl [0, 1, 2, 3, 4] rfl)
      · intro L σ r h H locs ls hP hD hS hl
        rw [y_X11_renew] at h
        refine lv_istore (lv' := [(5, .int (L.1 100)), (0, .ref (a 75)), (1, .int (L.1 1)), (2, .int (L.1 2)), (3, .int (L.1 3)), (4, .int (L.1 4))]) hx hb dX11_renew_64 hl (by decide) rfl (fun ls hl => ?_)
        refine lv_aload_n hx hb dX11_renew_66 rfl (lv_at hl 1 rfl) ?_
        refine hg_75_4 hx hb hts in_y_X11_renew_X11 hown hK hP (hts _ (List.mem_cons_of_mem _ (List.mem_append_left _ (List.mem_append_left _ (List.mem_of_getElem? (i := 0) rfl))))) dX11_renew_67 ?_
        refine lv_iload_n hx hb dX11_renew_70 rfl (lv_at hl 2 rfl) ?_
        refine lv_iload_n hx hb dX11_renew_71 rfl (lv_at hl 4 rfl) ?_
        obtain ⟨q1, h⟩ := kb_ite1 h
        refine hs_67 hx hb hK hP hD hS q1 dX11_renew_72 (fun H locs hP hD hS => ?_)
        refine lv_iload hx hb dX11_renew_73 (lv_at hl 5 rfl) ?_
        refine lv_if_ne (tgt := 99) hx hb dX11_renew_75 (by decide) (fun c2 => ?_) (fun c2 => ?_)
        · rw [if_neg c2] at h
          exact ih.2.2.2.2.2.1 (lI L 5 ((L.1 100))) (uA σ 67 ((L.1 1)).toNatClampNeg ((L.1 3))) r h H locs ls hP hD hS (lv_sub hl [1, 2, 3, 4, 5, 0] rfl)
        · rw [if_pos c2] at h
          refine lv_aload_n hx hb dX11_renew_78 rfl (lv_at hl 1 rfl) ?_
          refine hg_75_4 hx hb hts in_y_X11_renew_X11 hown hK hP (hts _ (List.mem_cons_of_mem _ (List.mem_append_left _ (List.mem_append_left _ (List.mem_of_getElem? (i := 0) rfl))))) dX11_renew_79 ?_
          refine lv_iload_n hx hb dX11_renew_82 rfl (lv_at hl 2 rfl) ?_
          refine lv_iconst (v := 1) hx hb dX11_renew_83 (by decide) ?_
          refine lv_iadd hx hb dX11_renew_84 ?_
          refine lv_iconst (v := 2) hx hb dX11_renew_85 (by decide) ?_
          obtain ⟨q3, h⟩ := kb_ite1 h
          refine hs_67 hx hb hK hP hD hS q3 dX11_renew_86 (fun H locs hP hD hS => ?_)
          refine lv_aload_n hx hb dX11_renew_87 rfl (lv_at hl 1 rfl) ?_
          refine hg_75_4 hx hb hts in_y_X11_renew_X11 hown hK hP (hts _ (List.mem_cons_of_mem _ (List.mem_append_left _ (List.mem_append_left _ (List.mem_of_getElem? (i := 0) rfl))))) dX11_renew_88 ?_
          refine lv_iload_n hx hb dX11_renew_91 rfl (lv_at hl 2 rfl) ?_
          refine lv_iconst (v := 2) hx hb dX11_renew_92 (by decide) ?_
          refine lv_iadd hx hb dX11_renew_93 ?_
          refine lv_iconst (v := 2) hx hb dX11_renew_94 (by decide) ?_
          obtain ⟨q4, h⟩ := kb_ite1 h
          refine hs_67 hx hb hK hP hD hS q4 dX11_renew_95 (fun H locs hP hD hS => ?_)
          exact ih.2.2.2.2.2.2.1 L (uA (uA (uA σ 67 ((L.1 1)).toNatClampNeg ((L.1 3))) 67 ((((L.1 1)) + 1)).toNatClampNeg 2) 67 ((((L.1 1)) + 2)).toNatClampNeg 2) r h H locs ls hP hD hS (lv_sub hl [5] rfl)
      · intro L σ r h H locs ls hP hD hS hl
        rw [y_X11_renew] at h
        refine lv_iload hx hb dX11_renew_99 (lv_at hl 5 rfl) ?_
        refine lv_if_eq (tgt := 147) hx hb dX11_renew_101 (by decide) (fun c1 => ?_) (fun c1 => ?_)
        · rw [if_pos c1] at h
          exact ih.2.2.2.2.2.2.2.1 L σ r h H locs ls hP hD hS (lv_sub hl [0, 1, 2, 3, 4] rfl)
        · rw [if_neg c1] at h
          refine lv_aload_n hx hb dX11_renew_104 rfl (lv_at hl 0 rfl) ?_
          refine hg_75_4 hx hb hts in_y_X11_renew_X11 hown hK hP (hts _ (List.mem_cons_of_mem _ (List.mem_append_left _ (List.mem_append_left _ (List.mem_of_getElem? (i := 0) rfl))))) dX11_renew_105 ?_
          refine lv_iload_n hx hb dX11_renew_108 rfl (lv_at hl 1 rfl) ?_
          refine lv_iconst (v := 1) hx hb dX11_renew_109 (by decide) ?_
          refine lv_iadd hx hb dX11_renew_110 ?_
          refine lv_aload_n hx hb dX11_renew_111 rfl (lv_at hl 0 rfl) ?_
          refine hg_75_3 hx hb hts in_y_X11_renew_X11 hown hK hP (hts _ (List.mem_cons_of_mem _ (List.mem_append_left _ (List.mem_append_left _ (List.mem_of_getElem? (i := 9) rfl))))) dX11_renew_112 ?_
          refine lv_sipush (v := 129) hx hb dX11_renew_115 (by decide) ?_
          refine lv_iload_n hx hb dX11_renew_118 rfl (lv_at hl 3 rfl) ?_
          refine lv_iload_n hx hb dX11_renew_119 rfl (lv_at hl 2 rfl) ?_
          obtain ⟨r2, hc2, h⟩ := oc_ex h
          refine kc_i (va_runV (As := [.int 129, .int (L.1 3), .int (L.1 2)]) (rest := [.int (((L.1 1)) + 1), .ref (a 67)]) ⟨hx, hb, hml, hown, hts⟩ (c_y_X0_binary l dC dI cy a z k (lI (lI (lI lZ 1 129) 2 ((L.1 3))) 3 ((L.1 2))) σ r2 hc2 H.size) (cwV 3 hts g_y_X11_renew_X0_binary_V325 rfl rfl rfl hd_y_X0_binary ⟨Nat.le_of_ble_eq_true rfl, Nat.le_of_ble_eq_true rfl⟩) ⟨nb_blind, va_recv hK hP (ci := 0) (q0 := 14) rfl rfl, (kb_pre hK hG hP hD)⟩ rfl rfl hl.1 rfl (lv_room (Nat.le_of_ble_eq_true rfl)) dX11_renew_120 ⟨Nat.le_refl _, Nat.le_refl _⟩) hA hP hD hS (fun H locs hP hD hS => ?_)
          obtain ⟨q3, h⟩ := kb_ite1 h
          refine hs_67 hx hb hK hP hD hS q3 dX11_renew_123 (fun H locs hP hD hS => ?_)
          refine lv_aload_n hx hb dX11_renew_124 rfl (lv_at hl 0 rfl) ?_
          refine hg_75_4 hx hb hts in_y_X11_renew_X11 hown hK hP (hts _ (List.mem_cons_of_mem _ (List.mem_append_left _ (List.mem_append_left _ (List.mem_of_getElem? (i := 0) rfl))))) dX11_renew_125 ?_
          refine lv_iload_n hx hb dX11_renew_128 rfl (lv_at hl 1 rfl) ?_
          refine lv_iconst (v := 2) hx hb dX11_renew_129 (by decide) ?_
          refine lv_iadd hx hb dX11_renew_130 ?_
          refine lv_aload_n hx hb dX11_renew_131 rfl (lv_at hl 0 rfl) ?_
          refine hg_75_3 hx hb hts in_y_X11_renew_X11 hown hK hP (hts _ (List.mem_cons_of_mem _ (List.mem_append_left _ (List.mem_append_left _ (List.mem_of_getElem? (i := 9) rfl))))) dX11_renew_132 ?_
          refine lv_sipush (v := 129) hx hb dX11_renew_135 (by decide) ?_
          refine lv_iload_n hx hb dX11_renew_138 rfl (lv_at hl 2 rfl) ?_
          refine lv_iload_n hx hb dX11_renew_139 rfl (lv_at hl 3 rfl) ?_
          obtain ⟨r4, hc4, h⟩ := oc_ex h
          refine kc_i (va_runV (As := [.int 129, .int (L.1 2), .int (L.1 3)]) (rest := [.int (((L.1 1)) + 2), .ref (a 67)]) ⟨hx, hb, hml, hown, hts⟩ (c_y_X0_binary l dC dI cy a z k (lI (lI (lI lZ 1 129) 2 ((L.1 2))) 3 ((L.1 3))) (uA r2.2 67 ((((L.1 1)) + 1)).toNatClampNeg r2.1) r4 hc4 H.size) (cwV 3 hts g_y_X11_renew_X0_binary_V325 rfl rfl rfl hd_y_X0_binary ⟨Nat.le_of_ble_eq_true rfl, Nat.le_of_ble_eq_true rfl⟩) ⟨nb_blind, va_recv hK hP (ci := 0) (q0 := 14) rfl rfl, (kb_pre hK hG hP hD)⟩ rfl rfl hl.1 rfl (lv_room (Nat.le_of_ble_eq_true rfl)) dX11_renew_140 ⟨Nat.le_refl _, Nat.le_refl _⟩) hA hP hD hS (fun H locs hP hD hS => ?_)
          obtain ⟨q5, h⟩ := kb_ite1 h
          refine hs_67 hx hb hK hP hD hS q5 dX11_renew_143 (fun H locs hP hD hS => ?_)
          refine lv_goto (tgt := 165) hx hb dX11_renew_144 (by decide) ?_
          exact ih.2.2.2.2.2.2.2.2 L (uA r4.2 67 ((((L.1 1)) + 2)).toNatClampNeg r4.1) r h H locs ls hP hD hS (lv_sub hl [4] rfl)
      · intro L σ r h H locs ls hP hD hS hl
        rw [y_X11_renew] at h
        refine lv_goto (tgt := 165) hx hb dX11_renew_96 (by decide) ?_
        exact ih.2.2.2.2.2.2.2.2 L σ r h H locs ls hP hD hS (lv_sub hl [0] rfl)
      · intro L σ r h H locs ls hP hD hS hl
        rw [y_X11_renew] at h
        refine lv_aload_n hx hb dX11_renew_147 rfl (lv_at hl 0 rfl) ?_
        refine hg_75_4 hx hb hts in_y_X11_renew_X11 hown hK hP (hts _ (List.mem_cons_of_mem _ (List.mem_append_left _ (List.mem_append_left _ (List.mem_of_getElem? (i := 0) rfl))))) dX11_renew_148 ?_
        refine lv_iload_n hx hb dX11_renew_151 rfl (lv_at hl 1 rfl) ?_
        refine lv_iconst (v := 1) hx hb dX11_renew_152 (by decide) ?_
        refine lv_iadd hx hb dX11_renew_153 ?_
        refine lv_iload_n hx hb dX11_renew_154 rfl (lv_at hl 3 rfl) ?_
        obtain ⟨q1, h⟩ := kb_ite1 h
        refine hs_67 hx hb hK hP hD hS q1 dX11_renew_155 (fun H locs hP hD hS => ?_)
        refine lv_aload_n hx hb dX11_renew_156 rfl (lv_at hl 0 rfl) ?_
        refine hg_75_4 hx hb hts in_y_X11_renew_X11 hown hK hP (hts _ (List.mem_cons_of_mem _ (List.mem_append_left _ (List.mem_append_left _ (List.mem_of_getElem? (i := 0) rfl))))) dX11_renew_157 ?_
        refine lv_iload_n hx hb dX11_renew_160 rfl (lv_at hl 1 rfl) ?_
        refine lv_iconst (v := 2) hx hb dX11_renew_161 (by decide) ?_
        refine lv_iadd hx hb dX11_renew_162 ?_
        refine lv_iload_n hx hb dX11_renew_163 rfl (lv_at hl 2 rfl) ?_
        obtain ⟨q2, h⟩ := kb_ite1 h
        refine hs_67 hx hb hK hP hD hS q2 dX11_renew_164 (fun H locs hP hD hS => ?_)
        exact ih.2.2.2.2.2.2.2.2 L (uA (uA σ 67 ((((L.1 1)) + 1)).toNatClampNeg ((L.1 3))) 67 ((((L.1 1)) + 2)).toNatClampNeg ((L.1 2))) r h H locs ls hP hD hS (lv_sub hl [4] rfl)
      · intro L σ r h H locs ls hP hD hS hl
        rw [y_X11_renew] at h
        refine lv_iload hx hb dX11_renew_165 (lv_at hl 0 rfl) ?_
        obtain ⟨q1, h⟩ := kb_ite1 h
        obtain rfl := Option.some.inj h
        exact W.zret (v := (L.1 4)) hx hb hr (nb_bz q1) (fun t ht hW => ⟨⟨(L.1 4), (), rfl, rfl, by rw [ht]; exact hP, va_K.moved hW.alike hK, hD⟩, hS.F ht⟩) hS.2.2 dX11_renew_167
  exact (blk k0).1 L0 σ0 r0 h0 s.heap [] ls hP hD hS hl
/-! X11_order -/
def y_X11_order : Nat → Nat → LV → CS → Option (Int32 × CS)
  | 0, _, _, _ => none
  | k + 1, 0, L, σ => if 2 ≤ ((σ.1 7518)) then (y_X11_order k 1 L σ) else (y_X11_order k 2 (lI L 100 0) σ)
  | k + 1, 1, L, σ => if ¬ ((0 : Int32) < 0 ∨ 27 ≤ (0 : Int32).toNatClampNeg) then (if ¬ ((1 : Int32) < 0 ∨ 27 ≤ (1 : Int32).toNatClampNeg) then (oc (y_X1_compare k 0 (lI (lI lZ 1 ((σ.2.2.1 67 (0 : Int32).toNatClampNeg))) 2 ((σ.2.2.1 67 (1 : Int32).toNatClampNeg))) σ) (fun r3 => y_X11_order k 2 (lI L 100 r3.1) r3.2)) else none) else none
  | k + 1, 2, L, σ => some ((L.1 100), σ)
  | _ + 1, _ + 3, _, _ => none
def o_y_X11_order : List Cond := [.fieldLink RX11 228 "SetHouse" "shownValues" "I", .fieldLink RX11 25 "SetHouse" "heap" "LSetHouse$Heap;", .fieldLink RX11 56 "SetHouse" "kept" "[I", .methodLink RX11 333 yX1_compare, .instanceMethod yX1_compare, .selects RX1 yX1_compare yX1_compare, .initialized RX1]
theorem o_y_X11_order_good : o_y_X11_order.all goodWord = true := by decide +kernel
def p_y_X11_order : List Cond := o_y_X11_order ++ ((.code yX1_compare cX1_compare 9 (some .int) :: p_y_H1) ++ [])
theorem p_y_X11_order_good : p_y_X11_order.all goodWord = true := nb_all2 o_y_X11_order_good (nb_all2 (nb_allc (by decide +kernel) p_y_H1_good) rfl)
def w_y_X11_order : List Cond := .code yX11_order cX11_order 1 (some .int) :: (p_y_X11_order ++ fC)
theorem w_y_X11_order_good : w_y_X11_order.all goodWord = true := nb_allc (by decide +kernel) (nb_all2 p_y_X11_order_good fC_good)
theorem in_y_X11_order_X11 : ∀ w ∈ wsX110, w ∈ w_y_X11_order := fun _ h => List.mem_cons_of_mem _ (List.mem_append_right _ (List.mem_append_right _ (List.mem_append_right _ (List.mem_append_right _ (List.mem_append_right _ (List.mem_append_right _ (List.mem_append_right _ (List.mem_append_right _ (List.mem_append_right _ (List.mem_append_right _ (List.mem_append_right _ h)))))))))))
theorem hd_y_X11_order : yX11_order.cls = RX11 ∧ yX11_order.cls ≠ "java/lang/invoke/MethodHandle" ∧ yX11_order.cls ≠ "java/lang/invoke/VarHandle" ∧ (parseMethodDescriptor yX11_order.desc).map (fun d => d.parameters.length) = some 0 := by decide +kernel
theorem gg_y_X11_order_X1_compare : GoodIn w_y_X11_order w_y_X1_compare := goodIn_sub (fun w h => (List.mem_cons.mp h).elim (fun e => (List.mem_cons_of_mem _ (List.mem_append_left _ (List.mem_append_right _ (List.mem_append_left _ (List.mem_cons.mpr (Or.inl e))))))) (fun h => (List.mem_append.mp h).elim (fun h => (List.mem_cons_of_mem _ (List.mem_append_left _ (List.mem_append_right _ (List.mem_append_left _ (List.mem_cons_of_mem _ h)))))) (fun h => List.mem_cons_of_mem _ (List.mem_append_right _ h)))) w_y_X1_compare_good
theorem g_y_X11_order_X1_compare_V333 : GoodIn w_y_X11_order (wsV RX11 333 RX1 yX1_compare w_y_X1_compare) := goodIn_app (nb_g4 (List.mem_cons_of_mem _ (List.mem_append_left _ (List.mem_append_left _ (List.mem_of_getElem? (i := 3) rfl)))) (List.mem_cons_of_mem _ (List.mem_append_left _ (List.mem_append_left _ (List.mem_of_getElem? (i := 4) rfl)))) (List.mem_cons_of_mem _ (List.mem_append_left _ (List.mem_append_left _ (List.mem_of_getElem? (i := 5) rfl)))) (List.mem_cons_of_mem _ (List.mem_append_left _ (List.mem_append_left _ (List.mem_of_getElem? (i := 6) rfl)))) (by decide +kernel)) gg_y_X11_order_X1_compare
set_option maxHeartbeats 40000000 in
set_option maxRecDepth 100000 in
theorem c_y_X11_order (l : Launch) (dC : Nat → ClassId) (dI : Nat → Nat → Nat) (cy : Nat → ClassId) (a z : Nat → Nat) (k0 : Nat) (L0 : LV) (σ0 : CS) (r0 : Int32 × CS) (h0 : y_X11_order k0 0 L0 σ0 = some r0) (sz : Nat) : Met l yX11_order w_y_X11_order ({ frames := 62, cells := 0, slots := 0, locals := 1738 }) (va_Pc [.ref (a 75)] (nIn (dC, dI) cy sz (vC cy a z σ0))) (va_Qi (fun (x : Int32) (_ : Unit) => x = r0.1) (fun _ t => nOut (dC, dI) cy (va_A (vC cy a z σ0) sz) (vC cy a z r0.2) t) (va_A (vC cy a z σ0) sz)) 0 0 (va_A (vC cy a z σ0) sz) := by
  refine Met.ofW (cc := cX11_order) (maxL := 1) (ret := (some .int)) (by decide) rfl ?_
  intro p e s m args below meth c s₁ B hml hv
  obtain ⟨rfl, hsz, hP, hK, hD0, hG⟩ := hv
  have hx := B.exec
  have hb := B.bytes
  have hr := B.returns
  have hts := atoms_spec (ws := w_y_X11_order) B.pre
  have hown : s.vm.findClass RX11 = some m.cls := findClass_of_methodNamed B.named
  have hlocks := B.notSynchronized
  subst hsz
  have hD := hD0.self (sz := s.heap.size)
  generalize hAe : va_A (vC cy a z σ0) s.heap.size = A at hD ⊢
  have hA : ∀ q : Nat, s.heap.size ≤ q → A q := fun q h => by rw [← hAe]; exact Or.inr h
  have hS : va_S A s.heap s.heap [] := va_S.rf
  have hl := lv_entry ([.ref (a 75)]) (n := 1) (Nat.le_of_ble_eq_true rfl)
  rw [lg_entry_eq]
  generalize (lg_sl ([.ref (a 75)]) ++ List.replicate (1 - (lg_sl ([.ref (a 75)])).length) Slot.unset).toArray = ls at hl ⊢
  have hl : lv_has ls 1 [(0, .ref (a 75))] := hl
  have blk : ∀ k : Nat, (bC p l e (headSpec w_y_X11_order ({ frames := 62, cells := 0, slots := 0, locals := 1738 })).room s m #[.ref (a 75)] below meth c dC dI cy a z A (kI dC dI cy a z A below #[.ref (a 75)] s) 1 (y_X11_order k 0) (fun L => [(0, .ref (a 75))]) 0 (fun L => [])) ∧ (bC p l e (headSpec w_y_X11_order ({ frames := 62, cells := 0, slots := 0, locals := 1738 })).room s m #[.ref (a 75)] below meth c dC dI cy a z A (kI dC dI cy a z A below #[.ref (a 75)] s) 1 (y_X11_order k 1) (fun L => [(0, .ref (a 75))]) 12 (fun L => [])) ∧ (bC p l e (headSpec w_y_X11_order ({ frames := 62, cells := 0, slots := 0, locals := 1738 })).room s m #[.ref (a 75)] below meth c dC dI cy a z A (kI dC dI cy a z A below #[.ref (a 75)] s) 1 (y_X11_order k 2) (fun L => []) 31 (fun L => [.int (L.1 100)])) := by
    intro k
    induction k with
    | zero => exact ⟨fun L σ r h => (by cases h), fun L σ r h => (by cases h), fun L σ r h => (by cases h)⟩
    | succ k ih =>
      refine ⟨?_, ?_, ?_⟩
      · intro L σ r h H locs ls hP hD hS hl
        rw [y_X11_order] at h
        refine lv_aload_n hx hb dX11_order_0 rfl (lv_at hl 0 rfl) ?_
        refine hg_75_18 hx hb hts in_y_X11_order_X11 hown hK hP (hts _ (List.mem_cons_of_mem _ (List.mem_append_left _ (List.mem_append_left _ (List.mem_of_getElem? (i := 0) rfl))))) dX11_order_1 ?_
        refine lv_iconst (v := 2) hx hb dX11_order_4 (by decide) ?_
        refine lv_icmp_ge (tgt := 12) hx hb dX11_order_5 (by decide) (fun c1 => ?_) (fun c1 => ?_)
        · rw [if_pos c1] at h
          exact ih.2.1 L σ r h H locs ls hP hD hS (lv_sub hl [0] rfl)
        · rw [if_neg c1] at h
          refine lv_iconst (v := 0) hx hb dX11_order_8 (by decide) ?_
          refine lv_goto (tgt := 31) hx hb dX11_order_9 (by decide) ?_
          exact ih.2.2 (lI L 100 0) σ r h H locs ls hP hD hS (lv_sub hl [] rfl)
      · intro L σ r h H locs ls hP hD hS hl
        rw [y_X11_order] at h
        refine lv_aload_n hx hb dX11_order_12 rfl (lv_at hl 0 rfl) ?_
        refine hg_75_0 hx hb hts in_y_X11_order_X11 hown hK hP (hts _ (List.mem_cons_of_mem _ (List.mem_append_left _ (List.mem_append_left _ (List.mem_of_getElem? (i := 1) rfl))))) dX11_order_13 ?_
        refine lv_aload_n hx hb dX11_order_16 rfl (lv_at hl 0 rfl) ?_
        refine hg_75_4 hx hb hts in_y_X11_order_X11 hown hK hP (hts _ (List.mem_cons_of_mem _ (List.mem_append_left _ (List.mem_append_left _ (List.mem_of_getElem? (i := 2) rfl))))) dX11_order_17 ?_
        refine lv_iconst (v := 0) hx hb dX11_order_20 (by decide) ?_
        obtain ⟨q1, h⟩ := kb_ite1 h
        refine hl_67 hx hb hK hP q1 dX11_order_21 ?_
        refine lv_aload_n hx hb dX11_order_22 rfl (lv_at hl 0 rfl) ?_
        refine hg_75_4 hx hb hts in_y_X11_order_X11 hown hK hP (hts _ (List.mem_cons_of_mem _ (List.mem_append_left _ (List.mem_append_left _ (List.mem_of_getElem? (i := 2) rfl))))) dX11_order_23 ?_
        refine lv_iconst (v := 1) hx hb dX11_order_26 (by decide) ?_
        obtain ⟨q2, h⟩ := kb_ite1 h
        refine hl_67 hx hb hK hP q2 dX11_order_27 ?_
        obtain ⟨r3, hc3, h⟩ := oc_ex h
        refine kc_i (va_runV (As := [.int (σ.2.2.1 67 (0 : Int32).toNatClampNeg), .int (σ.2.2.1 67 (1 : Int32).toNatClampNeg)]) (rest := []) ⟨hx, hb, hml, hown, hts⟩ (c_y_X1_compare l dC dI cy a z k (lI (lI lZ 1 ((σ.2.2.1 67 (0 : Int32).toNatClampNeg))) 2 ((σ.2.2.1 67 (1 : Int32).toNatClampNeg))) σ r3 hc3 H.size) (cwV 2 hts g_y_X11_order_X1_compare_V333 rfl rfl rfl hd_y_X1_compare ⟨Nat.le_of_ble_eq_true rfl, Nat.le_of_ble_eq_true rfl⟩) ⟨nb_blind, va_recv hK hP (ci := 1) (q0 := 0) rfl rfl, (kb_pre hK hG hP hD)⟩ rfl rfl hl.1 rfl (lv_room (Nat.le_of_ble_eq_true rfl)) dX11_order_28 ⟨Nat.le_refl _, Nat.le_refl _⟩) hA hP hD hS (fun H locs hP hD hS => ?_)
        exact ih.2.2 (lI L 100 r3.1) r3.2 r h H locs ls hP hD hS (lv_sub hl [] rfl)
      · intro L σ r h H locs ls hP hD hS hl
        rw [y_X11_order] at h
        obtain rfl := Option.some.inj h
        exact W.iret (v := (L.1 100)) hx hb hr (fun t ht hW => ⟨⟨(L.1 100), (), rfl, rfl, by rw [ht]; exact hP, va_K.moved hW.alike hK, hD⟩, hS.F ht⟩) hS.2.2 dX11_order_31
  exact (blk k0).1 L0 σ0 r0 h0 s.heap [] ls hP hD hS hl

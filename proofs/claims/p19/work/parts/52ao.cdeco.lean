/-! X3_beginWork -/
def y_X3_beginWork : Nat → Nat → LV → CS → Option (Int32 × CS)
  | 0, _, _, _ => none
  | k + 1, 0, L, σ => y_X3_beginWork k 1 L (uI (uI (uI σ 1812 0) 1813 0) 1815 0)
  | k + 1, 1, L, σ => some (0, (uI (uI σ 1816 0) 1811 0))
  | _ + 1, _ + 2, _, _ => none
def o_y_X3_beginWork : List Cond := [.fieldLink RX3 225 "SetHouse$Machine" "halted" "Z", .fieldLink RX3 149 "SetHouse$Machine" "trouble" "I", .fieldLink RX3 229 "SetHouse$Machine" "funcs" "I", .fieldLink RX3 232 "SetHouse$Machine" "depths" "I", .fieldLink RX3 235 "SetHouse$Machine" "passingBase" "I"]
theorem o_y_X3_beginWork_good : o_y_X3_beginWork.all goodWord = true := by decide +kernel
def p_y_X3_beginWork : List Cond := o_y_X3_beginWork ++ []
theorem p_y_X3_beginWork_good : p_y_X3_beginWork.all goodWord = true := nb_all2 o_y_X3_beginWork_good rfl
def w_y_X3_beginWork : List Cond := .code yX3_beginWork cX3_beginWork 1 none :: (p_y_X3_beginWork ++ fC)
theorem w_y_X3_beginWork_good : w_y_X3_beginWork.all goodWord = true := nb_allc (by decide +kernel) (nb_all2 p_y_X3_beginWork_good fC_good)
theorem in_y_X3_beginWork_X3 : ∀ w ∈ wsX30, w ∈ w_y_X3_beginWork := fun _ h => List.mem_cons_of_mem _ (List.mem_append_right _ (List.mem_append_right _ (List.mem_append_right _ (List.mem_append_right _ (List.mem_append_left _ h)))))
theorem hd_y_X3_beginWork : yX3_beginWork.cls = RX3 ∧ yX3_beginWork.cls ≠ "java/lang/invoke/MethodHandle" ∧ yX3_beginWork.cls ≠ "java/lang/invoke/VarHandle" ∧ (parseMethodDescriptor yX3_beginWork.desc).map (fun d => d.parameters.length) = some 0 := by decide +kernel
set_option maxHeartbeats 40000000 in
set_option maxRecDepth 100000 in
theorem c_y_X3_beginWork (l : Launch) (dC : Nat → ClassId) (dI : Nat → Nat → Nat) (cy : Nat → ClassId) (a z : Nat → Nat) (k0 : Nat) (L0 : LV) (σ0 : CS) (r0 : Int32 × CS) (h0 : y_X3_beginWork k0 0 L0 σ0 = some r0) (sz : Nat) : Met l yX3_beginWork w_y_X3_beginWork ({ frames := 0, cells := 0, slots := 0, locals := 0 }) (va_Pc [.ref (a 18)] (nIn (dC, dI) cy sz (vC cy a z σ0))) (va_Qv (fun _ : Unit => True) (fun _ t => nOut (dC, dI) cy (va_A (vC cy a z σ0) sz) (vC cy a z r0.2) t) (va_A (vC cy a z σ0) sz)) 0 0 (va_A (vC cy a z σ0) sz) := by
  refine Met.ofW (cc := cX3_beginWork) (maxL := 1) (ret := none) (by decide) rfl ?_
  intro p e s m args below meth c s₁ B hml hv
  obtain ⟨rfl, hsz, hP, hK, hD0, hG⟩ := hv
  have hx := B.exec
  have hb := B.bytes
  have hr := B.returns
  have hts := atoms_spec (ws := w_y_X3_beginWork) B.pre
  have hown : s.vm.findClass RX3 = some m.cls := findClass_of_methodNamed B.named
  have hlocks := B.notSynchronized
  subst hsz
  have hD := hD0.self (sz := s.heap.size)
  generalize hAe : va_A (vC cy a z σ0) s.heap.size = A at hD ⊢
  have hA : ∀ q : Nat, s.heap.size ≤ q → A q := fun q h => by rw [← hAe]; exact Or.inr h
  have hS : va_S A s.heap s.heap [] := va_S.rf
  have hl := lv_entry ([.ref (a 18)]) (n := 1) (Nat.le_of_ble_eq_true rfl)
  rw [lg_entry_eq]
  generalize (lg_sl ([.ref (a 18)]) ++ List.replicate (1 - (lg_sl ([.ref (a 18)])).length) Slot.unset).toArray = ls at hl ⊢
  have hl : lv_has ls 1 [(0, .ref (a 18))] := hl
  have blk : ∀ k : Nat, (bC p l e (headSpec w_y_X3_beginWork ({ frames := 0, cells := 0, slots := 0, locals := 0 })).room s m #[.ref (a 18)] below meth c dC dI cy a z A (kV dC dI cy a z A below #[.ref (a 18)] s) 1 (y_X3_beginWork k 0) (fun L => [(0, .ref (a 18))]) 0 (fun L => [])) ∧ (bC p l e (headSpec w_y_X3_beginWork ({ frames := 0, cells := 0, slots := 0, locals := 0 })).room s m #[.ref (a 18)] below meth c dC dI cy a z A (kV dC dI cy a z A below #[.ref (a 18)] s) 1 (y_X3_beginWork k 1) (fun L => [(0, .ref (a 18))]) 15 (fun L => [])) := by
    intro k
    induction k with
    | zero => exact ⟨fun L σ r h => (by cases h), fun L σ r h => (by cases h)⟩
    | succ k ih =>
      refine ⟨?_, ?_⟩
      · intro L σ r h H locs ls hP hD hS hl
        rw [y_X3_beginWork] at h
        refine lv_aload_n hx hb dX3_beginWork_0 rfl (lv_at hl 0 rfl) ?_
        refine lv_iconst (v := 0) hx hb dX3_beginWork_1 (by decide) ?_
        refine hp_18_12 hx hb hts in_y_X3_beginWork_X3 hown hK hP hD hS (hts _ (List.mem_cons_of_mem _ (List.mem_append_left _ (List.mem_append_left _ (List.mem_of_getElem? (i := 0) rfl))))) (Or.inl rfl) dX3_beginWork_2 (fun H locs hP hD hS => ?_)
        refine lv_aload_n hx hb dX3_beginWork_5 rfl (lv_at hl 0 rfl) ?_
        refine lv_iconst (v := 0) hx hb dX3_beginWork_6 (by decide) ?_
        refine hp_18_13 hx hb hts in_y_X3_beginWork_X3 hown hK hP hD hS (hts _ (List.mem_cons_of_mem _ (List.mem_append_left _ (List.mem_append_left _ (List.mem_of_getElem? (i := 1) rfl))))) dX3_beginWork_7 (fun H locs hP hD hS => ?_)
        refine lv_aload_n hx hb dX3_beginWork_10 rfl (lv_at hl 0 rfl) ?_
        refine lv_iconst (v := 0) hx hb dX3_beginWork_11 (by decide) ?_
        refine hp_18_15 hx hb hts in_y_X3_beginWork_X3 hown hK hP hD hS (hts _ (List.mem_cons_of_mem _ (List.mem_append_left _ (List.mem_append_left _ (List.mem_of_getElem? (i := 2) rfl))))) dX3_beginWork_12 (fun H locs hP hD hS => ?_)
        exact ih.2 L (uI (uI (uI σ 1812 0) 1813 0) 1815 0) r h H locs ls hP hD hS (lv_sub hl [0] rfl)
      · intro L σ r h H locs ls hP hD hS hl
        rw [y_X3_beginWork] at h
        refine lv_aload_n hx hb dX3_beginWork_15 rfl (lv_at hl 0 rfl) ?_
        refine lv_iconst (v := 0) hx hb dX3_beginWork_16 (by decide) ?_
        refine hp_18_16 hx hb hts in_y_X3_beginWork_X3 hown hK hP hD hS (hts _ (List.mem_cons_of_mem _ (List.mem_append_left _ (List.mem_append_left _ (List.mem_of_getElem? (i := 3) rfl))))) dX3_beginWork_17 (fun H locs hP hD hS => ?_)
        refine lv_aload_n hx hb dX3_beginWork_20 rfl (lv_at hl 0 rfl) ?_
        refine lv_iconst (v := 0) hx hb dX3_beginWork_21 (by decide) ?_
        refine hp_18_11 hx hb hts in_y_X3_beginWork_X3 hown hK hP hD hS (hts _ (List.mem_cons_of_mem _ (List.mem_append_left _ (List.mem_append_left _ (List.mem_of_getElem? (i := 4) rfl))))) dX3_beginWork_22 (fun H locs hP hD hS => ?_)
        obtain rfl := Option.some.inj h
        exact W.vret hx hb hr (fun t ht hW => ⟨⟨(), rfl, trivial, by rw [ht]; exact hP, va_K.moved hW.alike hK, hD⟩, hS.F ht⟩) hS.2.2 dX3_beginWork_25
  exact (blk k0).1 L0 σ0 r0 h0 s.heap [] ls hP hD hS hl
/-! X3_fail -/
def y_X3_fail : Nat → Nat → LV → CS → Option (Int32 × CS)
  | 0, _, _, _ => none
  | k + 1, 0, L, σ => some (0, (uI (uI σ 1813 ((L.1 1))) 1812 1))
  | _ + 1, _ + 1, _, _ => none
def o_y_X3_fail : List Cond := [.fieldLink RX3 149 "SetHouse$Machine" "trouble" "I", .fieldLink RX3 225 "SetHouse$Machine" "halted" "Z"]
theorem o_y_X3_fail_good : o_y_X3_fail.all goodWord = true := by decide +kernel
def p_y_X3_fail : List Cond := o_y_X3_fail ++ []
theorem p_y_X3_fail_good : p_y_X3_fail.all goodWord = true := nb_all2 o_y_X3_fail_good rfl
def w_y_X3_fail : List Cond := .code yX3_fail cX3_fail 2 none :: (p_y_X3_fail ++ fC)
theorem w_y_X3_fail_good : w_y_X3_fail.all goodWord = true := nb_allc (by decide +kernel) (nb_all2 p_y_X3_fail_good fC_good)
theorem in_y_X3_fail_X3 : ∀ w ∈ wsX30, w ∈ w_y_X3_fail := fun _ h => List.mem_cons_of_mem _ (List.mem_append_right _ (List.mem_append_right _ (List.mem_append_right _ (List.mem_append_right _ (List.mem_append_left _ h)))))
theorem hd_y_X3_fail : yX3_fail.cls = RX3 ∧ yX3_fail.cls ≠ "java/lang/invoke/MethodHandle" ∧ yX3_fail.cls ≠ "java/lang/invoke/VarHandle" ∧ (parseMethodDescriptor yX3_fail.desc).map (fun d => d.parameters.length) = some 1 := by decide +kernel
set_option maxHeartbeats 40000000 in
set_option maxRecDepth 100000 in
theorem c_y_X3_fail (l : Launch) (dC : Nat → ClassId) (dI : Nat → Nat → Nat) (cy : Nat → ClassId) (a z : Nat → Nat) (k0 : Nat) (L0 : LV) (σ0 : CS) (r0 : Int32 × CS) (h0 : y_X3_fail k0 0 L0 σ0 = some r0) (sz : Nat) : Met l yX3_fail w_y_X3_fail ({ frames := 0, cells := 0, slots := 0, locals := 0 }) (va_Pc [.ref (a 18), .int (L0.1 1)] (nIn (dC, dI) cy sz (vC cy a z σ0))) (va_Qv (fun _ : Unit => True) (fun _ t => nOut (dC, dI) cy (va_A (vC cy a z σ0) sz) (vC cy a z r0.2) t) (va_A (vC cy a z σ0) sz)) 0 0 (va_A (vC cy a z σ0) sz) := by
  refine Met.ofW (cc := cX3_fail) (maxL := 2) (ret := none) (by decide) rfl ?_
  intro p e s m args below meth c s₁ B hml hv
  obtain ⟨rfl, hsz, hP, hK, hD0, hG⟩ := hv
  have hx := B.exec
  have hb := B.bytes
  have hr := B.returns
  have hts := atoms_spec (ws := w_y_X3_fail) B.pre
  have hown : s.vm.findClass RX3 = some m.cls := findClass_of_methodNamed B.named
  have hlocks := B.notSynchronized
  subst hsz
  have hD := hD0.self (sz := s.heap.size)
  generalize hAe : va_A (vC cy a z σ0) s.heap.size = A at hD ⊢
  have hA : ∀ q : Nat, s.heap.size ≤ q → A q := fun q h => by rw [← hAe]; exact Or.inr h
  have hS : va_S A s.heap s.heap [] := va_S.rf
  have hl := lv_entry ([.ref (a 18), .int (L0.1 1)]) (n := 2) (Nat.le_of_ble_eq_true rfl)
  rw [lg_entry_eq]
  generalize (lg_sl ([.ref (a 18), .int (L0.1 1)]) ++ List.replicate (2 - (lg_sl ([.ref (a 18), .int (L0.1 1)])).length) Slot.unset).toArray = ls at hl ⊢
  have hl : lv_has ls 2 [(0, .ref (a 18)), (1, .int (L0.1 1))] := hl
  have blk : ∀ k : Nat, (bC p l e (headSpec w_y_X3_fail ({ frames := 0, cells := 0, slots := 0, locals := 0 })).room s m #[.ref (a 18), .int (L0.1 1)] below meth c dC dI cy a z A (kV dC dI cy a z A below #[.ref (a 18), .int (L0.1 1)] s) 2 (y_X3_fail k 0) (fun L => [(0, .ref (a 18)), (1, .int (L.1 1))]) 0 (fun L => [])) := by
    intro k
    induction k with
    | zero => exact fun L σ r h => (by cases h)
    | succ k ih =>
      skip
      · intro L σ r h H locs ls hP hD hS hl
        rw [y_X3_fail] at h
        refine lv_aload_n hx hb dX3_fail_0 rfl (lv_at hl 0 rfl) ?_
        refine lv_iload_n hx hb dX3_fail_1 rfl (lv_at hl 1 rfl) ?_
        refine hp_18_13 hx hb hts in_y_X3_fail_X3 hown hK hP hD hS (hts _ (List.mem_cons_of_mem _ (List.mem_append_left _ (List.mem_append_left _ (List.mem_of_getElem? (i := 0) rfl))))) dX3_fail_2 (fun H locs hP hD hS => ?_)
        refine lv_aload_n hx hb dX3_fail_5 rfl (lv_at hl 0 rfl) ?_
        refine lv_iconst (v := 1) hx hb dX3_fail_6 (by decide) ?_
        refine hp_18_12 hx hb hts in_y_X3_fail_X3 hown hK hP hD hS (hts _ (List.mem_cons_of_mem _ (List.mem_append_left _ (List.mem_append_left _ (List.mem_of_getElem? (i := 1) rfl))))) (Or.inr rfl) dX3_fail_7 (fun H locs hP hD hS => ?_)
        obtain rfl := Option.some.inj h
        exact W.vret hx hb hr (fun t ht hW => ⟨⟨(), rfl, trivial, by rw [ht]; exact hP, va_K.moved hW.alike hK, hD⟩, hS.F ht⟩) hS.2.2 dX3_fail_10
  exact (blk k0) L0 σ0 r0 h0 s.heap [] ls hP hD hS hl
/-! X3_spend -/
def y_X3_spend : Nat → Nat → LV → CS → Option (Int32 × CS)
  | 0, _, _, _ => none
  | k + 1, 0, L, σ => if (((uI σ 1905 ((((σ.1 1905)) + ((L.1 1))))).1 1905)) ≤ 60000 then (y_X3_spend k 1 L (uI σ 1905 ((((σ.1 1905)) + ((L.1 1)))))) else (y_X3_spend k 1 L (uI (uI (uI σ 1905 ((((σ.1 1905)) + ((L.1 1))))) 1813 11) 1812 1))
  | k + 1, 1, L, σ => some (0, σ)
  | _ + 1, _ + 2, _, _ => none
def o_y_X3_spend : List Cond := [.fieldLink RX3 14 "SetHouse$Machine" "run" "LSetHouse$Run;", .constant RX3 300 (60000), .fieldLink RX3 149 "SetHouse$Machine" "trouble" "I", .fieldLink RX3 225 "SetHouse$Machine" "halted" "Z"]
theorem o_y_X3_spend_good : o_y_X3_spend.all goodWord = true := by decide +kernel
def p_y_X3_spend : List Cond := o_y_X3_spend ++ []
theorem p_y_X3_spend_good : p_y_X3_spend.all goodWord = true := nb_all2 o_y_X3_spend_good rfl
def w_y_X3_spend : List Cond := .code yX3_spend cX3_spend 2 none :: (p_y_X3_spend ++ fC)
theorem w_y_X3_spend_good : w_y_X3_spend.all goodWord = true := nb_allc (by decide +kernel) (nb_all2 p_y_X3_spend_good fC_good)
theorem in_y_X3_spend_X3 : ∀ w ∈ wsX30, w ∈ w_y_X3_spend := fun _ h => List.mem_cons_of_mem _ (List.mem_append_right _ (List.mem_append_right _ (List.mem_append_right _ (List.mem_append_right _ (List.mem_append_left _ h)))))
theorem in_y_X3_spend_X8 : ∀ w ∈ wsX80, w ∈ w_y_X3_spend := fun _ h => List.mem_cons_of_mem _ (List.mem_append_right _ (List.mem_append_right _ (List.mem_append_right _ (List.mem_append_right _ (List.mem_append_right _ (List.mem_append_right _ (List.mem_append_right _ (List.mem_append_right _ (List.mem_append_left _ h)))))))))
theorem hd_y_X3_spend : yX3_spend.cls = RX3 ∧ yX3_spend.cls ≠ "java/lang/invoke/MethodHandle" ∧ yX3_spend.cls ≠ "java/lang/invoke/VarHandle" ∧ (parseMethodDescriptor yX3_spend.desc).map (fun d => d.parameters.length) = some 1 := by decide +kernel
set_option maxHeartbeats 40000000 in
set_option maxRecDepth 100000 in
theorem c_y_X3_spend (l : Launch) (dC : Nat → ClassId) (dI : Nat → Nat → Nat) (cy : Nat → ClassId) (a z : Nat → Nat) (k0 : Nat) (L0 : LV) (σ0 : CS) (r0 : Int32 × CS) (h0 : y_X3_spend k0 0 L0 σ0 = some r0) (sz : Nat) : Met l yX3_spend w_y_X3_spend ({ frames := 0, cells := 0, slots := 0, locals := 0 }) (va_Pc [.ref (a 18), .int (L0.1 1)] (nIn (dC, dI) cy sz (vC cy a z σ0))) (va_Qv (fun _ : Unit => True) (fun _ t => nOut (dC, dI) cy (va_A (vC cy a z σ0) sz) (vC cy a z r0.2) t) (va_A (vC cy a z σ0) sz)) 0 0 (va_A (vC cy a z σ0) sz) := by
  refine Met.ofW (cc := cX3_spend) (maxL := 2) (ret := none) (by decide) rfl ?_
  intro p e s m args below meth c s₁ B hml hv
  obtain ⟨rfl, hsz, hP, hK, hD0, hG⟩ := hv
  have hx := B.exec
  have hb := B.bytes
  have hr := B.returns
  have hts := atoms_spec (ws := w_y_X3_spend) B.pre
  have hown : s.vm.findClass RX3 = some m.cls := findClass_of_methodNamed B.named
  have hlocks := B.notSynchronized
  subst hsz
  have hD := hD0.self (sz := s.heap.size)
  generalize hAe : va_A (vC cy a z σ0) s.heap.size = A at hD ⊢
  have hA : ∀ q : Nat, s.heap.size ≤ q → A q := fun q h => by rw [← hAe]; exact Or.inr h
  have hS : va_S A s.heap s.heap [] := va_S.rf
  have hl := lv_entry ([.ref (a 18), .int (L0.1 1)]) (n := 2) (Nat.le_of_ble_eq_true rfl)
  rw [lg_entry_eq]
  generalize (lg_sl ([.ref (a 18), .int (L0.1 1)]) ++ List.replicate (2 - (lg_sl ([.ref (a 18), .int (L0.1 1)])).length) Slot.unset).toArray = ls at hl ⊢
  have hl : lv_has ls 2 [(0, .ref (a 18)), (1, .int (L0.1 1))] := hl
  have blk : ∀ k : Nat, (bC p l e (headSpec w_y_X3_spend ({ frames := 0, cells := 0, slots := 0, locals := 0 })).room s m #[.ref (a 18), .int (L0.1 1)] below meth c dC dI cy a z A (kV dC dI cy a z A below #[.ref (a 18), .int (L0.1 1)] s) 2 (y_X3_spend k 0) (fun L => [(0, .ref (a 18)), (1, .int (L.1 1))]) 0 (fun L => [])) ∧ (bC p l e (headSpec w_y_X3_spend ({ frames := 0, cells := 0, slots := 0, locals := 0 })).room s m #[.ref (a 18), .int (L0.1 1)] below meth c dC dI cy a z A (kV dC dI cy a z A below #[.ref (a 18), .int (L0.1 1)] s) 2 (y_X3_spend k 1) (fun L => []) 40 (fun L => [])) := by
    intro k
    induction k with
    | zero => exact ⟨fun L σ r h => (by cases h), fun L σ r h => (by cases h)⟩
    | succ k ih =>
      refine ⟨?_, ?_⟩
      · intro L σ r h H locs ls hP hD hS hl
        rw [y_X3_spend] at h
        refine lv_aload_n hx hb dX3_spend_0 rfl (lv_at hl 0 rfl) ?_
        refine hg_18_5 hx hb hts in_y_X3_spend_X3 hown hK hP (hts _ (List.mem_cons_of_mem _ (List.mem_append_left _ (List.mem_append_left _ (List.mem_of_getElem? (i := 0) rfl))))) dX3_spend_1 ?_
        refine lv_aload_n hx hb dX3_spend_4 rfl (lv_at hl 0 rfl) ?_
        refine hg_18_5 hx hb hts in_y_X3_spend_X3 hown hK hP (hts _ (List.mem_cons_of_mem _ (List.mem_append_left _ (List.mem_append_left _ (List.mem_of_getElem? (i := 0) rfl))))) dX3_spend_5 ?_
        refine hg_19_5n hx hb hts in_y_X3_spend_X8 hown hK hP (va_Nw.use rfl (hG.1 _ (List.mem_of_getElem? (i := 17) rfl))) dX3_spend_8 ?_
        refine lv_iload_n hx hb dX3_spend_11 rfl (lv_at hl 1 rfl) ?_
        refine lv_iadd hx hb dX3_spend_12 ?_
        refine hp_19_5n hx hb hts in_y_X3_spend_X8 hown hK hP hD hS (va_Nw.use rfl (hG.1 _ (List.mem_of_getElem? (i := 17) rfl))) dX3_spend_13 (fun H locs hP hD hS => ?_)
        refine lv_aload_n hx hb dX3_spend_16 rfl (lv_at hl 0 rfl) ?_
        refine hg_18_5 hx hb hts in_y_X3_spend_X3 hown hK hP (hts _ (List.mem_cons_of_mem _ (List.mem_append_left _ (List.mem_append_left _ (List.mem_of_getElem? (i := 0) rfl))))) dX3_spend_17 ?_
        refine hg_19_5n hx hb hts in_y_X3_spend_X8 hown hK hP (va_Nw.use rfl (hG.1 _ (List.mem_of_getElem? (i := 17) rfl))) dX3_spend_20 ?_
        refine lv_ldcw (v := 60000) hx hb hown (hts _ (List.mem_cons_of_mem _ (List.mem_append_left _ (List.mem_append_left _ (List.mem_of_getElem? (i := 1) rfl))))) dX3_spend_23 ?_
        refine lv_icmp_le (tgt := 40) hx hb dX3_spend_26 (by decide) (fun c1 => ?_) (fun c1 => ?_)
        · rw [if_pos c1] at h
          exact ih.2 L (uI σ 1905 ((((σ.1 1905)) + ((L.1 1))))) r h H locs ls hP hD hS (lv_sub hl [] rfl)
        · rw [if_neg c1] at h
          refine lv_aload_n hx hb dX3_spend_29 rfl (lv_at hl 0 rfl) ?_
          refine lv_bipush (v := 11) hx hb dX3_spend_30 (by decide) ?_
          refine hp_18_13 hx hb hts in_y_X3_spend_X3 hown hK hP hD hS (hts _ (List.mem_cons_of_mem _ (List.mem_append_left _ (List.mem_append_left _ (List.mem_of_getElem? (i := 2) rfl))))) dX3_spend_32 (fun H locs hP hD hS => ?_)
          refine lv_aload_n hx hb dX3_spend_35 rfl (lv_at hl 0 rfl) ?_
          refine lv_iconst (v := 1) hx hb dX3_spend_36 (by decide) ?_
          refine hp_18_12 hx hb hts in_y_X3_spend_X3 hown hK hP hD hS (hts _ (List.mem_cons_of_mem _ (List.mem_append_left _ (List.mem_append_left _ (List.mem_of_getElem? (i := 3) rfl))))) (Or.inr rfl) dX3_spend_37 (fun H locs hP hD hS => ?_)
          exact ih.2 L (uI (uI (uI σ 1905 ((((σ.1 1905)) + ((L.1 1))))) 1813 11) 1812 1) r h H locs ls hP hD hS (lv_sub hl [] rfl)
      · intro L σ r h H locs ls hP hD hS hl
        rw [y_X3_spend] at h
        obtain rfl := Option.some.inj h
        exact W.vret hx hb hr (fun t ht hW => ⟨⟨(), rfl, trivial, by rw [ht]; exact hP, va_K.moved hW.alike hK, hD⟩, hS.F ht⟩) hS.2.2 dX3_spend_40
  exact (blk k0).1 L0 σ0 r0 h0 s.heap [] ls hP hD hS hl
/-! X3_pop -/
def y_X3_pop : Nat → Nat → LV → CS → Option (Int32 × CS)
  | 0, _, _, _ => none
  | k + 1, 0, L, σ => if ¬ ((((uI σ 1902 ((((σ.1 1902)) - 1))).1 1902)) < 0 ∨ (sN (uI σ 1902 ((((σ.1 1902)) - 1))) 20) ≤ (((uI σ 1902 ((((σ.1 1902)) - 1))).1 1902)).toNatClampNeg) then (some (((uI σ 1902 ((((σ.1 1902)) - 1))).2.2.1 20 (((uI σ 1902 ((((σ.1 1902)) - 1))).1 1902)).toNatClampNeg), (uI σ 1902 ((((σ.1 1902)) - 1))))) else none
  | _ + 1, _ + 1, _, _ => none
def o_y_X3_pop : List Cond := [.fieldLink RX3 14 "SetHouse$Machine" "run" "LSetHouse$Run;", .fieldLink RX3 18 "SetHouse$Machine" "stack" "[I"]
theorem o_y_X3_pop_good : o_y_X3_pop.all goodWord = true := by decide +kernel
def p_y_X3_pop : List Cond := o_y_X3_pop ++ []
theorem p_y_X3_pop_good : p_y_X3_pop.all goodWord = true := nb_all2 o_y_X3_pop_good rfl
def w_y_X3_pop : List Cond := .code yX3_pop cX3_pop 1 (some .int) :: (p_y_X3_pop ++ fC)
theorem w_y_X3_pop_good : w_y_X3_pop.all goodWord = true := nb_allc (by decide +kernel) (nb_all2 p_y_X3_pop_good fC_good)
theorem in_y_X3_pop_X3 : ∀ w ∈ wsX30, w ∈ w_y_X3_pop := fun _ h => List.mem_cons_of_mem _ (List.mem_append_right _ (List.mem_append_right _ (List.mem_append_right _ (List.mem_append_right _ (List.mem_append_left _ h)))))
theorem in_y_X3_pop_X8 : ∀ w ∈ wsX80, w ∈ w_y_X3_pop := fun _ h => List.mem_cons_of_mem _ (List.mem_append_right _ (List.mem_append_right _ (List.mem_append_right _ (List.mem_append_right _ (List.mem_append_right _ (List.mem_append_right _ (List.mem_append_right _ (List.mem_append_right _ (List.mem_append_left _ h)))))))))
theorem hd_y_X3_pop : yX3_pop.cls = RX3 ∧ yX3_pop.cls ≠ "java/lang/invoke/MethodHandle" ∧ yX3_pop.cls ≠ "java/lang/invoke/VarHandle" ∧ (parseMethodDescriptor yX3_pop.desc).map (fun d => d.parameters.length) = some 0 := by decide +kernel
set_option maxHeartbeats 40000000 in
set_option maxRecDepth 100000 in
theorem c_y_X3_pop (l : Launch) (dC : Nat → ClassId) (dI : Nat → Nat → Nat) (cy : Nat → ClassId) (a z : Nat → Nat) (k0 : Nat) (L0 : LV) (σ0 : CS) (r0 : Int32 × CS) (h0 : y_X3_pop k0 0 L0 σ0 = some r0) (sz : Nat) : Met l yX3_pop w_y_X3_pop ({ frames := 0, cells := 0, slots := 0, locals := 0 }) (va_Pc [.ref (a 18)] (nIn (dC, dI) cy sz (vC cy a z σ0))) (va_Qi (fun (x : Int32) (_ : Unit) => x = r0.1) (fun _ t => nOut (dC, dI) cy (va_A (vC cy a z σ0) sz) (vC cy a z r0.2) t) (va_A (vC cy a z σ0) sz)) 0 0 (va_A (vC cy a z σ0) sz) := by
  refine Met.ofW (cc := cX3_pop) (maxL := 1) (ret := (some .int)) (by decide) rfl ?_
  intro p e s m args below meth c s₁ B hml hv
  obtain ⟨rfl, hsz, hP, hK, hD0, hG⟩ := hv
  have hx := B.exec
  have hb := B.bytes
  have hr := B.returns
  have hts := atoms_spec (ws := w_y_X3_pop) B.pre
  have hown : s.vm.findClass RX3 = some m.cls := findClass_of_methodNamed B.named
  have hlocks := B.notSynchronized
  subst hsz
  have hD := hD0.self (sz := s.heap.size)
  generalize hAe : va_A (vC cy a z σ0) s.heap.size = A at hD ⊢
  have hA : ∀ q : Nat, s.heap.size ≤ q → A q := fun q h => by rw [← hAe]; exact Or.inr h
  have hS : va_S A s.heap s.heap [] := va_S.rf
  have hl := lv_entry ([.ref (a 18)]) (n := 1) (Nat.le_of_ble_eq_true rfl)
  rw [lg_entry_eq]
  generalize (lg_sl ([.ref (a 18)]) ++ List.replicate (1 - (lg_sl ([.ref (a 18)])).length) Slot.unset).toArray = ls at hl ⊢
  have hl : lv_has ls 1 [(0, .ref (a 18))] := hl
  have blk : ∀ k : Nat, (bC p l e (headSpec w_y_X3_pop ({ frames := 0, cells := 0, slots := 0, locals := 0 })).room s m #[.ref (a 18)] below meth c dC dI cy a z A (kI dC dI cy a z A below #[.ref (a 18)] s) 1 (y_X3_pop k 0) (fun L => [(0, .ref (a 18))]) 0 (fun L => [])) := by
    intro k
    induction k with
    | zero => exact fun L σ r h => (by cases h)
    | succ k ih =>
      skip
      · intro L σ r h H locs ls hP hD hS hl
        rw [y_X3_pop] at h
        refine lv_aload_n hx hb dX3_pop_0 rfl (lv_at hl 0 rfl) ?_
        refine hg_18_5 hx hb hts in_y_X3_pop_X3 hown hK hP (hts _ (List.mem_cons_of_mem _ (List.mem_append_left _ (List.mem_append_left _ (List.mem_of_getElem? (i := 0) rfl))))) dX3_pop_1 ?_
        refine lv_dup hx hb dX3_pop_4 rfl ?_
        refine hg_19_2n hx hb hts in_y_X3_pop_X8 hown hK hP (va_Nw.use rfl (hG.1 _ (List.mem_of_getElem? (i := 10) rfl))) dX3_pop_5 ?_
        refine lv_iconst (v := 1) hx hb dX3_pop_8 (by decide) ?_
        refine lv_isub hx hb dX3_pop_9 ?_
        refine hp_19_2n hx hb hts in_y_X3_pop_X8 hown hK hP hD hS (va_Nw.use rfl (hG.1 _ (List.mem_of_getElem? (i := 10) rfl))) dX3_pop_10 (fun H locs hP hD hS => ?_)
        refine lv_aload_n hx hb dX3_pop_13 rfl (lv_at hl 0 rfl) ?_
        refine hg_18_7 hx hb hts in_y_X3_pop_X3 hown hK hP (hts _ (List.mem_cons_of_mem _ (List.mem_append_left _ (List.mem_append_left _ (List.mem_of_getElem? (i := 1) rfl))))) dX3_pop_14 ?_
        refine lv_aload_n hx hb dX3_pop_17 rfl (lv_at hl 0 rfl) ?_
        refine hg_18_5 hx hb hts in_y_X3_pop_X3 hown hK hP (hts _ (List.mem_cons_of_mem _ (List.mem_append_left _ (List.mem_append_left _ (List.mem_of_getElem? (i := 0) rfl))))) dX3_pop_18 ?_
        refine hg_19_2n hx hb hts in_y_X3_pop_X8 hown hK hP (va_Nw.use rfl (hG.1 _ (List.mem_of_getElem? (i := 10) rfl))) dX3_pop_21 ?_
        obtain ⟨q1, h⟩ := kb_ite1 h
        refine hl_20 hx hb hK hP q1 dX3_pop_24 ?_
        obtain rfl := Option.some.inj h
        exact W.iret (v := ((uI σ 1902 ((((σ.1 1902)) - 1))).2.2.1 20 (((uI σ 1902 ((((σ.1 1902)) - 1))).1 1902)).toNatClampNeg)) hx hb hr (fun t ht hW => ⟨⟨((uI σ 1902 ((((σ.1 1902)) - 1))).2.2.1 20 (((uI σ 1902 ((((σ.1 1902)) - 1))).1 1902)).toNatClampNeg), (), rfl, rfl, by rw [ht]; exact hP, va_K.moved hW.alike hK, hD⟩, hS.F ht⟩) hS.2.2 dX3_pop_25
  exact (blk k0) L0 σ0 r0 h0 s.heap [] ls hP hD hS hl
/-! X3_replace -/
def y_X3_replace : Nat → Nat → LV → CS → Option (Int32 × CS)
  | 0, _, _, _ => none
  | k + 1, 0, L, σ => oc (y_X11_isError k 0 (lI lZ 0 ((L.1 1))) σ) (fun r1 => if r1.1 = 0 then (y_X3_replace k 1 L r1.2) else (oc (y_X3_fail k 0 (lI lZ 1 ((((L.1 1)) &&& 15))) r1.2) (fun r3 => y_X3_replace k 2 L r3.2)))
  | k + 1, 1, L, σ => if ¬ (((((σ.1 1902)) - 1)) < 0 ∨ (sN σ 20) ≤ ((((σ.1 1902)) - 1)).toNatClampNeg) then (oc (y_X1_size k 0 (lI lZ 1 ((L.1 1))) (uA σ 20 ((((σ.1 1902)) - 1)).toNatClampNeg ((L.1 1)))) (fun r2 => oc (y_X3_spend k 0 (lI lZ 1 r2.1) r2.2) (fun r3 => y_X3_replace k 2 L r3.2))) else none
  | k + 1, 2, L, σ => some (0, σ)
  | _ + 1, _ + 3, _, _ => none
def o_y_X3_replace : List Cond := [.initialized RX11, .static yX11_isError, .methodLink RX3 313 yX3_fail, .instanceMethod yX3_fail, .selects RX3 yX3_fail yX3_fail, .initialized RX3, .fieldLink RX3 18 "SetHouse$Machine" "stack" "[I", .fieldLink RX3 14 "SetHouse$Machine" "run" "LSetHouse$Run;", .fieldLink RX3 39 "SetHouse$Machine" "heap" "LSetHouse$Heap;", .methodLink RX3 316 yX1_size, .instanceMethod yX1_size, .selects RX1 yX1_size yX1_size, .initialized RX1, .methodLink RX3 319 yX3_spend, .instanceMethod yX3_spend, .selects RX3 yX3_spend yX3_spend]
theorem o_y_X3_replace_good : o_y_X3_replace.all goodWord = true := by decide +kernel
def p_y_X3_replace : List Cond := o_y_X3_replace ++ ((.code yX11_isError cX11_isError 1 (some .boolean) :: p_y_X11_isError) ++ ((.code yX3_fail cX3_fail 2 none :: p_y_X3_fail) ++ ((.code yX1_size cX1_size 3 (some .int) :: p_y_X1_size) ++ ((.code yX3_spend cX3_spend 2 none :: p_y_X3_spend) ++ []))))
theorem p_y_X3_replace_good : p_y_X3_replace.all goodWord = true := nb_all2 o_y_X3_replace_good (nb_all2 (nb_allc (by decide +kernel) p_y_X11_isError_good) (nb_all2 (nb_allc (by decide +kernel) p_y_X3_fail_good) (nb_all2 (nb_allc (by decide +kernel) p_y_X1_size_good) (nb_all2 (nb_allc (by decide +kernel) p_y_X3_spend_good) rfl))))
def w_y_X3_replace : List Cond := .code yX3_replace cX3_replace 2 none :: (p_y_X3_replace ++ fC)
theorem w_y_X3_replace_good : w_y_X3_replace.all goodWord = true := nb_allc (by decide +kernel) (nb_all2 p_y_X3_replace_good fC_good)
theorem in_y_X3_replace_X3 : ∀ w ∈ wsX30, w ∈ w_y_X3_replace := fun _ h => List.mem_cons_of_mem _ (List.mem_append_right _ (List.mem_append_right _ (List.mem_append_right _ (List.mem_append_right _ (List.mem_append_left _ h)))))
theorem in_y_X3_replace_X8 : ∀ w ∈ wsX80, w ∈ w_y_X3_replace := fun _ h => List.mem_cons_of_mem _ (List.mem_append_right _ (List.mem_append_right _ (List.mem_append_right _ (List.mem_append_right _ (List.mem_append_right _ (List.mem_append_right _ (List.mem_append_right _ (List.mem_append_right _ (List.mem_append_left _ h)))))))))
theorem hd_y_X3_replace : yX3_replace.cls = RX3 ∧ yX3_replace.cls ≠ "java/lang/invoke/MethodHandle" ∧ yX3_replace.cls ≠ "java/lang/invoke/VarHandle" ∧ (parseMethodDescriptor yX3_replace.desc).map (fun d => d.parameters.length) = some 1 := by decide +kernel
theorem gg_y_X3_replace_X11_isError : GoodIn w_y_X3_replace w_y_X11_isError := goodIn_sub (fun w h => (List.mem_cons.mp h).elim (fun e => (List.mem_cons_of_mem _ (List.mem_append_left _ (List.mem_append_right _ (List.mem_append_left _ (List.mem_cons.mpr (Or.inl e))))))) (fun h => (List.mem_append.mp h).elim (fun h => (List.mem_cons_of_mem _ (List.mem_append_left _ (List.mem_append_right _ (List.mem_append_left _ (List.mem_cons_of_mem _ h)))))) (fun h => List.mem_cons_of_mem _ (List.mem_append_right _ h)))) w_y_X11_isError_good
theorem g_y_X3_replace_X11_isError_SN310 : GoodIn w_y_X3_replace w_y_X11_isError := gg_y_X3_replace_X11_isError
theorem gg_y_X3_replace_X1_size : GoodIn w_y_X3_replace w_y_X1_size := goodIn_sub (fun w h => (List.mem_cons.mp h).elim (fun e => (List.mem_cons_of_mem _ (List.mem_append_left _ (List.mem_append_right _ (List.mem_append_right _ (List.mem_append_right _ (List.mem_append_left _ (List.mem_cons.mpr (Or.inl e))))))))) (fun h => (List.mem_append.mp h).elim (fun h => (List.mem_cons_of_mem _ (List.mem_append_left _ (List.mem_append_right _ (List.mem_append_right _ (List.mem_append_right _ (List.mem_append_left _ (List.mem_cons_of_mem _ h)))))))) (fun h => List.mem_cons_of_mem _ (List.mem_append_right _ h)))) w_y_X1_size_good
theorem g_y_X3_replace_X1_size_V316 : GoodIn w_y_X3_replace (wsV RX3 316 RX1 yX1_size w_y_X1_size) := goodIn_app (nb_g4 (List.mem_cons_of_mem _ (List.mem_append_left _ (List.mem_append_left _ (List.mem_of_getElem? (i := 9) rfl)))) (List.mem_cons_of_mem _ (List.mem_append_left _ (List.mem_append_left _ (List.mem_of_getElem? (i := 10) rfl)))) (List.mem_cons_of_mem _ (List.mem_append_left _ (List.mem_append_left _ (List.mem_of_getElem? (i := 11) rfl)))) (List.mem_cons_of_mem _ (List.mem_append_left _ (List.mem_append_left _ (List.mem_of_getElem? (i := 12) rfl)))) (by decide +kernel)) gg_y_X3_replace_X1_size
theorem gg_y_X3_replace_X3_fail : GoodIn w_y_X3_replace w_y_X3_fail := goodIn_sub (fun w h => (List.mem_cons.mp h).elim (fun e => (List.mem_cons_of_mem _ (List.mem_append_left _ (List.mem_append_right _ (List.mem_append_right _ (List.mem_append_left _ (List.mem_cons.mpr (Or.inl e)))))))) (fun h => (List.mem_append.mp h).elim (fun h => (List.mem_cons_of_mem _ (List.mem_append_left _ (List.mem_append_right _ (List.mem_append_right _ (List.mem_append_left _ (List.mem_cons_of_mem _ h))))))) (fun h => List.mem_cons_of_mem _ (List.mem_append_right _ h)))) w_y_X3_fail_good
theorem g_y_X3_replace_X3_fail_V313 : GoodIn w_y_X3_replace (wsV RX3 313 RX3 yX3_fail w_y_X3_fail) := goodIn_app (nb_g4 (List.mem_cons_of_mem _ (List.mem_append_left _ (List.mem_append_left _ (List.mem_of_getElem? (i := 2) rfl)))) (List.mem_cons_of_mem _ (List.mem_append_left _ (List.mem_append_left _ (List.mem_of_getElem? (i := 3) rfl)))) (List.mem_cons_of_mem _ (List.mem_append_left _ (List.mem_append_left _ (List.mem_of_getElem? (i := 4) rfl)))) (List.mem_cons_of_mem _ (List.mem_append_left _ (List.mem_append_left _ (List.mem_of_getElem? (i := 5) rfl)))) (by decide +kernel)) gg_y_X3_replace_X3_fail
theorem gg_y_X3_replace_X3_spend : GoodIn w_y_X3_replace w_y_X3_spend := goodIn_sub (fun w h => (List.mem_cons.mp h).elim (fun e => (List.mem_cons_of_mem _ (List.mem_append_left _ (List.mem_append_right _ (List.mem_append_right _ (List.mem_append_right _ (List.mem_append_right _ (List.mem_append_left _ (List.mem_cons.mpr (Or.inl e)))))))))) (fun h => (List.mem_append.mp h).elim (fun h => (List.mem_cons_of_mem _ (List.mem_append_left _ (List.mem_append_right _ (List.mem_append_right _ (List.mem_append_right _ (List.mem_append_right _ (List.mem_append_left _ (List.mem_cons_of_mem _ h))))))))) (fun h => List.mem_cons_of_mem _ (List.mem_append_right _ h)))) w_y_X3_spend_good
theorem g_y_X3_replace_X3_spend_V319 : GoodIn w_y_X3_replace (wsV RX3 319 RX3 yX3_spend w_y_X3_spend) := goodIn_app (nb_g4 (List.mem_cons_of_mem _ (List.mem_append_left _ (List.mem_append_left _ (List.mem_of_getElem? (i := 13) rfl)))) (List.mem_cons_of_mem _ (List.mem_append_left _ (List.mem_append_left _ (List.mem_of_getElem? (i := 14) rfl)))) (List.mem_cons_of_mem _ (List.mem_append_left _ (List.mem_append_left _ (List.mem_of_getElem? (i := 15) rfl)))) (List.mem_cons_of_mem _ (List.mem_append_left _ (List.mem_append_left _ (List.mem_of_getElem? (i := 5) rfl)))) (by decide +kernel)) gg_y_X3_replace_X3_spend
set_option maxHeartbeats 40000000 in
set_option maxRecDepth 100000 in
theorem c_y_X3_replace (l : Launch) (dC : Nat → ClassId) (dI : Nat → Nat → Nat) (cy : Nat → ClassId) (a z : Nat → Nat) (k0 : Nat) (L0 : LV) (σ0 : CS) (r0 : Int32 × CS) (h0 : y_X3_replace k0 0 L0 σ0 = some r0) (sz : Nat) : Met l yX3_replace w_y_X3_replace ({ frames := 1, cells := 0, slots := 0, locals := 22 }) (va_Pc [.ref (a 18), .int (L0.1 1)] (nIn (dC, dI) cy sz (vC cy a z σ0))) (va_Qv (fun _ : Unit => True) (fun _ t => nOut (dC, dI) cy (va_A (vC cy a z σ0) sz) (vC cy a z r0.2) t) (va_A (vC cy a z σ0) sz)) 0 0 (va_A (vC cy a z σ0) sz) := by
  refine Met.ofW (cc := cX3_replace) (maxL := 2) (ret := none) (by decide) rfl ?_
  intro p e s m args below meth c s₁ B hml hv
  obtain ⟨rfl, hsz, hP, hK, hD0, hG⟩ := hv
  have hx := B.exec
  have hb := B.bytes
  have hr := B.returns
  have hts := atoms_spec (ws := w_y_X3_replace) B.pre
  have hown : s.vm.findClass RX3 = some m.cls := findClass_of_methodNamed B.named
  have hlocks := B.notSynchronized
  subst hsz
  have hD := hD0.self (sz := s.heap.size)
  generalize hAe : va_A (vC cy a z σ0) s.heap.size = A at hD ⊢
  have hA : ∀ q : Nat, s.heap.size ≤ q → A q := fun q h => by rw [← hAe]; exact Or.inr h
  have hS : va_S A s.heap s.heap [] := va_S.rf
  have hl := lv_entry ([.ref (a 18), .int (L0.1 1)]) (n := 2) (Nat.le_of_ble_eq_true rfl)
  rw [lg_entry_eq]
  generalize (lg_sl ([.ref (a 18), .int (L0.1 1)]) ++ List.replicate (2 - (lg_sl ([.ref (a 18), .int (L0.1 1)])).length) Slot.unset).toArray = ls at hl ⊢
  have hl : lv_has ls 2 [(0, .ref (a 18)), (1, .int (L0.1 1))] := hl
  have blk : ∀ k : Nat, (bC p l e (headSpec w_y_X3_replace ({ frames := 1, cells := 0, slots := 0, locals := 22 })).room s m #[.ref (a 18), .int (L0.1 1)] below meth c dC dI cy a z A (kV dC dI cy a z A below #[.ref (a 18), .int (L0.1 1)] s) 2 (y_X3_replace k 0) (fun L => [(0, .ref (a 18)), (1, .int (L.1 1))]) 0 (fun L => [])) ∧ (bC p l e (headSpec w_y_X3_replace ({ frames := 1, cells := 0, slots := 0, locals := 22 })).room s m #[.ref (a 18), .int (L0.1 1)] below meth c dC dI cy a z A (kV dC dI cy a z A below #[.ref (a 18), .int (L0.1 1)] s) 2 (y_X3_replace k 1) (fun L => [(0, .ref (a 18)), (1, .int (L.1 1))]) 18 (fun L => [])) ∧ (bC p l e (headSpec w_y_X3_replace ({ frames := 1, cells := 0, slots := 0, locals := 22 })).room s m #[.ref (a 18), .int (L0.1 1)] below meth c dC dI cy a z A (kV dC dI cy a z A below #[.ref (a 18), .int (L0.1 1)] s) 2 (y_X3_replace k 2) (fun L => []) 45 (fun L => [])) := by
    intro k
    induction k with
    | zero => exact ⟨fun L σ r h => (by cases h), fun L σ r h => (by cases h), fun L σ r h => (by cases h)⟩
    | succ k ih =>
      refine ⟨?_, ?_, ?_⟩
      · intro L σ r h H locs ls hP hD hS hl
        rw [y_X3_replace] at h
        refine lv_iload_n hx hb dX3_replace_0 rfl (lv_at hl 1 rfl) ?_
        obtain ⟨r1, hc1, h⟩ := oc_ex h
        refine kc_i (va_runSN (As := [.int (L.1 1)]) (rest := []) ⟨hx, hb, hml, hown, hts⟩ (c_y_X11_isError l dC dI cy a z k (lI lZ 0 ((L.1 1))) σ r1 hc1 H.size) ⟨va_cnB 1 hts g_y_X3_replace_X11_isError_SN310 rfl rfl rfl (hG.1 _ (List.mem_of_getElem? (i := 102) rfl)) (hts _ (List.mem_cons_of_mem _ (List.mem_append_left _ (List.mem_append_left _ (List.mem_of_getElem? (i := 0) rfl))))) hd_y_X11_isError ⟨Nat.le_of_ble_eq_true rfl, Nat.le_of_ble_eq_true rfl⟩, (hts _ (List.mem_cons_of_mem _ (List.mem_append_left _ (List.mem_append_left _ (List.mem_of_getElem? (i := 1) rfl))))), trivial⟩ ⟨nb_blind, (kb_pre hK hG hP hD)⟩ rfl rfl hl.1 rfl (lv_room (Nat.le_of_ble_eq_true rfl)) dX3_replace_1 ⟨Nat.le_refl _, Nat.le_refl _⟩) hA hP hD hS (fun H locs hP hD hS => ?_)
        refine lv_if_eq (tgt := 18) hx hb dX3_replace_4 (by decide) (fun c2 => ?_) (fun c2 => ?_)
        · rw [if_pos c2] at h
          exact ih.2.1 L r1.2 r h H locs ls hP hD hS (lv_sub hl [0, 1] rfl)
        · rw [if_neg c2] at h
          refine lv_aload_n hx hb dX3_replace_7 rfl (lv_at hl 0 rfl) ?_
          refine lv_iload_n hx hb dX3_replace_8 rfl (lv_at hl 1 rfl) ?_
          refine lv_bipush (v := 15) hx hb dX3_replace_9 (by decide) ?_
          refine lv_iand hx hb dX3_replace_11 ?_
          obtain ⟨r3, hc3, h⟩ := oc_ex h
          refine kc_v (va_runV (As := [.int (((L.1 1)) &&& 15)]) (rest := []) ⟨hx, hb, hml, hown, hts⟩ (c_y_X3_fail l dC dI cy a z k (lI lZ 1 ((((L.1 1)) &&& 15))) r1.2 r3 hc3 H.size) (cwV 1 hts g_y_X3_replace_X3_fail_V313 rfl rfl rfl hd_y_X3_fail ⟨Nat.le_of_ble_eq_true rfl, Nat.le_of_ble_eq_true rfl⟩) ⟨nb_blind, va_recv hK hP (ci := 3) (q0 := 18) rfl rfl, (kb_pre hK hG hP hD)⟩ rfl rfl hl.1 rfl (lv_room (Nat.le_of_ble_eq_true rfl)) dX3_replace_12 ⟨Nat.le_refl _, Nat.le_refl _⟩) hA hP hD hS (fun H locs hP hD hS => ?_)
          refine lv_goto (tgt := 45) hx hb dX3_replace_15 (by decide) ?_
          exact ih.2.2 L r3.2 r h H locs ls hP hD hS (lv_sub hl [] rfl)
      · intro L σ r h H locs ls hP hD hS hl
        rw [y_X3_replace] at h
        refine lv_aload_n hx hb dX3_replace_18 rfl (lv_at hl 0 rfl) ?_
        refine hg_18_7 hx hb hts in_y_X3_replace_X3 hown hK hP (hts _ (List.mem_cons_of_mem _ (List.mem_append_left _ (List.mem_append_left _ (List.mem_of_getElem? (i := 6) rfl))))) dX3_replace_19 ?_
        refine lv_aload_n hx hb dX3_replace_22 rfl (lv_at hl 0 rfl) ?_
        refine hg_18_5 hx hb hts in_y_X3_replace_X3 hown hK hP (hts _ (List.mem_cons_of_mem _ (List.mem_append_left _ (List.mem_append_left _ (List.mem_of_getElem? (i := 7) rfl))))) dX3_replace_23 ?_
        refine hg_19_2n hx hb hts in_y_X3_replace_X8 hown hK hP (va_Nw.use rfl (hG.1 _ (List.mem_of_getElem? (i := 10) rfl))) dX3_replace_26 ?_
        refine lv_iconst (v := 1) hx hb dX3_replace_29 (by decide) ?_
        refine lv_isub hx hb dX3_replace_30 ?_
        refine lv_iload_n hx hb dX3_replace_31 rfl (lv_at hl 1 rfl) ?_
        obtain ⟨q1, h⟩ := kb_ite1 h
        refine hs_20 hx hb hK hP hD hS q1 dX3_replace_32 (fun H locs hP hD hS => ?_)
        refine lv_aload_n hx hb dX3_replace_33 rfl (lv_at hl 0 rfl) ?_
        refine lv_aload_n hx hb dX3_replace_34 rfl (lv_at hl 0 rfl) ?_
        refine hg_18_0 hx hb hts in_y_X3_replace_X3 hown hK hP (hts _ (List.mem_cons_of_mem _ (List.mem_append_left _ (List.mem_append_left _ (List.mem_of_getElem? (i := 8) rfl))))) dX3_replace_35 ?_
        refine lv_iload_n hx hb dX3_replace_38 rfl (lv_at hl 1 rfl) ?_
        obtain ⟨r2, hc2, h⟩ := oc_ex h
        refine kc_i (va_runV (As := [.int (L.1 1)]) (rest := [.ref (a 18)]) ⟨hx, hb, hml, hown, hts⟩ (c_y_X1_size l dC dI cy a z k (lI lZ 1 ((L.1 1))) (uA σ 20 ((((σ.1 1902)) - 1)).toNatClampNeg ((L.1 1))) r2 hc2 H.size) (cwV 1 hts g_y_X3_replace_X1_size_V316 rfl rfl rfl hd_y_X1_size ⟨Nat.le_of_ble_eq_true rfl, Nat.le_of_ble_eq_true rfl⟩) ⟨nb_blind, va_recv hK hP (ci := 1) (q0 := 0) rfl rfl, (kb_pre hK hG hP hD)⟩ rfl rfl hl.1 rfl (lv_room (Nat.le_of_ble_eq_true rfl)) dX3_replace_39 ⟨Nat.le_refl _, Nat.le_refl _⟩) hA hP hD hS (fun H locs hP hD hS => ?_)
        obtain ⟨r3, hc3, h⟩ := oc_ex h
        refine kc_v (va_runV (As := [.int r2.1]) (rest := []) ⟨hx, hb, hml, hown, hts⟩ (c_y_X3_spend l dC dI cy a z k (lI lZ 1 r2.1) r2.2 r3 hc3 H.size) (cwV 1 hts g_y_X3_replace_X3_spend_V319 rfl rfl rfl hd_y_X3_spend ⟨Nat.le_of_ble_eq_true rfl, Nat.le_of_ble_eq_true rfl⟩) ⟨nb_blind, va_recv hK hP (ci := 3) (q0 := 18) rfl rfl, (kb_pre hK hG hP hD)⟩ rfl rfl hl.1 rfl (lv_room (Nat.le_of_ble_eq_true rfl)) dX3_replace_42 ⟨Nat.le_refl _, Nat.le_refl _⟩) hA hP hD hS (fun H locs hP hD hS => ?_)
        exact ih.2.2 L r3.2 r h H locs ls hP hD hS (lv_sub hl [] rfl)
      · intro L σ r h H locs ls hP hD hS hl
        rw [y_X3_replace] at h
        obtain rfl := Option.some.inj h
        exact W.vret hx hb hr (fun t ht hW => ⟨⟨(), rfl, trivial, by rw [ht]; exact hP, va_K.moved hW.alike hK, hD⟩, hS.F ht⟩) hS.2.2 dX3_replace_45
  exact (blk k0).1 L0 σ0 r0 h0 s.heap [] ls hP hD hS hl
/-! X3_wantTruth -/
def y_X3_wantTruth : Nat → Nat → LV → CS → Option (Int32 × CS)
  | 0, _, _, _ => none
  | k + 1, 0, L, σ => if ((L.1 1)) = ((-1879048191)) then (y_X3_wantTruth k 1 L σ) else (if ((L.1 1)) = ((-1879048192)) then (y_X3_wantTruth k 1 L σ) else (oc (y_X3_fail k 0 (lI lZ 1 9) σ) (fun r3 => some (0, r3.2))))
  | k + 1, 1, L, σ => some (1, σ)
  | _ + 1, _ + 2, _, _ => none
def o_y_X3_wantTruth : List Cond := [.constant RX3 325 (-1879048191), .constant RX3 326 (-1879048192), .methodLink RX3 313 yX3_fail, .instanceMethod yX3_fail, .selects RX3 yX3_fail yX3_fail, .initialized RX3]
theorem o_y_X3_wantTruth_good : o_y_X3_wantTruth.all goodWord = true := by decide +kernel
def p_y_X3_wantTruth : List Cond := o_y_X3_wantTruth ++ ((.code yX3_fail cX3_fail 2 none :: p_y_X3_fail) ++ [])
theorem p_y_X3_wantTruth_good : p_y_X3_wantTruth.all goodWord = true := nb_all2 o_y_X3_wantTruth_good (nb_all2 (nb_allc (by decide +kernel) p_y_X3_fail_good) rfl)
def w_y_X3_wantTruth : List Cond := .code yX3_wantTruth cX3_wantTruth 2 (some .boolean) :: (p_y_X3_wantTruth ++ fC)
theorem w_y_X3_wantTruth_good : w_y_X3_wantTruth.all goodWord = true := nb_allc (by decide +kernel) (nb_all2 p_y_X3_wantTruth_good fC_good)
theorem hd_y_X3_wantTruth : yX3_wantTruth.cls = RX3 ∧ yX3_wantTruth.cls ≠ "java/lang/invoke/MethodHandle" ∧ yX3_wantTruth.cls ≠ "java/lang/invoke/VarHandle" ∧ (parseMethodDescriptor yX3_wantTruth.desc).map (fun d => d.parameters.length) = some 1 := by decide +kernel
theorem gg_y_X3_wantTruth_X3_fail : GoodIn w_y_X3_wantTruth w_y_X3_fail := goodIn_sub (fun w h => (List.mem_cons.mp h).elim (fun e => (List.mem_cons_of_mem _ (List.mem_append_left _ (List.mem_append_right _ (List.mem_append_left _ (List.mem_cons.mpr (Or.inl e))))))) (fun h => (List.mem_append.mp h).elim (fun h => (List.mem_cons_of_mem _ (List.mem_append_left _ (List.mem_append_right _ (List.mem_append_left _ (List.mem_cons_of_mem _ h)))))) (fun h => List.mem_cons_of_mem _ (List.mem_append_right _ h)))) w_y_X3_fail_good
theorem g_y_X3_wantTruth_X3_fail_V313 : GoodIn w_y_X3_wantTruth (wsV RX3 313 RX3 yX3_fail w_y_X3_fail) := goodIn_app (nb_g4 (List.mem_cons_of_mem _ (List.mem_append_left _ (List.mem_append_left _ (List.mem_of_getElem? (i := 2) rfl)))) (List.mem_cons_of_mem _ (List.mem_append_left _ (List.mem_append_left _ (List.mem_of_getElem? (i := 3) rfl)))) (List.mem_cons_of_mem _ (List.mem_append_left _ (List.mem_append_left _ (List.mem_of_getElem? (i := 4) rfl)))) (List.mem_cons_of_mem _ (List.mem_append_left _ (List.mem_append_left _ (List.mem_of_getElem? (i := 5) rfl)))) (by decide +kernel)) gg_y_X3_wantTruth_X3_fail
set_option maxHeartbeats 40000000 in
set_option maxRecDepth 100000 in
theorem c_y_X3_wantTruth (l : Launch) (dC : Nat → ClassId) (dI : Nat → Nat → Nat) (cy : Nat → ClassId) (a z : Nat → Nat) (k0 : Nat) (L0 : LV) (σ0 : CS) (r0 : Int32 × CS) (h0 : y_X3_wantTruth k0 0 L0 σ0 = some r0) (sz : Nat) : Met l yX3_wantTruth w_y_X3_wantTruth ({ frames := 1, cells := 0, slots := 0, locals := 21 }) (va_Pc [.ref (a 18), .int (L0.1 1)] (nIn (dC, dI) cy sz (vC cy a z σ0))) (va_Qi (fun (x : Int32) (_ : Unit) => x = r0.1) (fun _ t => nOut (dC, dI) cy (va_A (vC cy a z σ0) sz) (vC cy a z r0.2) t) (va_A (vC cy a z σ0) sz)) 0 0 (va_A (vC cy a z σ0) sz) := by
  refine Met.ofW (cc := cX3_wantTruth) (maxL := 2) (ret := (some .boolean)) (by decide) rfl ?_
  intro p e s m args below meth c s₁ B hml hv
  obtain ⟨rfl, hsz, hP, hK, hD0, hG⟩ := hv
  have hx := B.exec
  have hb := B.bytes
  have hr := B.returns
  have hts := atoms_spec (ws := w_y_X3_wantTruth) B.pre
  have hown : s.vm.findClass RX3 = some m.cls := findClass_of_methodNamed B.named
  have hlocks := B.notSynchronized
  subst hsz
  have hD := hD0.self (sz := s.heap.size)
  generalize hAe : va_A (vC cy a z σ0) s.heap.size = A at hD ⊢
  have hA : ∀ q : Nat, s.heap.size ≤ q → A q := fun q h => by rw [← hAe]; exact Or.inr h
  have hS : va_S A s.heap s.heap [] := va_S.rf
  have hl := lv_entry ([.ref (a 18), .int (L0.1 1)]) (n := 2) (Nat.le_of_ble_eq_true rfl)
  rw [lg_entry_eq]
  generalize (lg_sl ([.ref (a 18), .int (L0.1 1)]) ++ List.replicate (2 - (lg_sl ([.ref (a 18), .int (L0.1 1)])).length) Slot.unset).toArray = ls at hl ⊢
  have hl : lv_has ls 2 [(0, .ref (a 18)), (1, .int (L0.1 1))] := hl
  have blk : ∀ k : Nat, (bC p l e (headSpec w_y_X3_wantTruth ({ frames := 1, cells := 0, slots := 0, locals := 21 })).room s m #[.ref (a 18), .int (L0.1 1)] below meth c dC dI cy a z A (kI dC dI cy a z A below #[.ref (a 18), .int (L0.1 1)] s) 2 (y_X3_wantTruth k 0) (fun L => [(0, .ref (a 18)), (1, .int (L.1 1))]) 0 (fun L => [])) ∧ (bC p l e (headSpec w_y_X3_wantTruth ({ frames := 1, cells := 0, slots := 0, locals := 21 })).room s m #[.ref (a 18), .int (L0.1 1)] below meth c dC dI cy a z A (kI dC dI cy a z A below #[.ref (a 18), .int (L0.1 1)] s) 2 (y_X3_wantTruth k 1) (fun L => []) 22 (fun L => [])) := by
    intro k
    induction k with
    | zero => exact ⟨fun L σ r h => (by cases h), fun L σ r h => (by cases h)⟩
    | succ k ih =>
      refine ⟨?_, ?_⟩
      · intro L σ r h H locs ls hP hD hS hl
        rw [y_X3_wantTruth] at h
        refine lv_iload_n hx hb dX3_wantTruth_0 rfl (lv_at hl 1 rfl) ?_
        refine lv_ldcw (v := (-1879048191)) hx hb hown (hts _ (List.mem_cons_of_mem _ (List.mem_append_left _ (List.mem_append_left _ (List.mem_of_getElem? (i := 0) rfl))))) dX3_wantTruth_1 ?_
        refine lv_icmp_eq (tgt := 22) hx hb dX3_wantTruth_4 (by decide) (fun c1 => ?_) (fun c1 => ?_)
        · rw [if_pos c1] at h
          exact ih.2 L σ r h H locs ls hP hD hS (lv_sub hl [] rfl)
        · rw [if_neg c1] at h
          refine lv_iload_n hx hb dX3_wantTruth_7 rfl (lv_at hl 1 rfl) ?_
          refine lv_ldcw (v := (-1879048192)) hx hb hown (hts _ (List.mem_cons_of_mem _ (List.mem_append_left _ (List.mem_append_left _ (List.mem_of_getElem? (i := 1) rfl))))) dX3_wantTruth_8 ?_
          refine lv_icmp_eq (tgt := 22) hx hb dX3_wantTruth_11 (by decide) (fun c2 => ?_) (fun c2 => ?_)
          · rw [if_pos c2] at h
            exact ih.2 L σ r h H locs ls hP hD hS (lv_sub hl [] rfl)
          · rw [if_neg c2] at h
            refine lv_aload_n hx hb dX3_wantTruth_14 rfl (lv_at hl 0 rfl) ?_
            refine lv_bipush (v := 9) hx hb dX3_wantTruth_15 (by decide) ?_
            obtain ⟨r3, hc3, h⟩ := oc_ex h
            refine kc_v (va_runV (As := [.int 9]) (rest := []) ⟨hx, hb, hml, hown, hts⟩ (c_y_X3_fail l dC dI cy a z k (lI lZ 1 9) σ r3 hc3 H.size) (cwV 1 hts g_y_X3_wantTruth_X3_fail_V313 rfl rfl rfl hd_y_X3_fail ⟨Nat.le_of_ble_eq_true rfl, Nat.le_of_ble_eq_true rfl⟩) ⟨nb_blind, va_recv hK hP (ci := 3) (q0 := 18) rfl rfl, (kb_pre hK hG hP hD)⟩ rfl rfl hl.1 rfl (lv_room (Nat.le_of_ble_eq_true rfl)) dX3_wantTruth_17 ⟨Nat.le_refl _, Nat.le_refl _⟩) hA hP hD hS (fun H locs hP hD hS => ?_)
            refine lv_iconst (v := 0) hx hb dX3_wantTruth_20 (by decide) ?_
            obtain rfl := Option.some.inj h
            exact W.zret (v := 0) hx hb hr rfl (fun t ht hW => ⟨⟨0, (), rfl, rfl, by rw [ht]; exact hP, va_K.moved hW.alike hK, hD⟩, hS.F ht⟩) hS.2.2 dX3_wantTruth_21
      · intro L σ r h H locs ls hP hD hS hl
        rw [y_X3_wantTruth] at h
        refine lv_iconst (v := 1) hx hb dX3_wantTruth_22 (by decide) ?_
        obtain rfl := Option.some.inj h
        exact W.zret (v := 1) hx hb hr rfl (fun t ht hW => ⟨⟨1, (), rfl, rfl, by rw [ht]; exact hP, va_K.moved hW.alike hK, hD⟩, hS.F ht⟩) hS.2.2 dX3_wantTruth_23
  exact (blk k0).1 L0 σ0 r0 h0 s.heap [] ls hP hD hS hl
/-! X3_shortcut -/
def y_X3_shortcut : Nat → Nat → LV → CS → Option (Int32 × CS)
  | 0, _, _, _ => none
  | k + 1, 0, L, σ => if ¬ (((((σ.1 1902)) - 1)) < 0 ∨ (sN σ 20) ≤ ((((σ.1 1902)) - 1)).toNatClampNeg) then (oc (y_X3_wantTruth k 0 (lI lZ 1 ((σ.2.2.1 20 ((((σ.1 1902)) - 1)).toNatClampNeg))) σ) (fun r2 => if r2.1 = 0 then (some (0, r2.2)) else (y_X3_shortcut k 1 (lI L 3 ((σ.2.2.1 20 ((((σ.1 1902)) - 1)).toNatClampNeg))) r2.2))) else none
  | k + 1, 1, L, σ => if ((L.1 3)) = ((L.1 1)) then (oc (y_X3_spend k 0 (lI lZ 1 1) (uI σ 1900 ((L.1 2)))) (fun r2 => y_X3_shortcut k 3 L r2.2)) else (y_X3_shortcut k 2 L σ)
  | k + 1, 2, L, σ => y_X3_shortcut k 3 L (uI σ 1902 ((((σ.1 1902)) - 1)))
  | k + 1, 3, L, σ => some (0, σ)
  | _ + 1, _ + 4, _, _ => none
def o_y_X3_shortcut : List Cond := [.fieldLink RX3 18 "SetHouse$Machine" "stack" "[I", .fieldLink RX3 14 "SetHouse$Machine" "run" "LSetHouse$Run;", .methodLink RX3 342 yX3_wantTruth, .instanceMethod yX3_wantTruth, .selects RX3 yX3_wantTruth yX3_wantTruth, .initialized RX3, .methodLink RX3 319 yX3_spend, .instanceMethod yX3_spend, .selects RX3 yX3_spend yX3_spend]
theorem o_y_X3_shortcut_good : o_y_X3_shortcut.all goodWord = true := by decide +kernel
def p_y_X3_shortcut : List Cond := o_y_X3_shortcut ++ ((.code yX3_wantTruth cX3_wantTruth 2 (some .boolean) :: p_y_X3_wantTruth) ++ ((.code yX3_spend cX3_spend 2 none :: p_y_X3_spend) ++ []))
theorem p_y_X3_shortcut_good : p_y_X3_shortcut.all goodWord = true := nb_all2 o_y_X3_shortcut_good (nb_all2 (nb_allc (by decide +kernel) p_y_X3_wantTruth_good) (nb_all2 (nb_allc (by decide +kernel) p_y_X3_spend_good) rfl))
def w_y_X3_shortcut : List Cond := .code yX3_shortcut cX3_shortcut 4 none :: (p_y_X3_shortcut ++ fC)
theorem w_y_X3_shortcut_good : w_y_X3_shortcut.all goodWord = true := nb_allc (by decide +kernel) (nb_all2 p_y_X3_shortcut_good fC_good)
theorem in_y_X3_shortcut_X3 : ∀ w ∈ wsX30, w ∈ w_y_X3_shortcut := fun _ h => List.mem_cons_of_mem _ (List.mem_append_right _ (List.mem_append_right _ (List.mem_append_right _ (List.mem_append_right _ (List.mem_append_left _ h)))))
theorem in_y_X3_shortcut_X8 : ∀ w ∈ wsX80, w ∈ w_y_X3_shortcut := fun _ h => List.mem_cons_of_mem _ (List.mem_append_right _ (List.mem_append_right _ (List.mem_append_right _ (List.mem_append_right _ (List.mem_append_right _ (List.mem_append_right _ (List.mem_append_right _ (List.mem_append_right _ (List.mem_append_left _ h)))))))))
theorem hd_y_X3_shortcut : yX3_shortcut.cls = RX3 ∧ yX3_shortcut.cls ≠ "java/lang/invoke/MethodHandle" ∧ yX3_shortcut.cls ≠ "java/lang/invoke/VarHandle" ∧ (parseMethodDescriptor yX3_shortcut.desc).map (fun d => d.parameters.length) = some 2 := by decide +kernel
theorem gg_y_X3_shortcut_X3_spend : GoodIn w_y_X3_shortcut w_y_X3_spend := goodIn_sub (fun w h => (List.mem_cons.mp h).elim (fun e => (List.mem_cons_of_mem _ (List.mem_append_left _ (List.mem_append_right _ (List.mem_append_right _ (List.mem_append_left _ (List.mem_cons.mpr (Or.inl e)))))))) (fun h => (List.mem_append.mp h).elim (fun h => (List.mem_cons_of_mem _ (List.mem_append_left _ (List.mem_append_right _ (List.mem_append_right _ (List.mem_append_left _ (List.mem_cons_of_mem _ h))))))) (fun h => List.mem_cons_of_mem _ (List.mem_append_right _ h)))) w_y_X3_spend_good
theorem g_y_X3_shortcut_X3_spend_V319 : GoodIn w_y_X3_shortcut (wsV RX3 319 RX3 yX3_spend w_y_X3_spend) := goodIn_app (nb_g4 (List.mem_cons_of_mem _ (List.mem_append_left _ (List.mem_append_left _ (List.mem_of_getElem? (i := 6) rfl)))) (List.mem_cons_of_mem _ (List.mem_append_left _ (List.mem_append_left _ (List.mem_of_getElem? (i := 7) rfl)))) (List.mem_cons_of_mem _ (List.mem_append_left _ (List.mem_append_left _ (List.mem_of_getElem? (i := 8) rfl)))) (List.mem_cons_of_mem _ (List.mem_append_left _ (List.mem_append_left _ (List.mem_of_getElem? (i := 5) rfl)))) (by decide +kernel)) gg_y_X3_shortcut_X3_spend
theorem gg_y_X3_shortcut_X3_wantTruth : GoodIn w_y_X3_shortcut w_y_X3_wantTruth := goodIn_sub (fun w h => (List.mem_cons.mp h).elim (fun e => (List.mem_cons_of_mem _ (List.mem_append_left _ (List.mem_append_right _ (List.mem_append_left _ (List.mem_cons.mpr (Or.inl e))))))) (fun h => (List.mem_append.mp h).elim (fun h => (List.mem_cons_of_mem _ (List.mem_append_left _ (List.mem_append_right _ (List.mem_append_left _ (List.mem_cons_of_mem _ h)))))) (fun h => List.mem_cons_of_mem _ (List.mem_append_right _ h)))) w_y_X3_wantTruth_good
theorem g_y_X3_shortcut_X3_wantTruth_V342 : GoodIn w_y_X3_shortcut (wsV RX3 342 RX3 yX3_wantTruth w_y_X3_wantTruth) := goodIn_app (nb_g4 (List.mem_cons_of_mem _ (List.mem_append_left _ (List.mem_append_left _ (List.mem_of_getElem? (i := 2) rfl)))) (List.mem_cons_of_mem _ (List.mem_append_left _ (List.mem_append_left _ (List.mem_of_getElem? (i := 3) rfl)))) (List.mem_cons_of_mem _ (List.mem_append_left _ (List.mem_append_left _ (List.mem_of_getElem? (i := 4) rfl)))) (List.mem_cons_of_mem _ (List.mem_append_left _ (List.mem_append_left _ (List.mem_of_getElem? (i := 5) rfl)))) (by decide +kernel)) gg_y_X3_shortcut_X3_wantTruth
set_option maxHeartbeats 40000000 in
set_option maxRecDepth 100000 in
theorem c_y_X3_shortcut (l : Launch) (dC : Nat → ClassId) (dI : Nat → Nat → Nat) (cy : Nat → ClassId) (a z : Nat → Nat) (k0 : Nat) (L0 : LV) (σ0 : CS) (r0 : Int32 × CS) (h0 : y_X3_shortcut k0 0 L0 σ0 = some r0) (sz : Nat) : Met l yX3_shortcut w_y_X3_shortcut ({ frames := 2, cells := 0, slots := 0, locals := 42 }) (va_Pc [.ref (a 18), .int (L0.1 1), .int (L0.1 2)] (nIn (dC, dI) cy sz (vC cy a z σ0))) (va_Qv (fun _ : Unit => True) (fun _ t => nOut (dC, dI) cy (va_A (vC cy a z σ0) sz) (vC cy a z r0.2) t) (va_A (vC cy a z σ0) sz)) 0 0 (va_A (vC cy a z σ0) sz) := by
  refine Met.ofW (cc := cX3_shortcut) (maxL := 4) (ret := none) (by decide) rfl ?_
  intro p e s m args below meth c s₁ B hml hv
  obtain ⟨rfl, hsz, hP, hK, hD0, hG⟩ := hv
  have hx := B.exec
  have hb := B.bytes
  have hr := B.returns
  have hts := atoms_spec (ws := w_y_X3_shortcut) B.pre
  have hown : s.vm.findClass RX3 = some m.cls := findClass_of_methodNamed B.named
  have hlocks := B.notSynchronized
  subst hsz
  have hD := hD0.self (sz := s.heap.size)
  generalize hAe : va_A (vC cy a z σ0) s.heap.size = A at hD ⊢
  have hA : ∀ q : Nat, s.heap.size ≤ q → A q := fun q h => by rw [← hAe]; exact Or.inr h
  have hS : va_S A s.heap s.heap [] := va_S.rf
  have hl := lv_entry ([.ref (a 18), .int (L0.1 1), .int (L0.1 2)]) (n := 4) (Nat.le_of_ble_eq_true rfl)
  rw [lg_entry_eq]
  generalize (lg_sl ([.ref (a 18), .int (L0.1 1), .int (L0.1 2)]) ++ List.replicate (4 - (lg_sl ([.ref (a 18), .int (L0.1 1), .int (L0.1 2)])).length) Slot.unset).toArray = ls at hl ⊢
  have hl : lv_has ls 4 [(0, .ref (a 18)), (1, .int (L0.1 1)), (2, .int (L0.1 2))] := hl
  have blk : ∀ k : Nat, (bC p l e (headSpec w_y_X3_shortcut ({ frames := 2, cells := 0, slots := 0, locals := 42 })).room s m #[.ref (a 18), .int (L0.1 1), .int (L0.1 2)] below meth c dC dI cy a z A (kV dC dI cy a z A below #[.ref (a 18), .int (L0.1 1), .int (L0.1 2)] s) 4 (y_X3_shortcut k 0) (fun L => [(0, .ref (a 18)), (1, .int (L.1 1)), (2, .int (L.1 2))]) 0 (fun L => [])) ∧ (bC p l e (headSpec w_y_X3_shortcut ({ frames := 2, cells := 0, slots := 0, locals := 42 })).room s m #[.ref (a 18), .int (L0.1 1), .int (L0.1 2)] below meth c dC dI cy a z A (kV dC dI cy a z A below #[.ref (a 18), .int (L0.1 1), .int (L0.1 2)] s) 4 (y_X3_shortcut k 1) (fun L => [(0, .ref (a 18)), (1, .int (L.1 1)), (2, .int (L.1 2)), (3, .int (L.1 3))]) 24 (fun L => [])) ∧ (bC p l e (headSpec w_y_X3_shortcut ({ frames := 2, cells := 0, slots := 0, locals := 42 })).room s m #[.ref (a 18), .int (L0.1 1), .int (L0.1 2)] below meth c dC dI cy a z A (kV dC dI cy a z A below #[.ref (a 18), .int (L0.1 1), .int (L0.1 2)] s) 4 (y_X3_shortcut k 2) (fun L => [(0, .ref (a 18))]) 45 (fun L => [])) ∧ (bC p l e (headSpec w_y_X3_shortcut ({ frames := 2, cells := 0, slots := 0, locals := 42 })).room s m #[.ref (a 18), .int (L0.1 1), .int (L0.1 2)] below meth c dC dI cy a z A (kV dC dI cy a z A below #[.ref (a 18), .int (L0.1 1), .int (L0.1 2)] s) 4 (y_X3_shortcut k 3) (fun L => []) 58 (fun L => [])) := by
    intro k
    induction k with
    | zero => exact ⟨fun L σ r h => (by cases h), fun L σ r h => (by cases h), fun L σ r h => (by cases h), fun L σ r h => (by cases h)⟩
    | succ k ih =>
      refine ⟨?_, ?_, ?_, ?_⟩
      · intro L σ r h H locs ls hP hD hS hl
        rw [y_X3_shortcut] at h
        refine lv_aload_n hx hb dX3_shortcut_0 rfl (lv_at hl 0 rfl) ?_
        refine hg_18_7 hx hb hts in_y_X3_shortcut_X3 hown hK hP (hts _ (List.mem_cons_of_mem _ (List.mem_append_left _ (List.mem_append_left _ (List.mem_of_getElem? (i := 0) rfl))))) dX3_shortcut_1 ?_
        refine lv_aload_n hx hb dX3_shortcut_4 rfl (lv_at hl 0 rfl) ?_
        refine hg_18_5 hx hb hts in_y_X3_shortcut_X3 hown hK hP (hts _ (List.mem_cons_of_mem _ (List.mem_append_left _ (List.mem_append_left _ (List.mem_of_getElem? (i := 1) rfl))))) dX3_shortcut_5 ?_
        refine hg_19_2n hx hb hts in_y_X3_shortcut_X8 hown hK hP (va_Nw.use rfl (hG.1 _ (List.mem_of_getElem? (i := 10) rfl))) dX3_shortcut_8 ?_
        refine lv_iconst (v := 1) hx hb dX3_shortcut_11 (by decide) ?_
        refine lv_isub hx hb dX3_shortcut_12 ?_
        obtain ⟨q1, h⟩ := kb_ite1 h
        refine hl_20 hx hb hK hP q1 dX3_shortcut_13 ?_
        refine lv_istore_n (lv' := [(3, .int (σ.2.2.1 20 ((((σ.1 1902)) - 1)).toNatClampNeg)), (0, .ref (a 18)), (1, .int (L.1 1)), (2, .int (L.1 2))]) hx hb dX3_shortcut_14 rfl hl (by decide) rfl (fun ls hl => ?_)
        refine lv_aload_n hx hb dX3_shortcut_15 rfl (lv_at hl 1 rfl) ?_
        refine lv_iload_n hx hb dX3_shortcut_16 rfl (lv_at hl 0 rfl) ?_
        obtain ⟨r2, hc2, h⟩ := oc_ex h
        refine kc_i (va_runV (As := [.int (σ.2.2.1 20 ((((σ.1 1902)) - 1)).toNatClampNeg)]) (rest := []) ⟨hx, hb, hml, hown, hts⟩ (c_y_X3_wantTruth l dC dI cy a z k (lI lZ 1 ((σ.2.2.1 20 ((((σ.1 1902)) - 1)).toNatClampNeg))) σ r2 hc2 H.size) (cwV 1 hts g_y_X3_shortcut_X3_wantTruth_V342 rfl rfl rfl hd_y_X3_wantTruth ⟨Nat.le_of_ble_eq_true rfl, Nat.le_of_ble_eq_true rfl⟩) ⟨nb_blind, va_recv hK hP (ci := 3) (q0 := 18) rfl rfl, (kb_pre hK hG hP hD)⟩ rfl rfl hl.1 rfl (lv_room (Nat.le_of_ble_eq_true rfl)) dX3_shortcut_17 ⟨Nat.le_refl _, Nat.le_refl _⟩) hA hP hD hS (fun H locs hP hD hS => ?_)
        refine lv_if_ne (tgt := 24) hx hb dX3_shortcut_20 (by decide) (fun c3 => ?_) (fun c3 => ?_)
        · rw [if_neg c3] at h
          exact ih.2.1 (lI L 3 ((σ.2.2.1 20 ((((σ.1 1902)) - 1)).toNatClampNeg))) r2.2 r h H locs ls hP hD hS (lv_sub hl [1, 2, 3, 0] rfl)
        · rw [if_pos c3] at h
          obtain rfl := Option.some.inj h
          exact W.vret hx hb hr (fun t ht hW => ⟨⟨(), rfl, trivial, by rw [ht]; exact hP, va_K.moved hW.alike hK, hD⟩, hS.F ht⟩) hS.2.2 dX3_shortcut_23
      · intro L σ r h H locs ls hP hD hS hl
        rw [y_X3_shortcut] at h
        refine lv_iload_n hx hb dX3_shortcut_24 rfl (lv_at hl 3 rfl) ?_
        refine lv_iload_n hx hb dX3_shortcut_25 rfl (lv_at hl 1 rfl) ?_
        refine lv_icmp_ne (tgt := 45) hx hb dX3_shortcut_26 (by decide) (fun c1 => ?_) (fun c1 => ?_)
        · rw [if_neg c1] at h
          exact ih.2.2.1 L σ r h H locs ls hP hD hS (lv_sub hl [0] rfl)
        · rw [if_pos c1] at h
          refine lv_aload_n hx hb dX3_shortcut_29 rfl (lv_at hl 0 rfl) ?_
          refine hg_18_5 hx hb hts in_y_X3_shortcut_X3 hown hK hP (hts _ (List.mem_cons_of_mem _ (List.mem_append_left _ (List.mem_append_left _ (List.mem_of_getElem? (i := 1) rfl))))) dX3_shortcut_30 ?_
          refine lv_iload_n hx hb dX3_shortcut_33 rfl (lv_at hl 2 rfl) ?_
          refine hp_19_0n hx hb hts in_y_X3_shortcut_X8 hown hK hP hD hS (va_Nw.use rfl (hG.1 _ (List.mem_of_getElem? (i := 8) rfl))) dX3_shortcut_34 (fun H locs hP hD hS => ?_)
          refine lv_aload_n hx hb dX3_shortcut_37 rfl (lv_at hl 0 rfl) ?_
          refine lv_iconst (v := 1) hx hb dX3_shortcut_38 (by decide) ?_
          obtain ⟨r2, hc2, h⟩ := oc_ex h
          refine kc_v (va_runV (As := [.int 1]) (rest := []) ⟨hx, hb, hml, hown, hts⟩ (c_y_X3_spend l dC dI cy a z k (lI lZ 1 1) (uI σ 1900 ((L.1 2))) r2 hc2 H.size) (cwV 1 hts g_y_X3_shortcut_X3_spend_V319 rfl rfl rfl hd_y_X3_spend ⟨Nat.le_of_ble_eq_true rfl, Nat.le_of_ble_eq_true rfl⟩) ⟨nb_blind, va_recv hK hP (ci := 3) (q0 := 18) rfl rfl, (kb_pre hK hG hP hD)⟩ rfl rfl hl.1 rfl (lv_room (Nat.le_of_ble_eq_true rfl)) dX3_shortcut_39 ⟨Nat.le_refl _, Nat.le_refl _⟩) hA hP hD hS (fun H locs hP hD hS => ?_)
          refine lv_goto (tgt := 58) hx hb dX3_shortcut_42 (by decide) ?_
          exact ih.2.2.2 L r2.2 r h H locs ls hP hD hS (lv_sub hl [] rfl)
      · intro L σ r h H locs ls hP hD hS hl
        rw [y_X3_shortcut] at h
        refine lv_aload_n hx hb dX3_shortcut_45 rfl (lv_at hl 0 rfl) ?_
        refine hg_18_5 hx hb hts in_y_X3_shortcut_X3 hown hK hP (hts _ (List.mem_cons_of_mem _ (List.mem_append_left _ (List.mem_append_left _ (List.mem_of_getElem? (i := 1) rfl))))) dX3_shortcut_46 ?_
        refine lv_dup hx hb dX3_shortcut_49 rfl ?_
        refine hg_19_2n hx hb hts in_y_X3_shortcut_X8 hown hK hP (va_Nw.use rfl (hG.1 _ (List.mem_of_getElem? (i := 10) rfl))) dX3_shortcut_50 ?_
        refine lv_iconst (v := 1) hx hb dX3_shortcut_53 (by decide) ?_
        refine lv_isub hx hb dX3_shortcut_54 ?_
        refine hp_19_2n hx hb hts in_y_X3_shortcut_X8 hown hK hP hD hS (va_Nw.use rfl (hG.1 _ (List.mem_of_getElem? (i := 10) rfl))) dX3_shortcut_55 (fun H locs hP hD hS => ?_)
        exact ih.2.2.2 L (uI σ 1902 ((((σ.1 1902)) - 1))) r h H locs ls hP hD hS (lv_sub hl [] rfl)
      · intro L σ r h H locs ls hP hD hS hl
        rw [y_X3_shortcut] at h
        obtain rfl := Option.some.inj h
        exact W.vret hx hb hr (fun t ht hW => ⟨⟨(), rfl, trivial, by rw [ht]; exact hP, va_K.moved hW.alike hK, hD⟩, hS.F ht⟩) hS.2.2 dX3_shortcut_58
  exact (blk k0).1 L0 σ0 r0 h0 s.heap [] ls hP hD hS hl
/-! X3_beginStatement -/
def y_X3_beginStatement : Nat → Nat → LV → CS → Option (Int32 × CS)
  | 0, _, _, _ => none
  | k + 1, 0, L, σ => if ((σ.1 1814)) = 0 then (some (0, (uI (uI σ 1900 ((L.1 2))) 1812 1))) else (y_X3_beginStatement k 1 L σ)
  | k + 1, 1, L, σ => y_X3_beginStatement k 2 L (uI (uI (uI σ 1814 ((((σ.1 1814)) - 1))) 1903 (((((uI σ 1814 ((((σ.1 1814)) - 1))).1 1903)) + 1))) 1904 ((L.1 1)))
  | k + 1, 2, L, σ => some (0, (uI σ 1905 0))
  | _ + 1, _ + 3, _, _ => none
def o_y_X3_beginStatement : List Cond := [.fieldLink RX3 140 "SetHouse$Machine" "left" "I", .fieldLink RX3 14 "SetHouse$Machine" "run" "LSetHouse$Run;", .fieldLink RX3 225 "SetHouse$Machine" "halted" "Z"]
theorem o_y_X3_beginStatement_good : o_y_X3_beginStatement.all goodWord = true := by decide +kernel
def p_y_X3_beginStatement : List Cond := o_y_X3_beginStatement ++ []
theorem p_y_X3_beginStatement_good : p_y_X3_beginStatement.all goodWord = true := nb_all2 o_y_X3_beginStatement_good rfl
def w_y_X3_beginStatement : List Cond := .code yX3_beginStatement cX3_beginStatement 3 none :: (p_y_X3_beginStatement ++ fC)
theorem w_y_X3_beginStatement_good : w_y_X3_beginStatement.all goodWord = true := nb_allc (by decide +kernel) (nb_all2 p_y_X3_beginStatement_good fC_good)
theorem in_y_X3_beginStatement_X3 : ∀ w ∈ wsX30, w ∈ w_y_X3_beginStatement := fun _ h => List.mem_cons_of_mem _ (List.mem_append_right _ (List.mem_append_right _ (List.mem_append_right _ (List.mem_append_right _ (List.mem_append_left _ h)))))
theorem in_y_X3_beginStatement_X8 : ∀ w ∈ wsX80, w ∈ w_y_X3_beginStatement := fun _ h => List.mem_cons_of_mem _ (List.mem_append_right _ (List.mem_append_right _ (List.mem_append_right _ (List.mem_append_right _ (List.mem_append_right _ (List.mem_append_right _ (List.mem_append_right _ (List.mem_append_right _ (List.mem_append_left _ h)))))))))
theorem hd_y_X3_beginStatement : yX3_beginStatement.cls = RX3 ∧ yX3_beginStatement.cls ≠ "java/lang/invoke/MethodHandle" ∧ yX3_beginStatement.cls ≠ "java/lang/invoke/VarHandle" ∧ (parseMethodDescriptor yX3_beginStatement.desc).map (fun d => d.parameters.length) = some 2 := by decide +kernel
set_option maxHeartbeats 40000000 in
set_option maxRecDepth 100000 in
theorem c_y_X3_beginStatement (l : Launch) (dC : Nat → ClassId) (dI : Nat → Nat → Nat) (cy : Nat → ClassId) (a z : Nat → Nat) (k0 : Nat) (L0 : LV) (σ0 : CS) (r0 : Int32 × CS) (h0 : y_X3_beginStatement k0 0 L0 σ0 = some r0) (sz : Nat) : Met l yX3_beginStatement w_y_X3_beginStatement ({ frames := 0, cells := 0, slots := 0, locals := 0 }) (va_Pc [.ref (a 18), .int (L0.1 1), .int (L0.1 2)] (nIn (dC, dI) cy sz (vC cy a z σ0))) (va_Qv (fun _ : Unit => True) (fun _ t => nOut (dC, dI) cy (va_A (vC cy a z σ0) sz) (vC cy a z r0.2) t) (va_A (vC cy a z σ0) sz)) 0 0 (va_A (vC cy a z σ0) sz) := by
  refine Met.ofW (cc := cX3_beginStatement) (maxL := 3) (ret := none) (by decide) rfl ?_
  intro p e s m args below meth c s₁ B hml hv
  obtain ⟨rfl, hsz, hP, hK, hD0, hG⟩ := hv
  have hx := B.exec
  have hb := B.bytes
  have hr := B.returns
  have hts := atoms_spec (ws := w_y_X3_beginStatement) B.pre
  have hown : s.vm.findClass RX3 = some m.cls := findClass_of_methodNamed B.named
  have hlocks := B.notSynchronized
  subst hsz
  have hD := hD0.self (sz := s.heap.size)
  generalize hAe : va_A (vC cy a z σ0) s.heap.size = A at hD ⊢
  have hA : ∀ q : Nat, s.heap.size ≤ q → A q := fun q h => by rw [← hAe]; exact Or.inr h
  have hS : va_S A s.heap s.heap [] := va_S.rf
  have hl := lv_entry ([.ref (a 18), .int (L0.1 1), .int (L0.1 2)]) (n := 3) (Nat.le_of_ble_eq_true rfl)
  rw [lg_entry_eq]
  generalize (lg_sl ([.ref (a 18), .int (L0.1 1), .int (L0.1 2)]) ++ List.replicate (3 - (lg_sl ([.ref (a 18), .int (L0.1 1), .int (L0.1 2)])).length) Slot.unset).toArray = ls at hl ⊢
  have hl : lv_has ls 3 [(0, .ref (a 18)), (1, .int (L0.1 1)), (2, .int (L0.1 2))] := hl
  have blk : ∀ k : Nat, (bC p l e (headSpec w_y_X3_beginStatement ({ frames := 0, cells := 0, slots := 0, locals := 0 })).room s m #[.ref (a 18), .int (L0.1 1), .int (L0.1 2)] below meth c dC dI cy a z A (kV dC dI cy a z A below #[.ref (a 18), .int (L0.1 1), .int (L0.1 2)] s) 3 (y_X3_beginStatement k 0) (fun L => [(0, .ref (a 18)), (1, .int (L.1 1)), (2, .int (L.1 2))]) 0 (fun L => [])) ∧ (bC p l e (headSpec w_y_X3_beginStatement ({ frames := 0, cells := 0, slots := 0, locals := 0 })).room s m #[.ref (a 18), .int (L0.1 1), .int (L0.1 2)] below meth c dC dI cy a z A (kV dC dI cy a z A below #[.ref (a 18), .int (L0.1 1), .int (L0.1 2)] s) 3 (y_X3_beginStatement k 1) (fun L => [(0, .ref (a 18)), (1, .int (L.1 1))]) 21 (fun L => [])) ∧ (bC p l e (headSpec w_y_X3_beginStatement ({ frames := 0, cells := 0, slots := 0, locals := 0 })).room s m #[.ref (a 18), .int (L0.1 1), .int (L0.1 2)] below meth c dC dI cy a z A (kV dC dI cy a z A below #[.ref (a 18), .int (L0.1 1), .int (L0.1 2)] s) 3 (y_X3_beginStatement k 2) (fun L => [(0, .ref (a 18))]) 52 (fun L => [])) := by
    intro k
    induction k with
    | zero => exact ⟨fun L σ r h => (by cases h), fun L σ r h => (by cases h), fun L σ r h => (by cases h)⟩
    | succ k ih =>
      refine ⟨?_, ?_, ?_⟩
      · intro L σ r h H locs ls hP hD hS hl
        rw [y_X3_beginStatement] at h
        refine lv_aload_n hx hb dX3_beginStatement_0 rfl (lv_at hl 0 rfl) ?_
        refine hg_18_14 hx hb hts in_y_X3_beginStatement_X3 hown hK hP (hts _ (List.mem_cons_of_mem _ (List.mem_append_left _ (List.mem_append_left _ (List.mem_of_getElem? (i := 0) rfl))))) dX3_beginStatement_1 ?_
        refine lv_if_ne (tgt := 21) hx hb dX3_beginStatement_4 (by decide) (fun c1 => ?_) (fun c1 => ?_)
        · rw [if_neg c1] at h
          exact ih.2.1 L σ r h H locs ls hP hD hS (lv_sub hl [0, 1] rfl)
        · rw [if_pos c1] at h
          refine lv_aload_n hx hb dX3_beginStatement_7 rfl (lv_at hl 0 rfl) ?_
          refine hg_18_5 hx hb hts in_y_X3_beginStatement_X3 hown hK hP (hts _ (List.mem_cons_of_mem _ (List.mem_append_left _ (List.mem_append_left _ (List.mem_of_getElem? (i := 1) rfl))))) dX3_beginStatement_8 ?_
          refine lv_iload_n hx hb dX3_beginStatement_11 rfl (lv_at hl 2 rfl) ?_
          refine hp_19_0n hx hb hts in_y_X3_beginStatement_X8 hown hK hP hD hS (va_Nw.use rfl (hG.1 _ (List.mem_of_getElem? (i := 8) rfl))) dX3_beginStatement_12 (fun H locs hP hD hS => ?_)
          refine lv_aload_n hx hb dX3_beginStatement_15 rfl (lv_at hl 0 rfl) ?_
          refine lv_iconst (v := 1) hx hb dX3_beginStatement_16 (by decide) ?_
          refine hp_18_12 hx hb hts in_y_X3_beginStatement_X3 hown hK hP hD hS (hts _ (List.mem_cons_of_mem _ (List.mem_append_left _ (List.mem_append_left _ (List.mem_of_getElem? (i := 2) rfl))))) (Or.inr rfl) dX3_beginStatement_17 (fun H locs hP hD hS => ?_)
          obtain rfl := Option.some.inj h
          exact W.vret hx hb hr (fun t ht hW => ⟨⟨(), rfl, trivial, by rw [ht]; exact hP, va_K.moved hW.alike hK, hD⟩, hS.F ht⟩) hS.2.2 dX3_beginStatement_20
      · intro L σ r h H locs ls hP hD hS hl
        rw [y_X3_beginStatement] at h
        refine lv_aload_n hx hb dX3_beginStatement_21 rfl (lv_at hl 0 rfl) ?_
        refine lv_dup hx hb dX3_beginStatement_22 rfl ?_
        refine hg_18_14 hx hb hts in_y_X3_beginStatement_X3 hown hK hP (hts _ (List.mem_cons_of_mem _ (List.mem_append_left _ (List.mem_append_left _ (List.mem_of_getElem? (i := 0) rfl))))) dX3_beginStatement_23 ?_
        refine lv_iconst (v := 1) hx hb dX3_beginStatement_26 (by decide) ?_
        refine lv_isub hx hb dX3_beginStatement_27 ?_
        refine hp_18_14 hx hb hts in_y_X3_beginStatement_X3 hown hK hP hD hS (hts _ (List.mem_cons_of_mem _ (List.mem_append_left _ (List.mem_append_left _ (List.mem_of_getElem? (i := 0) rfl))))) dX3_beginStatement_28 (fun H locs hP hD hS => ?_)
        refine lv_aload_n hx hb dX3_beginStatement_31 rfl (lv_at hl 0 rfl) ?_
        refine hg_18_5 hx hb hts in_y_X3_beginStatement_X3 hown hK hP (hts _ (List.mem_cons_of_mem _ (List.mem_append_left _ (List.mem_append_left _ (List.mem_of_getElem? (i := 1) rfl))))) dX3_beginStatement_32 ?_
        refine lv_dup hx hb dX3_beginStatement_35 rfl ?_
        refine hg_19_3n hx hb hts in_y_X3_beginStatement_X8 hown hK hP (va_Nw.use rfl (hG.1 _ (List.mem_of_getElem? (i := 12) rfl))) dX3_beginStatement_36 ?_
        refine lv_iconst (v := 1) hx hb dX3_beginStatement_39 (by decide) ?_
        refine lv_iadd hx hb dX3_beginStatement_40 ?_
        refine hp_19_3n hx hb hts in_y_X3_beginStatement_X8 hown hK hP hD hS (va_Nw.use rfl (hG.1 _ (List.mem_of_getElem? (i := 12) rfl))) dX3_beginStatement_41 (fun H locs hP hD hS => ?_)
        refine lv_aload_n hx hb dX3_beginStatement_44 rfl (lv_at hl 0 rfl) ?_
        refine hg_18_5 hx hb hts in_y_X3_beginStatement_X3 hown hK hP (hts _ (List.mem_cons_of_mem _ (List.mem_append_left _ (List.mem_append_left _ (List.mem_of_getElem? (i := 1) rfl))))) dX3_beginStatement_45 ?_
        refine lv_iload_n hx hb dX3_beginStatement_48 rfl (lv_at hl 1 rfl) ?_
        refine hp_19_4n hx hb hts in_y_X3_beginStatement_X8 hown hK hP hD hS (va_Nw.use rfl (hG.1 _ (List.mem_of_getElem? (i := 15) rfl))) dX3_beginStatement_49 (fun H locs hP hD hS => ?_)
        exact ih.2.2 L (uI (uI (uI σ 1814 ((((σ.1 1814)) - 1))) 1903 (((((uI σ 1814 ((((σ.1 1814)) - 1))).1 1903)) + 1))) 1904 ((L.1 1))) r h H locs ls hP hD hS (lv_sub hl [0] rfl)
      · intro L σ r h H locs ls hP hD hS hl
        rw [y_X3_beginStatement] at h
        refine lv_aload_n hx hb dX3_beginStatement_52 rfl (lv_at hl 0 rfl) ?_
        refine hg_18_5 hx hb hts in_y_X3_beginStatement_X3 hown hK hP (hts _ (List.mem_cons_of_mem _ (List.mem_append_left _ (List.mem_append_left _ (List.mem_of_getElem? (i := 1) rfl))))) dX3_beginStatement_53 ?_
        refine lv_iconst (v := 0) hx hb dX3_beginStatement_56 (by decide) ?_
        refine hp_19_5n hx hb hts in_y_X3_beginStatement_X8 hown hK hP hD hS (va_Nw.use rfl (hG.1 _ (List.mem_of_getElem? (i := 17) rfl))) dX3_beginStatement_57 (fun H locs hP hD hS => ?_)
        obtain rfl := Option.some.inj h
        exact W.vret hx hb hr (fun t ht hW => ⟨⟨(), rfl, trivial, by rw [ht]; exact hP, va_K.moved hW.alike hK, hD⟩, hS.F ht⟩) hS.2.2 dX3_beginStatement_60
  exact (blk k0).1 L0 σ0 r0 h0 s.heap [] ls hP hD hS hl
/-! X11_unraw -/
def y_X11_unraw : Nat → Nat → LV → CS → Option (Int32 × CS)
  | 0, _, _, _ => none
  | k + 1, 0, L, σ => some ((((L.1 0)) &&& 268435455), σ)
  | _ + 1, _ + 1, _, _ => none
def o_y_X11_unraw : List Cond := [.constant RX11 4 (268435455)]
theorem o_y_X11_unraw_good : o_y_X11_unraw.all goodWord = true := by decide +kernel
def p_y_X11_unraw : List Cond := o_y_X11_unraw ++ []
theorem p_y_X11_unraw_good : p_y_X11_unraw.all goodWord = true := nb_all2 o_y_X11_unraw_good rfl
def w_y_X11_unraw : List Cond := .code yX11_unraw cX11_unraw 1 (some .int) :: (p_y_X11_unraw ++ fC)
theorem w_y_X11_unraw_good : w_y_X11_unraw.all goodWord = true := nb_allc (by decide +kernel) (nb_all2 p_y_X11_unraw_good fC_good)
theorem hd_y_X11_unraw : yX11_unraw.cls ≠ "java/lang/invoke/MethodHandle" ∧ yX11_unraw.cls ≠ "java/lang/invoke/VarHandle" ∧ (parseMethodDescriptor yX11_unraw.desc).map (fun d => d.parameters.length) = some 1 := by decide +kernel
set_option maxHeartbeats 40000000 in
set_option maxRecDepth 100000 in
theorem c_y_X11_unraw (l : Launch) (dC : Nat → ClassId) (dI : Nat → Nat → Nat) (cy : Nat → ClassId) (a z : Nat → Nat) (k0 : Nat) (L0 : LV) (σ0 : CS) (r0 : Int32 × CS) (h0 : y_X11_unraw k0 0 L0 σ0 = some r0) (sz : Nat) : Met l yX11_unraw w_y_X11_unraw ({ frames := 0, cells := 0, slots := 0, locals := 0 }) (va_Pc [.int (L0.1 0)] (nIn (dC, dI) cy sz (vC cy a z σ0))) (va_Qi (fun (x : Int32) (_ : Unit) => x = r0.1) (fun _ t => nOut (dC, dI) cy (va_A (vC cy a z σ0) sz) (vC cy a z r0.2) t) (va_A (vC cy a z σ0) sz)) 0 0 (va_A (vC cy a z σ0) sz) := by
  refine Met.ofW (cc := cX11_unraw) (maxL := 1) (ret := (some .int)) (by decide) rfl ?_
  intro p e s m args below meth c s₁ B hml hv
  obtain ⟨rfl, hsz, hP, hK, hD0, hG⟩ := hv
  have hx := B.exec
  have hb := B.bytes
  have hr := B.returns
  have hts := atoms_spec (ws := w_y_X11_unraw) B.pre
  have hown : s.vm.findClass RX11 = some m.cls := findClass_of_methodNamed B.named
  have hlocks := B.notSynchronized
  subst hsz
  have hD := hD0.self (sz := s.heap.size)
  generalize hAe : va_A (vC cy a z σ0) s.heap.size = A at hD ⊢
  have hA : ∀ q : Nat, s.heap.size ≤ q → A q := fun q h => by rw [← hAe]; exact Or.inr h
  have hS : va_S A s.heap s.heap [] := va_S.rf
  have hl := lv_entry ([.int (L0.1 0)]) (n := 1) (Nat.le_of_ble_eq_true rfl)
  rw [lg_entry_eq]
  generalize (lg_sl ([.int (L0.1 0)]) ++ List.replicate (1 - (lg_sl ([.int (L0.1 0)])).length) Slot.unset).toArray = ls at hl ⊢
  have hl : lv_has ls 1 [(0, .int (L0.1 0))] := hl
  have blk : ∀ k : Nat, (bC p l e (headSpec w_y_X11_unraw ({ frames := 0, cells := 0, slots := 0, locals := 0 })).room s m #[.int (L0.1 0)] below meth c dC dI cy a z A (kI dC dI cy a z A below #[.int (L0.1 0)] s) 1 (y_X11_unraw k 0) (fun L => [(0, .int (L.1 0))]) 0 (fun L => [])) := by
    intro k
    induction k with
    | zero => exact fun L σ r h => (by cases h)
    | succ k ih =>
      skip
      · intro L σ r h H locs ls hP hD hS hl
        rw [y_X11_unraw] at h
        refine lv_iload_n hx hb dX11_unraw_0 rfl (lv_at hl 0 rfl) ?_
        refine lv_ldc (v := 268435455) hx hb hown (hts _ (List.mem_cons_of_mem _ (List.mem_append_left _ (List.mem_append_left _ (List.mem_of_getElem? (i := 0) rfl))))) dX11_unraw_1 ?_
        refine lv_iand hx hb dX11_unraw_3 ?_
        obtain rfl := Option.some.inj h
        exact W.iret (v := (((L.1 0)) &&& 268435455)) hx hb hr (fun t ht hW => ⟨⟨(((L.1 0)) &&& 268435455), (), rfl, rfl, by rw [ht]; exact hP, va_K.moved hW.alike hK, hD⟩, hS.F ht⟩) hS.2.2 dX11_unraw_4
  exact (blk k0) L0 σ0 r0 h0 s.heap [] ls hP hD hS hl
/-! X3_endProc -/
def y_X3_endProc : Nat → Nat → LV → CS → Option (Int32 × CS)
  | 0, _, _, _ => none
  | k + 1, 0, L, σ => oc (y_X3_pop k 0 lZ σ) (fun r1 => oB (sPr r1.2) (fun b2 => if ¬ (((((r1.2.1 1901)) + 2)) < 0 ∨ (sN r1.2 20) ≤ ((((r1.2.1 1901)) + 2)).toNatClampNeg) then (oc (y_X11_unraw k 0 (lI lZ 0 ((r1.2.2.2.1 20 ((((r1.2.1 1901)) + 2)).toNatClampNeg))) r1.2) (fun r4 => if ¬ (r4.1 < 0 ∨ 42 ≤ r4.1.toNatClampNeg) then (if ¬ (((r1.2.1 1901)) < 0 ∨ (sN r4.2 20) ≤ ((r1.2.1 1901)).toNatClampNeg) then (oc (y_X11_unraw k 0 (lI lZ 0 ((r4.2.2.2.1 20 ((r1.2.1 1901)).toNatClampNeg))) r4.2) (fun r7 => y_X3_endProc k 1 (lI (lI (lI L 1 r1.1) 2 ((r1.2.1 1901))) 3 ((r4.2.2.2.1 (pR14 b2) r4.1.toNatClampNeg))) (uI r7.2 1900 r7.1))) else none) else none)) else none))
  | k + 1, 1, L, σ => if ¬ (((((L.1 2)) + 1)) < 0 ∨ (sN σ 20) ≤ ((((L.1 2)) + 1)).toNatClampNeg) then (oc (y_X11_unraw k 0 (lI lZ 0 ((σ.2.2.1 20 ((((L.1 2)) + 1)).toNatClampNeg))) σ) (fun r2 => y_X3_endProc k 2 L (uI (uI r2.2 1901 r2.1) 1908 (((((uI r2.2 1901 r2.1).1 1908)) - 1))))) else none
  | k + 1, 2, L, σ => if ¬ (((((L.1 2)) + 3)) < 0 ∨ (sN (uI σ 1909 ((((σ.1 1909)) - ((σ.1 1910))))) 20) ≤ ((((L.1 2)) + 3)).toNatClampNeg) then (oc (y_X11_unraw k 0 (lI lZ 0 (((uI σ 1909 ((((σ.1 1909)) - ((σ.1 1910))))).2.2.1 20 ((((L.1 2)) + 3)).toNatClampNeg))) (uI σ 1909 ((((σ.1 1909)) - ((σ.1 1910)))))) (fun r2 => y_X3_endProc k 3 L (uI r2.2 1910 r2.1))) else none
  | k + 1, 3, L, σ => if ¬ (((L.1 2)) < 0 ∨ (sN σ 20) ≤ ((L.1 2)).toNatClampNeg) then (y_X3_endProc k 4 (lI L 4 1) (uA σ 20 ((L.1 2)).toNatClampNeg ((L.1 1)))) else none
  | k + 1, 4, L, σ => if ((L.1 3)) < ((L.1 4)) then (y_X3_endProc k 5 L σ) else (if ¬ (((((((((L.1 2)) + 4)) - 1)) + ((L.1 4)))) < 0 ∨ (sN σ 20) ≤ ((((((((L.1 2)) + 4)) - 1)) + ((L.1 4)))).toNatClampNeg) then (if ¬ (((((L.1 2)) + ((L.1 4)))) < 0 ∨ (sN σ 20) ≤ ((((L.1 2)) + ((L.1 4)))).toNatClampNeg) then (y_X3_endProc k 4 (lI L 4 ((((L.1 4)) + 1))) (uA σ 20 ((((L.1 2)) + ((L.1 4)))).toNatClampNeg ((σ.2.2.1 20 ((((((((L.1 2)) + 4)) - 1)) + ((L.1 4)))).toNatClampNeg)))) else none) else none)
  | k + 1, 5, L, σ => some (0, (uI σ 1902 ((((((L.1 2)) + 1)) + ((L.1 3))))))
  | _ + 1, _ + 6, _, _ => none
def o_y_X3_endProc : List Cond := [.methodLink RX3 339 yX3_pop, .instanceMethod yX3_pop, .selects RX3 yX3_pop yX3_pop, .initialized RX3, .fieldLink RX3 14 "SetHouse$Machine" "run" "LSetHouse$Run;", .fieldLink RX3 58 "SetHouse$Machine" "program" "LSetHouse$Program;", .fieldLink RX3 18 "SetHouse$Machine" "stack" "[I", .initialized RX11, .static yX11_unraw]
theorem o_y_X3_endProc_good : o_y_X3_endProc.all goodWord = true := by decide +kernel
def p_y_X3_endProc : List Cond := o_y_X3_endProc ++ ((.code yX3_pop cX3_pop 1 (some .int) :: p_y_X3_pop) ++ ((.code yX11_unraw cX11_unraw 1 (some .int) :: p_y_X11_unraw) ++ []))
theorem p_y_X3_endProc_good : p_y_X3_endProc.all goodWord = true := nb_all2 o_y_X3_endProc_good (nb_all2 (nb_allc (by decide +kernel) p_y_X3_pop_good) (nb_all2 (nb_allc (by decide +kernel) p_y_X11_unraw_good) rfl))
def w_y_X3_endProc : List Cond := .code yX3_endProc cX3_endProc 5 none :: (p_y_X3_endProc ++ fC)
theorem w_y_X3_endProc_good : w_y_X3_endProc.all goodWord = true := nb_allc (by decide +kernel) (nb_all2 p_y_X3_endProc_good fC_good)
theorem in_y_X3_endProc_X3 : ∀ w ∈ wsX30, w ∈ w_y_X3_endProc := fun _ h => List.mem_cons_of_mem _ (List.mem_append_right _ (List.mem_append_right _ (List.mem_append_right _ (List.mem_append_right _ (List.mem_append_left _ h)))))
theorem in_y_X3_endProc_X7 : ∀ w ∈ wsX70, w ∈ w_y_X3_endProc := fun _ h => List.mem_cons_of_mem _ (List.mem_append_right _ (List.mem_append_right _ (List.mem_append_right _ (List.mem_append_right _ (List.mem_append_right _ (List.mem_append_right _ (List.mem_append_right _ (List.mem_append_left _ h))))))))
theorem in_y_X3_endProc_X8 : ∀ w ∈ wsX80, w ∈ w_y_X3_endProc := fun _ h => List.mem_cons_of_mem _ (List.mem_append_right _ (List.mem_append_right _ (List.mem_append_right _ (List.mem_append_right _ (List.mem_append_right _ (List.mem_append_right _ (List.mem_append_right _ (List.mem_append_right _ (List.mem_append_left _ h)))))))))
theorem hd_y_X3_endProc : yX3_endProc.cls = RX3 ∧ yX3_endProc.cls ≠ "java/lang/invoke/MethodHandle" ∧ yX3_endProc.cls ≠ "java/lang/invoke/VarHandle" ∧ (parseMethodDescriptor yX3_endProc.desc).map (fun d => d.parameters.length) = some 0 := by decide +kernel
theorem gg_y_X3_endProc_X11_unraw : GoodIn w_y_X3_endProc w_y_X11_unraw := goodIn_sub (fun w h => (List.mem_cons.mp h).elim (fun e => (List.mem_cons_of_mem _ (List.mem_append_left _ (List.mem_append_right _ (List.mem_append_right _ (List.mem_append_left _ (List.mem_cons.mpr (Or.inl e)))))))) (fun h => (List.mem_append.mp h).elim (fun h => (List.mem_cons_of_mem _ (List.mem_append_left _ (List.mem_append_right _ (List.mem_append_right _ (List.mem_append_left _ (List.mem_cons_of_mem _ h))))))) (fun h => List.mem_cons_of_mem _ (List.mem_append_right _ h)))) w_y_X11_unraw_good
theorem g_y_X3_endProc_X11_unraw_SN388 : GoodIn w_y_X3_endProc w_y_X11_unraw := gg_y_X3_endProc_X11_unraw
theorem gg_y_X3_endProc_X3_pop : GoodIn w_y_X3_endProc w_y_X3_pop := goodIn_sub (fun w h => (List.mem_cons.mp h).elim (fun e => (List.mem_cons_of_mem _ (List.mem_append_left _ (List.mem_append_right _ (List.mem_append_left _ (List.mem_cons.mpr (Or.inl e))))))) (fun h => (List.mem_append.mp h).elim (fun h => (List.mem_cons_of_mem _ (List.mem_append_left _ (List.mem_append_right _ (List.mem_append_left _ (List.mem_cons_of_mem _ h)))))) (fun h => List.mem_cons_of_mem _ (List.mem_append_right _ h)))) w_y_X3_pop_good
theorem g_y_X3_endProc_X3_pop_V339 : GoodIn w_y_X3_endProc (wsV RX3 339 RX3 yX3_pop w_y_X3_pop) := goodIn_app (nb_g4 (List.mem_cons_of_mem _ (List.mem_append_left _ (List.mem_append_left _ (List.mem_of_getElem? (i := 0) rfl)))) (List.mem_cons_of_mem _ (List.mem_append_left _ (List.mem_append_left _ (List.mem_of_getElem? (i := 1) rfl)))) (List.mem_cons_of_mem _ (List.mem_append_left _ (List.mem_append_left _ (List.mem_of_getElem? (i := 2) rfl)))) (List.mem_cons_of_mem _ (List.mem_append_left _ (List.mem_append_left _ (List.mem_of_getElem? (i := 3) rfl)))) (by decide +kernel)) gg_y_X3_endProc_X3_pop
set_option maxHeartbeats 40000000 in
set_option maxRecDepth 100000 in
theorem c_y_X3_endProc (l : Launch) (dC : Nat → ClassId) (dI : Nat → Nat → Nat) (cy : Nat → ClassId) (a z : Nat → Nat) (k0 : Nat) (L0 : LV) (σ0 : CS) (r0 : Int32 × CS) (h0 : y_X3_endProc k0 0 L0 σ0 = some r0) (sz : Nat) : Met l yX3_endProc w_y_X3_endProc ({ frames := 1, cells := 0, slots := 0, locals := 20 }) (va_Pc [.ref (a 18)] (nIn (dC, dI) cy sz (vC cy a z σ0))) (va_Qv (fun _ : Unit => True) (fun _ t => nOut (dC, dI) cy (va_A (vC cy a z σ0) sz) (vC cy a z r0.2) t) (va_A (vC cy a z σ0) sz)) 0 0 (va_A (vC cy a z σ0) sz) := by
  refine Met.ofW (cc := cX3_endProc) (maxL := 5) (ret := none) (by decide) rfl ?_
  intro p e s m args below meth c s₁ B hml hv
  obtain ⟨rfl, hsz, hP, hK, hD0, hG⟩ := hv
  have hx := B.exec
  have hb := B.bytes
  have hr := B.returns
  have hts := atoms_spec (ws := w_y_X3_endProc) B.pre
  have hown : s.vm.findClass RX3 = some m.cls := findClass_of_methodNamed B.named
  have hlocks := B.notSynchronized
  subst hsz
  have hD := hD0.self (sz := s.heap.size)
  generalize hAe : va_A (vC cy a z σ0) s.heap.size = A at hD ⊢
  have hA : ∀ q : Nat, s.heap.size ≤ q → A q := fun q h => by rw [← hAe]; exact Or.inr h
  have hS : va_S A s.heap s.heap [] := va_S.rf
  have hl := lv_entry ([.ref (a 18)]) (n := 5) (Nat.le_of_ble_eq_true rfl)
  rw [lg_entry_eq]
  generalize (lg_sl ([.ref (a 18)]) ++ List.replicate (5 - (lg_sl ([.ref (a 18)])).length) Slot.unset).toArray = ls at hl ⊢
  have hl : lv_has ls 5 [(0, .ref (a 18))] := hl
  have blk : ∀ k : Nat, (bC p l e (headSpec w_y_X3_endProc ({ frames := 1, cells := 0, slots := 0, locals := 20 })).room s m #[.ref (a 18)] below meth c dC dI cy a z A (kV dC dI cy a z A below #[.ref (a 18)] s) 5 (y_X3_endProc k 0) (fun L => [(0, .ref (a 18))]) 0 (fun L => [])) ∧ (bC p l e (headSpec w_y_X3_endProc ({ frames := 1, cells := 0, slots := 0, locals := 20 })).room s m #[.ref (a 18)] below meth c dC dI cy a z A (kV dC dI cy a z A below #[.ref (a 18)] s) 5 (y_X3_endProc k 1) (fun L => [(0, .ref (a 18)), (1, .int (L.1 1)), (2, .int (L.1 2)), (3, .int (L.1 3))]) 49 (fun L => [])) ∧ (bC p l e (headSpec w_y_X3_endProc ({ frames := 1, cells := 0, slots := 0, locals := 20 })).room s m #[.ref (a 18)] below meth c dC dI cy a z A (kV dC dI cy a z A below #[.ref (a 18)] s) 5 (y_X3_endProc k 2) (fun L => [(0, .ref (a 18)), (1, .int (L.1 1)), (2, .int (L.1 2)), (3, .int (L.1 3))]) 80 (fun L => [])) ∧ (bC p l e (headSpec w_y_X3_endProc ({ frames := 1, cells := 0, slots := 0, locals := 20 })).room s m #[.ref (a 18)] below meth c dC dI cy a z A (kV dC dI cy a z A below #[.ref (a 18)] s) 5 (y_X3_endProc k 3) (fun L => [(0, .ref (a 18)), (1, .int (L.1 1)), (2, .int (L.1 2)), (3, .int (L.1 3))]) 120 (fun L => [])) ∧ (bC p l e (headSpec w_y_X3_endProc ({ frames := 1, cells := 0, slots := 0, locals := 20 })).room s m #[.ref (a 18)] below meth c dC dI cy a z A (kV dC dI cy a z A below #[.ref (a 18)] s) 5 (y_X3_endProc k 4) (fun L => [(0, .ref (a 18)), (2, .int (L.1 2)), (3, .int (L.1 3)), (4, .int (L.1 4))]) 130 (fun L => [])) ∧ (bC p l e (headSpec w_y_X3_endProc ({ frames := 1, cells := 0, slots := 0, locals := 20 })).room s m #[.ref (a 18)] below meth c dC dI cy a z A (kV dC dI cy a z A below #[.ref (a 18)] s) 5 (y_X3_endProc k 5) (fun L => [(0, .ref (a 18)), (2, .int (L.1 2)), (3, .int (L.1 3))]) 164 (fun L => [])) := by
    intro k
    induction k with
    | zero => exact ⟨fun L σ r h => (by cases h), fun L σ r h => (by cases h), fun L σ r h => (by cases h), fun L σ r h => (by cases h), fun L σ r h => (by cases h), fun L σ r h => (by cases h)⟩
    | succ k ih =>
      refine ⟨?_, ?_, ?_, ?_, ?_, ?_⟩
      · intro L σ r h H locs ls hP hD hS hl
        rw [y_X3_endProc] at h
        refine lv_aload_n hx hb dX3_endProc_0 rfl (lv_at hl 0 rfl) ?_
        obtain ⟨r1, hc1, h⟩ := oc_ex h
        refine kc_i (va_runV (As := []) (rest := []) ⟨hx, hb, hml, hown, hts⟩ (c_y_X3_pop l dC dI cy a z k lZ σ r1 hc1 H.size) (cwV 0 hts g_y_X3_endProc_X3_pop_V339 rfl rfl rfl hd_y_X3_pop ⟨Nat.le_of_ble_eq_true rfl, Nat.le_of_ble_eq_true rfl⟩) ⟨nb_blind, va_recv hK hP (ci := 3) (q0 := 18) rfl rfl, (kb_pre hK hG hP hD)⟩ rfl rfl hl.1 rfl (lv_room (Nat.le_of_ble_eq_true rfl)) dX3_endProc_1 ⟨Nat.le_refl _, Nat.le_refl _⟩) hA hP hD hS (fun H locs hP hD hS => ?_)
        refine lv_istore_n (lv' := [(1, .int r1.1), (0, .ref (a 18))]) hx hb dX3_endProc_4 rfl hl (by decide) rfl (fun ls hl => ?_)
        refine lv_aload_n hx hb dX3_endProc_5 rfl (lv_at hl 1 rfl) ?_
        refine hg_18_5 hx hb hts in_y_X3_endProc_X3 hown hK hP (hts _ (List.mem_cons_of_mem _ (List.mem_append_left _ (List.mem_append_left _ (List.mem_of_getElem? (i := 4) rfl))))) dX3_endProc_6 ?_
        refine hg_19_1n hx hb hts in_y_X3_endProc_X8 hown hK hP (va_Nw.use rfl (hG.1 _ (List.mem_of_getElem? (i := 9) rfl))) dX3_endProc_9 ?_
        refine lv_istore_n (lv' := [(2, .int (r1.2.1 1901)), (1, .int r1.1), (0, .ref (a 18))]) hx hb dX3_endProc_12 rfl hl (by decide) rfl (fun ls hl => ?_)
        refine lv_aload_n hx hb dX3_endProc_13 rfl (lv_at hl 2 rfl) ?_
        obtain ⟨b2, hb2, h⟩ := oB_ex h
        refine hgq_18_6 hx hb hts in_y_X3_endProc_X3 hown hK hP (hts _ (List.mem_cons_of_mem _ (List.mem_append_left _ (List.mem_append_left _ (List.mem_of_getElem? (i := 5) rfl))))) hb2 dX3_endProc_14 ?_
        refine hg_P_14n b2 hx hb hts in_y_X3_endProc_X7 hown hK hP (va_Nw.use rfl (hG.1 _ (List.mem_of_getElem? (i := 86) rfl))) dX3_endProc_17 ?_
        refine lv_aload_n hx hb dX3_endProc_20 rfl (lv_at hl 2 rfl) ?_
        refine hg_18_7 hx hb hts in_y_X3_endProc_X3 hown hK hP (hts _ (List.mem_cons_of_mem _ (List.mem_append_left _ (List.mem_append_left _ (List.mem_of_getElem? (i := 6) rfl))))) dX3_endProc_21 ?_
        refine lv_iload_n hx hb dX3_endProc_24 rfl (lv_at hl 0 rfl) ?_
        refine lv_iconst (v := 2) hx hb dX3_endProc_25 (by decide) ?_
        refine lv_iadd hx hb dX3_endProc_26 ?_
        obtain ⟨q3, h⟩ := kb_ite1 h
        refine hl_20 hx hb hK hP q3 dX3_endProc_27 ?_
        obtain ⟨r4, hc4, h⟩ := oc_ex h
        refine kc_i (va_runSN (As := [.int (r1.2.2.2.1 20 ((((r1.2.1 1901)) + 2)).toNatClampNeg)]) (rest := [.ref (a (pR14 b2))]) ⟨hx, hb, hml, hown, hts⟩ (c_y_X11_unraw l dC dI cy a z k (lI lZ 0 ((r1.2.2.2.1 20 ((((r1.2.1 1901)) + 2)).toNatClampNeg))) r1.2 r4 hc4 H.size) ⟨va_cnB 1 hts g_y_X3_endProc_X11_unraw_SN388 rfl rfl rfl (hG.1 _ (List.mem_of_getElem? (i := 104) rfl)) (hts _ (List.mem_cons_of_mem _ (List.mem_append_left _ (List.mem_append_left _ (List.mem_of_getElem? (i := 7) rfl))))) hd_y_X11_unraw ⟨Nat.le_of_ble_eq_true rfl, Nat.le_of_ble_eq_true rfl⟩, (hts _ (List.mem_cons_of_mem _ (List.mem_append_left _ (List.mem_append_left _ (List.mem_of_getElem? (i := 8) rfl))))), trivial⟩ ⟨nb_blind, (kb_pre hK hG hP hD)⟩ rfl rfl hl.1 rfl (lv_room (Nat.le_of_ble_eq_true rfl)) dX3_endProc_28 ⟨Nat.le_refl _, Nat.le_refl _⟩) hA hP hD hS (fun H locs hP hD hS => ?_)
        obtain ⟨q5, h⟩ := kb_ite1 h
        refine hl_P14 b2 hx hb hK hP q5 dX3_endProc_31 ?_
        refine lv_istore_n (lv' := [(3, .int (r4.2.2.2.1 (pR14 b2) r4.1.toNatClampNeg)), (2, .int (r1.2.1 1901)), (1, .int r1.1), (0, .ref (a 18))]) hx hb dX3_endProc_32 rfl hl (by decide) rfl (fun ls hl => ?_)
        refine lv_aload_n hx hb dX3_endProc_33 rfl (lv_at hl 3 rfl) ?_
        refine hg_18_5 hx hb hts in_y_X3_endProc_X3 hown hK hP (hts _ (List.mem_cons_of_mem _ (List.mem_append_left _ (List.mem_append_left _ (List.mem_of_getElem? (i := 4) rfl))))) dX3_endProc_34 ?_
        refine lv_aload_n hx hb dX3_endProc_37 rfl (lv_at hl 3 rfl) ?_
        refine hg_18_7 hx hb hts in_y_X3_endProc_X3 hown hK hP (hts _ (List.mem_cons_of_mem _ (List.mem_append_left _ (List.mem_append_left _ (List.mem_of_getElem? (i := 6) rfl))))) dX3_endProc_38 ?_
        refine lv_iload_n hx hb dX3_endProc_41 rfl (lv_at hl 1 rfl) ?_
        obtain ⟨q6, h⟩ := kb_ite1 h
        refine hl_20 hx hb hK hP q6 dX3_endProc_42 ?_
        obtain ⟨r7, hc7, h⟩ := oc_ex h
        refine kc_i (va_runSN (As := [.int (r4.2.2.2.1 20 ((r1.2.1 1901)).toNatClampNeg)]) (rest := [.ref (a 19)]) ⟨hx, hb, hml, hown, hts⟩ (c_y_X11_unraw l dC dI cy a z k (lI lZ 0 ((r4.2.2.2.1 20 ((r1.2.1 1901)).toNatClampNeg))) r4.2 r7 hc7 H.size) ⟨va_cnB 1 hts g_y_X3_endProc_X11_unraw_SN388 rfl rfl rfl (hG.1 _ (List.mem_of_getElem? (i := 104) rfl)) (hts _ (List.mem_cons_of_mem _ (List.mem_append_left _ (List.mem_append_left _ (List.mem_of_getElem? (i := 7) rfl))))) hd_y_X11_unraw ⟨Nat.le_of_ble_eq_true rfl, Nat.le_of_ble_eq_true rfl⟩, (hts _ (List.mem_cons_of_mem _ (List.mem_append_left _ (List.mem_append_left _ (List.mem_of_getElem? (i := 8) rfl))))), trivial⟩ ⟨nb_blind, (kb_pre hK hG hP hD)⟩ rfl rfl hl.1 rfl (lv_room (Nat.le_of_ble_eq_true rfl)) dX3_endProc_43 ⟨Nat.le_refl _, Nat.le_refl _⟩) hA hP hD hS (fun H locs hP hD hS => ?_)
        refine hp_19_0n hx hb hts in_y_X3_endProc_X8 hown hK hP hD hS (va_Nw.use rfl (hG.1 _ (List.mem_of_getElem? (i := 8) rfl))) dX3_endProc_46 (fun H locs hP hD hS => ?_)
        exact ih.2.1 (lI (lI (lI L 1 r1.1) 2 ((r1.2.1 1901))) 3 ((r4.2.2.2.1 (pR14 b2) r4.1.toNatClampNeg))) (uI r7.2 1900 r7.1) r h H locs ls hP hD hS (lv_sub hl [3, 2, 1, 0] rfl)
      · intro L σ r h H locs ls hP hD hS hl
        rw [y_X3_endProc] at h
        refine lv_aload_n hx hb dX3_endProc_49 rfl (lv_at hl 0 rfl) ?_
        refine hg_18_5 hx hb hts in_y_X3_endProc_X3 hown hK hP (hts _ (List.mem_cons_of_mem _ (List.mem_append_left _ (List.mem_append_left _ (List.mem_of_getElem? (i := 4) rfl))))) dX3_endProc_50 ?_
        refine lv_aload_n hx hb dX3_endProc_53 rfl (lv_at hl 0 rfl) ?_
        refine hg_18_7 hx hb hts in_y_X3_endProc_X3 hown hK hP (hts _ (List.mem_cons_of_mem _ (List.mem_append_left _ (List.mem_append_left _ (List.mem_of_getElem? (i := 6) rfl))))) dX3_endProc_54 ?_
        refine lv_iload_n hx hb dX3_endProc_57 rfl (lv_at hl 2 rfl) ?_
        refine lv_iconst (v := 1) hx hb dX3_endProc_58 (by decide) ?_
        refine lv_iadd hx hb dX3_endProc_59 ?_
        obtain ⟨q1, h⟩ := kb_ite1 h
        refine hl_20 hx hb hK hP q1 dX3_endProc_60 ?_
        obtain ⟨r2, hc2, h⟩ := oc_ex h
        refine kc_i (va_runSN (As := [.int (σ.2.2.1 20 ((((L.1 2)) + 1)).toNatClampNeg)]) (rest := [.ref (a 19)]) ⟨hx, hb, hml, hown, hts⟩ (c_y_X11_unraw l dC dI cy a z k (lI lZ 0 ((σ.2.2.1 20 ((((L.1 2)) + 1)).toNatClampNeg))) σ r2 hc2 H.size) ⟨va_cnB 1 hts g_y_X3_endProc_X11_unraw_SN388 rfl rfl rfl (hG.1 _ (List.mem_of_getElem? (i := 104) rfl)) (hts _ (List.mem_cons_of_mem _ (List.mem_append_left _ (List.mem_append_left _ (List.mem_of_getElem? (i := 7) rfl))))) hd_y_X11_unraw ⟨Nat.le_of_ble_eq_true rfl, Nat.le_of_ble_eq_true rfl⟩, (hts _ (List.mem_cons_of_mem _ (List.mem_append_left _ (List.mem_append_left _ (List.mem_of_getElem? (i := 8) rfl))))), trivial⟩ ⟨nb_blind, (kb_pre hK hG hP hD)⟩ rfl rfl hl.1 rfl (lv_room (Nat.le_of_ble_eq_true rfl)) dX3_endProc_61 ⟨Nat.le_refl _, Nat.le_refl _⟩) hA hP hD hS (fun H locs hP hD hS => ?_)
        refine hp_19_1n hx hb hts in_y_X3_endProc_X8 hown hK hP hD hS (va_Nw.use rfl (hG.1 _ (List.mem_of_getElem? (i := 9) rfl))) dX3_endProc_64 (fun H locs hP hD hS => ?_)
        refine lv_aload_n hx hb dX3_endProc_67 rfl (lv_at hl 0 rfl) ?_
        refine hg_18_5 hx hb hts in_y_X3_endProc_X3 hown hK hP (hts _ (List.mem_cons_of_mem _ (List.mem_append_left _ (List.mem_append_left _ (List.mem_of_getElem? (i := 4) rfl))))) dX3_endProc_68 ?_
        refine lv_dup hx hb dX3_endProc_71 rfl ?_
        refine hg_19_8n hx hb hts in_y_X3_endProc_X8 hown hK hP (va_Nw.use rfl (hG.1 _ (List.mem_of_getElem? (i := 23) rfl))) dX3_endProc_72 ?_
        refine lv_iconst (v := 1) hx hb dX3_endProc_75 (by decide) ?_
        refine lv_isub hx hb dX3_endProc_76 ?_
        refine hp_19_8n hx hb hts in_y_X3_endProc_X8 hown hK hP hD hS (va_Nw.use rfl (hG.1 _ (List.mem_of_getElem? (i := 23) rfl))) dX3_endProc_77 (fun H locs hP hD hS => ?_)
        exact ih.2.2.1 L (uI (uI r2.2 1901 r2.1) 1908 (((((uI r2.2 1901 r2.1).1 1908)) - 1))) r h H locs ls hP hD hS (lv_sub hl [0, 1, 2, 3] rfl)
      · intro L σ r h H locs ls hP hD hS hl
        rw [y_X3_endProc] at h
        refine lv_aload_n hx hb dX3_endProc_80 rfl (lv_at hl 0 rfl) ?_
        refine hg_18_5 hx hb hts in_y_X3_endProc_X3 hown hK hP (hts _ (List.mem_cons_of_mem _ (List.mem_append_left _ (List.mem_append_left _ (List.mem_of_getElem? (i := 4) rfl))))) dX3_endProc_81 ?_
        refine lv_aload_n hx hb dX3_endProc_84 rfl (lv_at hl 0 rfl) ?_
        refine hg_18_5 hx hb hts in_y_X3_endProc_X3 hown hK hP (hts _ (List.mem_cons_of_mem _ (List.mem_append_left _ (List.mem_append_left _ (List.mem_of_getElem? (i := 4) rfl))))) dX3_endProc_85 ?_
        refine hg_19_9n hx hb hts in_y_X3_endProc_X8 hown hK hP (va_Nw.use rfl (hG.1 _ (List.mem_of_getElem? (i := 25) rfl))) dX3_endProc_88 ?_
        refine lv_aload_n hx hb dX3_endProc_91 rfl (lv_at hl 0 rfl) ?_
        refine hg_18_5 hx hb hts in_y_X3_endProc_X3 hown hK hP (hts _ (List.mem_cons_of_mem _ (List.mem_append_left _ (List.mem_append_left _ (List.mem_of_getElem? (i := 4) rfl))))) dX3_endProc_92 ?_
        refine hg_19_10n hx hb hts in_y_X3_endProc_X8 hown hK hP (va_Nw.use rfl (hG.1 _ (List.mem_of_getElem? (i := 28) rfl))) dX3_endProc_95 ?_
        refine lv_isub hx hb dX3_endProc_98 ?_
        refine hp_19_9n hx hb hts in_y_X3_endProc_X8 hown hK hP hD hS (va_Nw.use rfl (hG.1 _ (List.mem_of_getElem? (i := 25) rfl))) dX3_endProc_99 (fun H locs hP hD hS => ?_)
        refine lv_aload_n hx hb dX3_endProc_102 rfl (lv_at hl 0 rfl) ?_
        refine hg_18_5 hx hb hts in_y_X3_endProc_X3 hown hK hP (hts _ (List.mem_cons_of_mem _ (List.mem_append_left _ (List.mem_append_left _ (List.mem_of_getElem? (i := 4) rfl))))) dX3_endProc_103 ?_
        refine lv_aload_n hx hb dX3_endProc_106 rfl (lv_at hl 0 rfl) ?_
        refine hg_18_7 hx hb hts in_y_X3_endProc_X3 hown hK hP (hts _ (List.mem_cons_of_mem _ (List.mem_append_left _ (List.mem_append_left _ (List.mem_of_getElem? (i := 6) rfl))))) dX3_endProc_107 ?_
        refine lv_iload_n hx hb dX3_endProc_110 rfl (lv_at hl 2 rfl) ?_
        refine lv_iconst (v := 3) hx hb dX3_endProc_111 (by decide) ?_
        refine lv_iadd hx hb dX3_endProc_112 ?_
        obtain ⟨q1, h⟩ := kb_ite1 h
        refine hl_20 hx hb hK hP q1 dX3_endProc_113 ?_
        obtain ⟨r2, hc2, h⟩ := oc_ex h
        refine kc_i (va_runSN (As := [.int ((uI σ 1909 ((((σ.1 1909)) - ((σ.1 1910))))).2.2.1 20 ((((L.1 2)) + 3)).toNatClampNeg)]) (rest := [.ref (a 19)]) ⟨hx, hb, hml, hown, hts⟩ (c_y_X11_unraw l dC dI cy a z k (lI lZ 0 (((uI σ 1909 ((((σ.1 1909)) - ((σ.1 1910))))).2.2.1 20 ((((L.1 2)) + 3)).toNatClampNeg))) (uI σ 1909 ((((σ.1 1909)) - ((σ.1 1910))))) r2 hc2 H.size) ⟨va_cnB 1 hts g_y_X3_endProc_X11_unraw_SN388 rfl rfl rfl (hG.1 _ (List.mem_of_getElem? (i := 104) rfl)) (hts _ (List.mem_cons_of_mem _ (List.mem_append_left _ (List.mem_append_left _ (List.mem_of_getElem? (i := 7) rfl))))) hd_y_X11_unraw ⟨Nat.le_of_ble_eq_true rfl, Nat.le_of_ble_eq_true rfl⟩, (hts _ (List.mem_cons_of_mem _ (List.mem_append_left _ (List.mem_append_left _ (List.mem_of_getElem? (i := 8) rfl))))), trivial⟩ ⟨nb_blind, (kb_pre hK hG hP hD)⟩ rfl rfl hl.1 rfl (lv_room (Nat.le_of_ble_eq_true rfl)) dX3_endProc_114 ⟨Nat.le_refl _, Nat.le_refl _⟩) hA hP hD hS (fun H locs hP hD hS => ?_)
        refine hp_19_10n hx hb hts in_y_X3_endProc_X8 hown hK hP hD hS (va_Nw.use rfl (hG.1 _ (List.mem_of_getElem? (i := 28) rfl))) dX3_endProc_117 (fun H locs hP hD hS => ?_)
        exact ih.2.2.2.1 L (uI r2.2 1910 r2.1) r h H locs ls hP hD hS (lv_sub hl [0, 1, 2, 3] rfl)
      · intro L σ r h H locs ls hP hD hS hl
        rw [y_X3_endProc] at h
        refine lv_aload_n hx hb dX3_endProc_120 rfl (lv_at hl 0 rfl) ?_
        refine hg_18_7 hx hb hts in_y_X3_endProc_X3 hown hK hP (hts _ (List.mem_cons_of_mem _ (List.mem_append_left _ (List.mem_append_left _ (List.mem_of_getElem? (i := 6) rfl))))) dX3_endProc_121 ?_
        refine lv_iload_n hx hb dX3_endProc_124 rfl (lv_at hl 2 rfl) ?_
        refine lv_iload_n hx hb dX3_endProc_125 rfl (lv_at hl 1 rfl) ?_
        obtain ⟨q1, h⟩ := kb_ite1 h
        refine hs_20 hx hb hK hP hD hS q1 dX3_endProc_126 (fun H locs hP hD hS => ?_)
        refine lv_iconst (v := 1) hx hb dX3_endProc_127 (by decide) ?_
        refine lv_istore (lv' := [(4, .int 1), (0, .ref (a 18)), (1, .int (L.1 1)), (2, .int (L.1 2)), (3, .int (L.1 3))]) hx hb dX3_endProc_128 hl (by decide) rfl (fun ls hl => ?_)
        exact ih.2.2.2.2.1 (lI L 4 1) (uA σ 20 ((L.1 2)).toNatClampNeg ((L.1 1))) r h H locs ls hP hD hS (lv_sub hl [1, 3, 4, 0] rfl)
      · intro L σ r h H locs ls hP hD hS hl
        rw [y_X3_endProc] at h
        refine lv_iload hx hb dX3_endProc_130 (lv_at hl 3 rfl) ?_
        refine lv_iload_n hx hb dX3_endProc_132 rfl (lv_at hl 2 rfl) ?_
        refine lv_icmp_gt (tgt := 164) hx hb dX3_endProc_133 (by decide) (fun c1 => ?_) (fun c1 => ?_)
        · rw [if_pos c1] at h
          exact ih.2.2.2.2.2 L σ r h H locs ls hP hD hS (lv_sub hl [0, 1, 2] rfl)
        · rw [if_neg c1] at h
          refine lv_aload_n hx hb dX3_endProc_136 rfl (lv_at hl 0 rfl) ?_
          refine hg_18_7 hx hb hts in_y_X3_endProc_X3 hown hK hP (hts _ (List.mem_cons_of_mem _ (List.mem_append_left _ (List.mem_append_left _ (List.mem_of_getElem? (i := 6) rfl))))) dX3_endProc_137 ?_
          refine lv_iload_n hx hb dX3_endProc_140 rfl (lv_at hl 1 rfl) ?_
          refine lv_iload hx hb dX3_endProc_141 (lv_at hl 3 rfl) ?_
          refine lv_iadd hx hb dX3_endProc_143 ?_
          refine lv_aload_n hx hb dX3_endProc_144 rfl (lv_at hl 0 rfl) ?_
          refine hg_18_7 hx hb hts in_y_X3_endProc_X3 hown hK hP (hts _ (List.mem_cons_of_mem _ (List.mem_append_left _ (List.mem_append_left _ (List.mem_of_getElem? (i := 6) rfl))))) dX3_endProc_145 ?_
          refine lv_iload_n hx hb dX3_endProc_148 rfl (lv_at hl 1 rfl) ?_
          refine lv_iconst (v := 4) hx hb dX3_endProc_149 (by decide) ?_
          refine lv_iadd hx hb dX3_endProc_150 ?_
          refine lv_iconst (v := 1) hx hb dX3_endProc_151 (by decide) ?_
          refine lv_isub hx hb dX3_endProc_152 ?_
          refine lv_iload hx hb dX3_endProc_153 (lv_at hl 3 rfl) ?_
          refine lv_iadd hx hb dX3_endProc_155 ?_
          obtain ⟨q2, h⟩ := kb_ite1 h
          refine hl_20 hx hb hK hP q2 dX3_endProc_156 ?_
          obtain ⟨q3, h⟩ := kb_ite1 h
          refine hs_20 hx hb hK hP hD hS q3 dX3_endProc_157 (fun H locs hP hD hS => ?_)
          refine lv_iinc (v := ((L.1 4)) + 1) (lv' := [(4, .int (((L.1 4)) + 1)), (0, .ref (a 18)), (2, .int (L.1 2)), (3, .int (L.1 3))]) hx hb dX3_endProc_158 hl (k := 3) rfl rfl (by decide) rfl (fun ls hl => ?_)
          refine lv_goto (tgt := 130) hx hb dX3_endProc_161 (by decide) ?_
          exact ih.2.2.2.2.1 (lI L 4 ((((L.1 4)) + 1))) (uA σ 20 ((((L.1 2)) + ((L.1 4)))).toNatClampNeg ((σ.2.2.1 20 ((((((((L.1 2)) + 4)) - 1)) + ((L.1 4)))).toNatClampNeg))) r h H locs ls hP hD hS (lv_sub hl [1, 2, 3, 0] rfl)
      · intro L σ r h H locs ls hP hD hS hl
        rw [y_X3_endProc] at h
        refine lv_aload_n hx hb dX3_endProc_164 rfl (lv_at hl 0 rfl) ?_
        refine hg_18_5 hx hb hts in_y_X3_endProc_X3 hown hK hP (hts _ (List.mem_cons_of_mem _ (List.mem_append_left _ (List.mem_append_left _ (List.mem_of_getElem? (i := 4) rfl))))) dX3_endProc_165 ?_
        refine lv_iload_n hx hb dX3_endProc_168 rfl (lv_at hl 1 rfl) ?_
        refine lv_iconst (v := 1) hx hb dX3_endProc_169 (by decide) ?_
        refine lv_iadd hx hb dX3_endProc_170 ?_
        refine lv_iload_n hx hb dX3_endProc_171 rfl (lv_at hl 2 rfl) ?_
        refine lv_iadd hx hb dX3_endProc_172 ?_
        refine hp_19_2n hx hb hts in_y_X3_endProc_X8 hown hK hP hD hS (va_Nw.use rfl (hG.1 _ (List.mem_of_getElem? (i := 10) rfl))) dX3_endProc_173 (fun H locs hP hD hS => ?_)
        obtain rfl := Option.some.inj h
        exact W.vret hx hb hr (fun t ht hW => ⟨⟨(), rfl, trivial, by rw [ht]; exact hP, va_K.moved hW.alike hK, hD⟩, hS.F ht⟩) hS.2.2 dX3_endProc_176
  exact (blk k0).1 L0 σ0 r0 h0 s.heap [] ls hP hD hS hl
/-! X3_countOut -/
def y_X3_countOut : Nat → Nat → LV → CS → Option (Int32 × CS)
  | 0, _, _, _ => none
  | k + 1, 0, L, σ => some (0, (uI σ 1915 ((if (2000000000 : Int32) < ((((σ.1 1915)) + ((L.1 1)))) then (2000000000 : Int32) else ((((σ.1 1915)) + ((L.1 1))))))))
  | _ + 1, _ + 1, _, _ => none
def o_y_X3_countOut : List Cond := [.fieldLink RX3 14 "SetHouse$Machine" "run" "LSetHouse$Run;", .constant RX3 430 (2000000000), .methodLink RX3 418 Lib.Math.min.name, .static Lib.Math.min.name, .initialized "java/lang/Math", .code Lib.Math.min.name Lib.Math.min.code 2 (some .int)]
theorem o_y_X3_countOut_good : o_y_X3_countOut.all goodWord = true := by decide +kernel
def p_y_X3_countOut : List Cond := o_y_X3_countOut ++ []
theorem p_y_X3_countOut_good : p_y_X3_countOut.all goodWord = true := nb_all2 o_y_X3_countOut_good rfl
def w_y_X3_countOut : List Cond := .code yX3_countOut cX3_countOut 2 none :: (p_y_X3_countOut ++ fC)
theorem w_y_X3_countOut_good : w_y_X3_countOut.all goodWord = true := nb_allc (by decide +kernel) (nb_all2 p_y_X3_countOut_good fC_good)
theorem in_y_X3_countOut_X3 : ∀ w ∈ wsX30, w ∈ w_y_X3_countOut := fun _ h => List.mem_cons_of_mem _ (List.mem_append_right _ (List.mem_append_right _ (List.mem_append_right _ (List.mem_append_right _ (List.mem_append_left _ h)))))
theorem in_y_X3_countOut_X8 : ∀ w ∈ wsX80, w ∈ w_y_X3_countOut := fun _ h => List.mem_cons_of_mem _ (List.mem_append_right _ (List.mem_append_right _ (List.mem_append_right _ (List.mem_append_right _ (List.mem_append_right _ (List.mem_append_right _ (List.mem_append_right _ (List.mem_append_right _ (List.mem_append_left _ h)))))))))
theorem hd_y_X3_countOut : yX3_countOut.cls = RX3 ∧ yX3_countOut.cls ≠ "java/lang/invoke/MethodHandle" ∧ yX3_countOut.cls ≠ "java/lang/invoke/VarHandle" ∧ (parseMethodDescriptor yX3_countOut.desc).map (fun d => d.parameters.length) = some 1 := by decide +kernel
set_option maxHeartbeats 40000000 in
set_option maxRecDepth 100000 in
theorem c_y_X3_countOut (l : Launch) (dC : Nat → ClassId) (dI : Nat → Nat → Nat) (cy : Nat → ClassId) (a z : Nat → Nat) (k0 : Nat) (L0 : LV) (σ0 : CS) (r0 : Int32 × CS) (h0 : y_X3_countOut k0 0 L0 σ0 = some r0) (sz : Nat) : Met l yX3_countOut w_y_X3_countOut ({ frames := 1, cells := 0, slots := 0, locals := 21 }) (va_Pc [.ref (a 18), .int (L0.1 1)] (nIn (dC, dI) cy sz (vC cy a z σ0))) (va_Qv (fun _ : Unit => True) (fun _ t => nOut (dC, dI) cy (va_A (vC cy a z σ0) sz) (vC cy a z r0.2) t) (va_A (vC cy a z σ0) sz)) 0 0 (va_A (vC cy a z σ0) sz) := by
  refine Met.ofW (cc := cX3_countOut) (maxL := 2) (ret := none) (by decide) rfl ?_
  intro p e s m args below meth c s₁ B hml hv
  obtain ⟨rfl, hsz, hP, hK, hD0, hG⟩ := hv
  have hx := B.exec
  have hb := B.bytes
  have hr := B.returns
  have hts := atoms_spec (ws := w_y_X3_countOut) B.pre
  have hown : s.vm.findClass RX3 = some m.cls := findClass_of_methodNamed B.named
  have hlocks := B.notSynchronized
  subst hsz
  have hD := hD0.self (sz := s.heap.size)
  generalize hAe : va_A (vC cy a z σ0) s.heap.size = A at hD ⊢
  have hA : ∀ q : Nat, s.heap.size ≤ q → A q := fun q h => by rw [← hAe]; exact Or.inr h
  have hS : va_S A s.heap s.heap [] := va_S.rf
  have hl := lv_entry ([.ref (a 18), .int (L0.1 1)]) (n := 2) (Nat.le_of_ble_eq_true rfl)
  rw [lg_entry_eq]
  generalize (lg_sl ([.ref (a 18), .int (L0.1 1)]) ++ List.replicate (2 - (lg_sl ([.ref (a 18), .int (L0.1 1)])).length) Slot.unset).toArray = ls at hl ⊢
  have hl : lv_has ls 2 [(0, .ref (a 18)), (1, .int (L0.1 1))] := hl
  have blk : ∀ k : Nat, (bC p l e (headSpec w_y_X3_countOut ({ frames := 1, cells := 0, slots := 0, locals := 21 })).room s m #[.ref (a 18), .int (L0.1 1)] below meth c dC dI cy a z A (kV dC dI cy a z A below #[.ref (a 18), .int (L0.1 1)] s) 2 (y_X3_countOut k 0) (fun L => [(0, .ref (a 18)), (1, .int (L.1 1))]) 0 (fun L => [])) := by
    intro k
    induction k with
    | zero => exact fun L σ r h => (by cases h)
    | succ k ih =>
      skip
      · intro L σ r h H locs ls hP hD hS hl
        rw [y_X3_countOut] at h
        refine lv_aload_n hx hb dX3_countOut_0 rfl (lv_at hl 0 rfl) ?_
        refine hg_18_5 hx hb hts in_y_X3_countOut_X3 hown hK hP (hts _ (List.mem_cons_of_mem _ (List.mem_append_left _ (List.mem_append_left _ (List.mem_of_getElem? (i := 0) rfl))))) dX3_countOut_1 ?_
        refine lv_aload_n hx hb dX3_countOut_4 rfl (lv_at hl 0 rfl) ?_
        refine hg_18_5 hx hb hts in_y_X3_countOut_X3 hown hK hP (hts _ (List.mem_cons_of_mem _ (List.mem_append_left _ (List.mem_append_left _ (List.mem_of_getElem? (i := 0) rfl))))) dX3_countOut_5 ?_
        refine hg_19_15n hx hb hts in_y_X3_countOut_X8 hown hK hP (va_Nw.use rfl (hG.1 _ (List.mem_of_getElem? (i := 38) rfl))) dX3_countOut_8 ?_
        refine lv_iload_n hx hb dX3_countOut_11 rfl (lv_at hl 1 rfl) ?_
        refine lv_iadd hx hb dX3_countOut_12 ?_
        refine lv_ldcw (v := 2000000000) hx hb hown (hts _ (List.mem_cons_of_mem _ (List.mem_append_left _ (List.mem_append_left _ (List.mem_of_getElem? (i := 1) rfl))))) dX3_countOut_13 ?_
        refine va_mmin (x := ((((σ.1 1915)) + ((L.1 1))))) (y := (2000000000 : Int32)) hx hb (hml.trans hl.1.symm) hown (hts _ (List.mem_cons_of_mem _ (List.mem_append_left _ (List.mem_append_left _ (List.mem_of_getElem? (i := 2) rfl))))) (hts _ (List.mem_cons_of_mem _ (List.mem_append_left _ (List.mem_append_left _ (List.mem_of_getElem? (i := 3) rfl))))) (hts _ (List.mem_cons_of_mem _ (List.mem_append_left _ (List.mem_append_left _ (List.mem_of_getElem? (i := 4) rfl))))) (hts _ (List.mem_cons_of_mem _ (List.mem_append_left _ (List.mem_append_left _ (List.mem_of_getElem? (i := 5) rfl))))) (Nat.le_of_ble_eq_true rfl) (Nat.le_of_ble_eq_true rfl)  (Nat.zero_le _) (Nat.zero_le _) dX3_countOut_16 ?_
        refine hp_19_15n hx hb hts in_y_X3_countOut_X8 hown hK hP hD hS (va_Nw.use rfl (hG.1 _ (List.mem_of_getElem? (i := 38) rfl))) dX3_countOut_19 (fun H locs hP hD hS => ?_)
        obtain rfl := Option.some.inj h
        exact W.vret hx hb hr (fun t ht hW => ⟨⟨(), rfl, trivial, by rw [ht]; exact hP, va_K.moved hW.alike hK, hD⟩, hS.F ht⟩) hS.2.2 dX3_countOut_22
  exact (blk k0) L0 σ0 r0 h0 s.heap [] ls hP hD hS hl
/-! X3_nextDraw -/
def y_X3_nextDraw : Nat → Nat → LV → CS → Option (Int32 × CS)
  | 0, _, _, _ => none
  | k + 1, 0, L, σ => if ((L.1 1)) ≤ 0 then (y_X3_nextDraw k 1 L (uL σ 1916 ((((((σ.2.1 1916)) * 6364136223846793005)) + 1442695040888963407)))) else (if ((((L.1 1)).toInt64)) = 0 then none else (y_X3_nextDraw k 2 (lI L 100 ((((((((((uL σ 1916 ((((((σ.2.1 1916)) * 6364136223846793005)) + 1442695040888963407))).2.1 1916)).toUInt64 >>> ((33 : Int32).toInt64.toUInt64 &&& Int64.toUInt64 63)).toInt64)) - ((((((uL σ 1916 ((((((σ.2.1 1916)) * 6364136223846793005)) + 1442695040888963407))).2.1 1916)).toUInt64 >>> ((33 : Int32).toInt64.toUInt64 &&& Int64.toUInt64 63)).toInt64)) / ((((L.1 1)).toInt64)) * ((((L.1 1)).toInt64)))).toInt32))) (uL σ 1916 ((((((σ.2.1 1916)) * 6364136223846793005)) + 1442695040888963407)))))
  | k + 1, 1, L, σ => y_X3_nextDraw k 2 (lI L 100 0) σ
  | k + 1, 2, L, σ => some ((L.1 100), σ)
  | _ + 1, _ + 3, _, _ => none
def o_y_X3_nextDraw : List Cond := [.fieldLink RX3 14 "SetHouse$Machine" "run" "LSetHouse$Run;", .constantLong RX3 492 (6364136223846793005), .constantLong RX3 494 (1442695040888963407)]
theorem o_y_X3_nextDraw_good : o_y_X3_nextDraw.all goodWord = true := by decide +kernel
def p_y_X3_nextDraw : List Cond := o_y_X3_nextDraw ++ []
theorem p_y_X3_nextDraw_good : p_y_X3_nextDraw.all goodWord = true := nb_all2 o_y_X3_nextDraw_good rfl
def w_y_X3_nextDraw : List Cond := .code yX3_nextDraw cX3_nextDraw 2 (some .int) :: (p_y_X3_nextDraw ++ fC)
theorem w_y_X3_nextDraw_good : w_y_X3_nextDraw.all goodWord = true := nb_allc (by decide +kernel) (nb_all2 p_y_X3_nextDraw_good fC_good)
theorem in_y_X3_nextDraw_X3 : ∀ w ∈ wsX30, w ∈ w_y_X3_nextDraw := fun _ h => List.mem_cons_of_mem _ (List.mem_append_right _ (List.mem_append_right _ (List.mem_append_right _ (List.mem_append_right _ (List.mem_append_left _ h)))))
theorem in_y_X3_nextDraw_X8 : ∀ w ∈ wsX80, w ∈ w_y_X3_nextDraw := fun _ h => List.mem_cons_of_mem _ (List.mem_append_right _ (List.mem_append_right _ (List.mem_append_right _ (List.mem_append_right _ (List.mem_append_right _ (List.mem_append_right _ (List.mem_append_right _ (List.mem_append_right _ (List.mem_append_left _ h)))))))))
theorem hd_y_X3_nextDraw : yX3_nextDraw.cls = RX3 ∧ yX3_nextDraw.cls ≠ "java/lang/invoke/MethodHandle" ∧ yX3_nextDraw.cls ≠ "java/lang/invoke/VarHandle" ∧ (parseMethodDescriptor yX3_nextDraw.desc).map (fun d => d.parameters.length) = some 1 := by decide +kernel
set_option maxHeartbeats 40000000 in
set_option maxRecDepth 100000 in
theorem c_y_X3_nextDraw (l : Launch) (dC : Nat → ClassId) (dI : Nat → Nat → Nat) (cy : Nat → ClassId) (a z : Nat → Nat) (k0 : Nat) (L0 : LV) (σ0 : CS) (r0 : Int32 × CS) (h0 : y_X3_nextDraw k0 0 L0 σ0 = some r0) (sz : Nat) : Met l yX3_nextDraw w_y_X3_nextDraw ({ frames := 0, cells := 0, slots := 0, locals := 0 }) (va_Pc [.ref (a 18), .int (L0.1 1)] (nIn (dC, dI) cy sz (vC cy a z σ0))) (va_Qi (fun (x : Int32) (_ : Unit) => x = r0.1) (fun _ t => nOut (dC, dI) cy (va_A (vC cy a z σ0) sz) (vC cy a z r0.2) t) (va_A (vC cy a z σ0) sz)) 0 0 (va_A (vC cy a z σ0) sz) := by
  refine Met.ofW (cc := cX3_nextDraw) (maxL := 2) (ret := (some .int)) (by decide) rfl ?_
  intro p e s m args below meth c s₁ B hml hv
  obtain ⟨rfl, hsz, hP, hK, hD0, hG⟩ := hv
  have hx := B.exec
  have hb := B.bytes
  have hr := B.returns
  have hts := atoms_spec (ws := w_y_X3_nextDraw) B.pre
  have hown : s.vm.findClass RX3 = some m.cls := findClass_of_methodNamed B.named
  have hlocks := B.notSynchronized
  subst hsz
  have hD := hD0.self (sz := s.heap.size)
  generalize hAe : va_A (vC cy a z σ0) s.heap.size = A at hD ⊢
  have hA : ∀ q : Nat, s.heap.size ≤ q → A q := fun q h => by rw [← hAe]; exact Or.inr h
  have hS : va_S A s.heap s.heap [] := va_S.rf
  have hl := lv_entry ([.ref (a 18), .int (L0.1 1)]) (n := 2) (Nat.le_of_ble_eq_true rfl)
  rw [lg_entry_eq]
  generalize (lg_sl ([.ref (a 18), .int (L0.1 1)]) ++ List.replicate (2 - (lg_sl ([.ref (a 18), .int (L0.1 1)])).length) Slot.unset).toArray = ls at hl ⊢
  have hl : lv_has ls 2 [(0, .ref (a 18)), (1, .int (L0.1 1))] := hl
  have blk : ∀ k : Nat, (bC p l e (headSpec w_y_X3_nextDraw ({ frames := 0, cells := 0, slots := 0, locals := 0 })).room s m #[.ref (a 18), .int (L0.1 1)] below meth c dC dI cy a z A (kI dC dI cy a z A below #[.ref (a 18), .int (L0.1 1)] s) 2 (y_X3_nextDraw k 0) (fun L => [(0, .ref (a 18)), (1, .int (L.1 1))]) 0 (fun L => [])) ∧ (bC p l e (headSpec w_y_X3_nextDraw ({ frames := 0, cells := 0, slots := 0, locals := 0 })).room s m #[.ref (a 18), .int (L0.1 1)] below meth c dC dI cy a z A (kI dC dI cy a z A below #[.ref (a 18), .int (L0.1 1)] s) 2 (y_X3_nextDraw k 1) (fun L => []) 43 (fun L => [])) ∧ (bC p l e (headSpec w_y_X3_nextDraw ({ frames := 0, cells := 0, slots := 0, locals := 0 })).room s m #[.ref (a 18), .int (L0.1 1)] below meth c dC dI cy a z A (kI dC dI cy a z A below #[.ref (a 18), .int (L0.1 1)] s) 2 (y_X3_nextDraw k 2) (fun L => []) 44 (fun L => [.int (L.1 100)])) := by
    intro k
    induction k with
    | zero => exact ⟨fun L σ r h => (by cases h), fun L σ r h => (by cases h), fun L σ r h => (by cases h)⟩
    | succ k ih =>
      refine ⟨?_, ?_, ?_⟩
      · intro L σ r h H locs ls hP hD hS hl
        rw [y_X3_nextDraw] at h
        refine lv_aload_n hx hb dX3_nextDraw_0 rfl (lv_at hl 0 rfl) ?_
        refine hg_18_5 hx hb hts in_y_X3_nextDraw_X3 hown hK hP (hts _ (List.mem_cons_of_mem _ (List.mem_append_left _ (List.mem_append_left _ (List.mem_of_getElem? (i := 0) rfl))))) dX3_nextDraw_1 ?_
        refine lv_aload_n hx hb dX3_nextDraw_4 rfl (lv_at hl 0 rfl) ?_
        refine hg_18_5 hx hb hts in_y_X3_nextDraw_X3 hown hK hP (hts _ (List.mem_cons_of_mem _ (List.mem_append_left _ (List.mem_append_left _ (List.mem_of_getElem? (i := 0) rfl))))) dX3_nextDraw_5 ?_
        refine hg_19_16n hx hb hts in_y_X3_nextDraw_X8 hown hK hP (va_Nw.use rfl (hG.1 _ (List.mem_of_getElem? (i := 40) rfl))) dX3_nextDraw_8 ?_
        refine lv_ldc2 (v := 6364136223846793005) hx hb hown (hts _ (List.mem_cons_of_mem _ (List.mem_append_left _ (List.mem_append_left _ (List.mem_of_getElem? (i := 1) rfl))))) dX3_nextDraw_11 ?_
        refine lv_lmul hx hb dX3_nextDraw_14 ?_
        refine lv_ldc2 (v := 1442695040888963407) hx hb hown (hts _ (List.mem_cons_of_mem _ (List.mem_append_left _ (List.mem_append_left _ (List.mem_of_getElem? (i := 2) rfl))))) dX3_nextDraw_15 ?_
        refine lv_ladd hx hb dX3_nextDraw_18 ?_
        refine hp_19_16n hx hb hts in_y_X3_nextDraw_X8 hown hK hP hD hS (va_Nw.use rfl (hG.1 _ (List.mem_of_getElem? (i := 40) rfl))) dX3_nextDraw_19 (fun H locs hP hD hS => ?_)
        refine lv_iload_n hx hb dX3_nextDraw_22 rfl (lv_at hl 1 rfl) ?_
        refine lv_if_le (tgt := 43) hx hb dX3_nextDraw_23 (by decide) (fun c1 => ?_) (fun c1 => ?_)
        · rw [if_pos c1] at h
          exact ih.2.1 L (uL σ 1916 ((((((σ.2.1 1916)) * 6364136223846793005)) + 1442695040888963407))) r h H locs ls hP hD hS (lv_sub hl [] rfl)
        · rw [if_neg c1] at h
          refine lv_aload_n hx hb dX3_nextDraw_26 rfl (lv_at hl 0 rfl) ?_
          refine hg_18_5 hx hb hts in_y_X3_nextDraw_X3 hown hK hP (hts _ (List.mem_cons_of_mem _ (List.mem_append_left _ (List.mem_append_left _ (List.mem_of_getElem? (i := 0) rfl))))) dX3_nextDraw_27 ?_
          refine hg_19_16n hx hb hts in_y_X3_nextDraw_X8 hown hK hP (va_Nw.use rfl (hG.1 _ (List.mem_of_getElem? (i := 40) rfl))) dX3_nextDraw_30 ?_
          refine lv_bipush (v := 33) hx hb dX3_nextDraw_33 (by decide) ?_
          refine lv_lushr (v := ((((uL σ 1916 ((((((σ.2.1 1916)) * 6364136223846793005)) + 1442695040888963407))).2.1 1916)).toUInt64 >>> ((33 : Int32).toInt64.toUInt64 &&& Int64.toUInt64 63)).toInt64) hx hb dX3_nextDraw_35 rfl ?_
          refine lv_iload_n hx hb dX3_nextDraw_36 rfl (lv_at hl 1 rfl) ?_
          refine lv_i2l (v := ((L.1 1)).toInt64) hx hb dX3_nextDraw_37 rfl ?_
          obtain ⟨q2, h⟩ := kb_ite0 h
          refine lv_lrem hx hb dX3_nextDraw_38 q2 ?_
          refine lv_l2i (v := ((((((((uL σ 1916 ((((((σ.2.1 1916)) * 6364136223846793005)) + 1442695040888963407))).2.1 1916)).toUInt64 >>> ((33 : Int32).toInt64.toUInt64 &&& Int64.toUInt64 63)).toInt64)) - ((((((uL σ 1916 ((((((σ.2.1 1916)) * 6364136223846793005)) + 1442695040888963407))).2.1 1916)).toUInt64 >>> ((33 : Int32).toInt64.toUInt64 &&& Int64.toUInt64 63)).toInt64)) / ((((L.1 1)).toInt64)) * ((((L.1 1)).toInt64)))).toInt32) hx hb dX3_nextDraw_39 rfl ?_
          refine lv_goto (tgt := 44) hx hb dX3_nextDraw_40 (by decide) ?_
          exact ih.2.2 (lI L 100 ((((((((((uL σ 1916 ((((((σ.2.1 1916)) * 6364136223846793005)) + 1442695040888963407))).2.1 1916)).toUInt64 >>> ((33 : Int32).toInt64.toUInt64 &&& Int64.toUInt64 63)).toInt64)) - ((((((uL σ 1916 ((((((σ.2.1 1916)) * 6364136223846793005)) + 1442695040888963407))).2.1 1916)).toUInt64 >>> ((33 : Int32).toInt64.toUInt64 &&& Int64.toUInt64 63)).toInt64)) / ((((L.1 1)).toInt64)) * ((((L.1 1)).toInt64)))).toInt32))) (uL σ 1916 ((((((σ.2.1 1916)) * 6364136223846793005)) + 1442695040888963407))) r h H locs ls hP hD hS (lv_sub hl [] rfl)
      · intro L σ r h H locs ls hP hD hS hl
        rw [y_X3_nextDraw] at h
        refine lv_iconst (v := 0) hx hb dX3_nextDraw_43 (by decide) ?_
        exact ih.2.2 (lI L 100 0) σ r h H locs ls hP hD hS (lv_sub hl [] rfl)
      · intro L σ r h H locs ls hP hD hS hl
        rw [y_X3_nextDraw] at h
        obtain rfl := Option.some.inj h
        exact W.iret (v := (L.1 100)) hx hb hr (fun t ht hW => ⟨⟨(L.1 100), (), rfl, rfl, by rw [ht]; exact hP, va_K.moved hW.alike hK, hD⟩, hS.F ht⟩) hS.2.2 dX3_nextDraw_44
  exact (blk k0).1 L0 σ0 r0 h0 s.heap [] ls hP hD hS hl
/-! X3_drawn -/
def y_X3_drawn : Nat → Nat → LV → CS → Option (Int32 × CS)
  | 0, _, _, _ => none
  | k + 1, 0, L, σ => oc (y_X1_kind k 0 (lI lZ 1 ((L.1 1))) σ) (fun r1 => if r1.1 < 4 then (y_X3_drawn k 1 (lI L 2 r1.1) r1.2) else (oc (y_X1_length k 0 (lI lZ 1 ((L.1 1))) r1.2) (fun r3 => if r3.1 = 0 then (y_X3_drawn k 3 (lI L 100 ((-2147483648))) r3.2) else (y_X3_drawn k 2 (lI L 3 r3.1) r3.2))))
  | k + 1, 1, L, σ => if ((L.1 2)) = 2 then (y_X3_drawn k 4 L σ) else (some ((-268435455), σ))
  | k + 1, 2, L, σ => oc (y_X3_nextDraw k 0 (lI lZ 1 ((L.1 3))) σ) (fun r1 => oc (y_X1_taken k 0 (lI (lI lZ 1 ((L.1 1))) 2 r1.1) r1.2) (fun r2 => y_X3_drawn k 3 (lI L 100 r2.1) r2.2))
  | k + 1, 3, L, σ => some ((L.1 100), σ)
  | k + 1, 4, L, σ => if 0 ≤ ((L.1 1)) then (y_X3_drawn k 5 L σ) else (oc (y_X10_number k 0 (lI lZ 0 ((L.1 1))) σ) (fun r2 => y_X3_drawn k 6 (lI L 100 r2.1) r2.2))
  | k + 1, 5, L, σ => oc (y_X1_length k 0 (lI lZ 1 ((L.1 1))) σ) (fun r1 => if r1.1 = 1 then (if ¬ (((((L.1 1)) + 1)) < 0 ∨ (sN r1.2 3) ≤ ((((L.1 1)) + 1)).toNatClampNeg) then (y_X3_drawn k 6 (lI L 100 ((r1.2.2.2.1 3 ((((L.1 1)) + 1)).toNatClampNeg))) r1.2) else none) else (y_X3_drawn k 7 L r1.2))
  | k + 1, 6, L, σ => if ((L.1 100)) < 1 then (y_X3_drawn k 8 L σ) else (oc (y_X10_isBelow k 0 (lI lZ 1 ((L.1 1))) σ) (fun r2 => if r2.1 = 0 then (y_X3_drawn k 9 (lI L 3 ((L.1 100))) r2.2) else (y_X3_drawn k 8 L r2.2)))
  | k + 1, 7, L, σ => y_X3_drawn k 6 (lI L 100 0) σ
  | k + 1, 8, L, σ => some ((-268435452), σ)
  | k + 1, 9, L, σ => oc (y_X3_nextDraw k 0 (lI lZ 1 ((L.1 3))) σ) (fun r1 => oc (y_X10_of k 0 (lJ lZ 1 ((1 + ((r1.1.toInt64))))) r1.2) (fun r2 => some (r2.1, r2.2)))
  | _ + 1, _ + 10, _, _ => none
def o_y_X3_drawn : List Cond := [.fieldLink RX3 39 "SetHouse$Machine" "heap" "LSetHouse$Heap;", .methodLink RX3 396 yX1_kind, .instanceMethod yX1_kind, .selects RX1 yX1_kind yX1_kind, .initialized RX1, .methodLink RX3 399 yX1_length, .instanceMethod yX1_length, .selects RX1 yX1_length yX1_length, .constant RX3 136 (-2147483648), .constant RX3 445 (-268435455), .methodLink RX3 470 yX3_nextDraw, .instanceMethod yX3_nextDraw, .selects RX3 yX3_nextDraw yX3_nextDraw, .initialized RX3, .methodLink RX3 473 yX1_taken, .instanceMethod yX1_taken, .selects RX1 yX1_taken yX1_taken, .methodLink RX3 476 yX10_number, .static yX10_number, .initialized RX10, .fieldLink RX3 43 "SetHouse$Machine" "wholes" "LSetHouse$Wholes;", .methodLink RX3 484 yX10_isBelow, .instanceMethod yX10_isBelow, .selects RX10 yX10_isBelow yX10_isBelow, .constant RX3 487 (-268435452), .methodLink RX3 488 yX10_of, .instanceMethod yX10_of, .selects RX10 yX10_of yX10_of]
theorem o_y_X3_drawn_good : o_y_X3_drawn.all goodWord = true := by decide +kernel
def p_y_X3_drawn : List Cond := o_y_X3_drawn ++ ((.code yX1_kind cX1_kind 2 (some .int) :: p_y_X1_kind) ++ ((.code yX1_length cX1_length 2 (some .int) :: p_y_X1_length) ++ ((.code yX3_nextDraw cX3_nextDraw 2 (some .int) :: p_y_X3_nextDraw) ++ ((.code yX1_taken cX1_taken 3 (some .int) :: p_y_X1_taken) ++ ((.code yX10_number cX10_number 1 (some .int) :: p_y_X10_number) ++ ((.code yX10_isBelow cX10_isBelow 2 (some .boolean) :: p_y_X10_isBelow) ++ ((.code yX10_of cX10_of 5 (some .int) :: p_y_X10_of) ++ [])))))))
theorem p_y_X3_drawn_good : p_y_X3_drawn.all goodWord = true := nb_all2 o_y_X3_drawn_good (nb_all2 (nb_allc (by decide +kernel) p_y_X1_kind_good) (nb_all2 (nb_allc (by decide +kernel) p_y_X1_length_good) (nb_all2 (nb_allc (by decide +kernel) p_y_X3_nextDraw_good) (nb_all2 (nb_allc (by decide +kernel) p_y_X1_taken_good) (nb_all2 (nb_allc (by decide +kernel) p_y_X10_number_good) (nb_all2 (nb_allc (by decide +kernel) p_y_X10_isBelow_good) (nb_all2 (nb_allc (by decide +kernel) p_y_X10_of_good) rfl)))))))
def w_y_X3_drawn : List Cond := .code yX3_drawn cX3_drawn 4 (some .int) :: (p_y_X3_drawn ++ fC)
theorem w_y_X3_drawn_good : w_y_X3_drawn.all goodWord = true := nb_allc (by decide +kernel) (nb_all2 p_y_X3_drawn_good fC_good)
theorem in_y_X3_drawn_X1 : ∀ w ∈ wsX10, w ∈ w_y_X3_drawn := fun _ h => List.mem_cons_of_mem _ (List.mem_append_right _ (List.mem_append_right _ (List.mem_append_left _ h)))
theorem in_y_X3_drawn_X3 : ∀ w ∈ wsX30, w ∈ w_y_X3_drawn := fun _ h => List.mem_cons_of_mem _ (List.mem_append_right _ (List.mem_append_right _ (List.mem_append_right _ (List.mem_append_right _ (List.mem_append_left _ h)))))
theorem hd_y_X3_drawn : yX3_drawn.cls = RX3 ∧ yX3_drawn.cls ≠ "java/lang/invoke/MethodHandle" ∧ yX3_drawn.cls ≠ "java/lang/invoke/VarHandle" ∧ (parseMethodDescriptor yX3_drawn.desc).map (fun d => d.parameters.length) = some 1 := by decide +kernel
theorem gg_y_X3_drawn_X10_isBelow : GoodIn w_y_X3_drawn w_y_X10_isBelow := goodIn_sub (fun w h => (List.mem_cons.mp h).elim (fun e => (List.mem_cons_of_mem _ (List.mem_append_left _ (List.mem_append_right _ (List.mem_append_right _ (List.mem_append_right _ (List.mem_append_right _ (List.mem_append_right _ (List.mem_append_right _ (List.mem_append_left _ (List.mem_cons.mpr (Or.inl e)))))))))))) (fun h => (List.mem_append.mp h).elim (fun h => (List.mem_cons_of_mem _ (List.mem_append_left _ (List.mem_append_right _ (List.mem_append_right _ (List.mem_append_right _ (List.mem_append_right _ (List.mem_append_right _ (List.mem_append_right _ (List.mem_append_left _ (List.mem_cons_of_mem _ h))))))))))) (fun h => List.mem_cons_of_mem _ (List.mem_append_right _ h)))) w_y_X10_isBelow_good
theorem g_y_X3_drawn_X10_isBelow_V484 : GoodIn w_y_X3_drawn (wsV RX3 484 RX10 yX10_isBelow w_y_X10_isBelow) := goodIn_app (nb_g4 (List.mem_cons_of_mem _ (List.mem_append_left _ (List.mem_append_left _ (List.mem_of_getElem? (i := 21) rfl)))) (List.mem_cons_of_mem _ (List.mem_append_left _ (List.mem_append_left _ (List.mem_of_getElem? (i := 22) rfl)))) (List.mem_cons_of_mem _ (List.mem_append_left _ (List.mem_append_left _ (List.mem_of_getElem? (i := 23) rfl)))) (List.mem_cons_of_mem _ (List.mem_append_left _ (List.mem_append_left _ (List.mem_of_getElem? (i := 19) rfl)))) (by decide +kernel)) gg_y_X3_drawn_X10_isBelow
theorem gg_y_X3_drawn_X10_number : GoodIn w_y_X3_drawn w_y_X10_number := goodIn_sub (fun w h => (List.mem_cons.mp h).elim (fun e => (List.mem_cons_of_mem _ (List.mem_append_left _ (List.mem_append_right _ (List.mem_append_right _ (List.mem_append_right _ (List.mem_append_right _ (List.mem_append_right _ (List.mem_append_left _ (List.mem_cons.mpr (Or.inl e))))))))))) (fun h => (List.mem_append.mp h).elim (fun h => (List.mem_cons_of_mem _ (List.mem_append_left _ (List.mem_append_right _ (List.mem_append_right _ (List.mem_append_right _ (List.mem_append_right _ (List.mem_append_right _ (List.mem_append_left _ (List.mem_cons_of_mem _ h)))))))))) (fun h => List.mem_cons_of_mem _ (List.mem_append_right _ h)))) w_y_X10_number_good
theorem g_y_X3_drawn_X10_number_S476 : GoodIn w_y_X3_drawn (va_wsS RX3 476 yX10_number w_y_X10_number) := goodIn_app (nb_g3 (List.mem_cons_of_mem _ (List.mem_append_left _ (List.mem_append_left _ (List.mem_of_getElem? (i := 17) rfl)))) (List.mem_cons_of_mem _ (List.mem_append_left _ (List.mem_append_left _ (List.mem_of_getElem? (i := 18) rfl)))) (List.mem_cons_of_mem _ (List.mem_append_left _ (List.mem_append_left _ (List.mem_of_getElem? (i := 19) rfl)))) (by decide +kernel)) gg_y_X3_drawn_X10_number
theorem gg_y_X3_drawn_X10_of : GoodIn w_y_X3_drawn w_y_X10_of := goodIn_sub (fun w h => (List.mem_cons.mp h).elim (fun e => (List.mem_cons_of_mem _ (List.mem_append_left _ (List.mem_append_right _ (List.mem_append_right _ (List.mem_append_right _ (List.mem_append_right _ (List.mem_append_right _ (List.mem_append_right _ (List.mem_append_right _ (List.mem_append_left _ (List.mem_cons.mpr (Or.inl e))))))))))))) (fun h => (List.mem_append.mp h).elim (fun h => (List.mem_cons_of_mem _ (List.mem_append_left _ (List.mem_append_right _ (List.mem_append_right _ (List.mem_append_right _ (List.mem_append_right _ (List.mem_append_right _ (List.mem_append_right _ (List.mem_append_right _ (List.mem_append_left _ (List.mem_cons_of_mem _ h)))))))))))) (fun h => List.mem_cons_of_mem _ (List.mem_append_right _ h)))) w_y_X10_of_good
theorem g_y_X3_drawn_X10_of_V488 : GoodIn w_y_X3_drawn (wsV RX3 488 RX10 yX10_of w_y_X10_of) := goodIn_app (nb_g4 (List.mem_cons_of_mem _ (List.mem_append_left _ (List.mem_append_left _ (List.mem_of_getElem? (i := 25) rfl)))) (List.mem_cons_of_mem _ (List.mem_append_left _ (List.mem_append_left _ (List.mem_of_getElem? (i := 26) rfl)))) (List.mem_cons_of_mem _ (List.mem_append_left _ (List.mem_append_left _ (List.mem_of_getElem? (i := 27) rfl)))) (List.mem_cons_of_mem _ (List.mem_append_left _ (List.mem_append_left _ (List.mem_of_getElem? (i := 19) rfl)))) (by decide +kernel)) gg_y_X3_drawn_X10_of
theorem gg_y_X3_drawn_X1_kind : GoodIn w_y_X3_drawn w_y_X1_kind := goodIn_sub (fun w h => (List.mem_cons.mp h).elim (fun e => (List.mem_cons_of_mem _ (List.mem_append_left _ (List.mem_append_right _ (List.mem_append_left _ (List.mem_cons.mpr (Or.inl e))))))) (fun h => (List.mem_append.mp h).elim (fun h => (List.mem_cons_of_mem _ (List.mem_append_left _ (List.mem_append_right _ (List.mem_append_left _ (List.mem_cons_of_mem _ h)))))) (fun h => List.mem_cons_of_mem _ (List.mem_append_right _ h)))) w_y_X1_kind_good
theorem g_y_X3_drawn_X1_kind_V396 : GoodIn w_y_X3_drawn (wsV RX3 396 RX1 yX1_kind w_y_X1_kind) := goodIn_app (nb_g4 (List.mem_cons_of_mem _ (List.mem_append_left _ (List.mem_append_left _ (List.mem_of_getElem? (i := 1) rfl)))) (List.mem_cons_of_mem _ (List.mem_append_left _ (List.mem_append_left _ (List.mem_of_getElem? (i := 2) rfl)))) (List.mem_cons_of_mem _ (List.mem_append_left _ (List.mem_append_left _ (List.mem_of_getElem? (i := 3) rfl)))) (List.mem_cons_of_mem _ (List.mem_append_left _ (List.mem_append_left _ (List.mem_of_getElem? (i := 4) rfl)))) (by decide +kernel)) gg_y_X3_drawn_X1_kind
theorem gg_y_X3_drawn_X1_length : GoodIn w_y_X3_drawn w_y_X1_length := goodIn_sub (fun w h => (List.mem_cons.mp h).elim (fun e => (List.mem_cons_of_mem _ (List.mem_append_left _ (List.mem_append_right _ (List.mem_append_right _ (List.mem_append_left _ (List.mem_cons.mpr (Or.inl e)))))))) (fun h => (List.mem_append.mp h).elim (fun h => (List.mem_cons_of_mem _ (List.mem_append_left _ (List.mem_append_right _ (List.mem_append_right _ (List.mem_append_left _ (List.mem_cons_of_mem _ h))))))) (fun h => List.mem_cons_of_mem _ (List.mem_append_right _ h)))) w_y_X1_length_good
theorem g_y_X3_drawn_X1_length_V399 : GoodIn w_y_X3_drawn (wsV RX3 399 RX1 yX1_length w_y_X1_length) := goodIn_app (nb_g4 (List.mem_cons_of_mem _ (List.mem_append_left _ (List.mem_append_left _ (List.mem_of_getElem? (i := 5) rfl)))) (List.mem_cons_of_mem _ (List.mem_append_left _ (List.mem_append_left _ (List.mem_of_getElem? (i := 6) rfl)))) (List.mem_cons_of_mem _ (List.mem_append_left _ (List.mem_append_left _ (List.mem_of_getElem? (i := 7) rfl)))) (List.mem_cons_of_mem _ (List.mem_append_left _ (List.mem_append_left _ (List.mem_of_getElem? (i := 4) rfl)))) (by decide +kernel)) gg_y_X3_drawn_X1_length
theorem gg_y_X3_drawn_X1_taken : GoodIn w_y_X3_drawn w_y_X1_taken := goodIn_sub (fun w h => (List.mem_cons.mp h).elim (fun e => (List.mem_cons_of_mem _ (List.mem_append_left _ (List.mem_append_right _ (List.mem_append_right _ (List.mem_append_right _ (List.mem_append_right _ (List.mem_append_left _ (List.mem_cons.mpr (Or.inl e)))))))))) (fun h => (List.mem_append.mp h).elim (fun h => (List.mem_cons_of_mem _ (List.mem_append_left _ (List.mem_append_right _ (List.mem_append_right _ (List.mem_append_right _ (List.mem_append_right _ (List.mem_append_left _ (List.mem_cons_of_mem _ h))))))))) (fun h => List.mem_cons_of_mem _ (List.mem_append_right _ h)))) w_y_X1_taken_good
theorem g_y_X3_drawn_X1_taken_V473 : GoodIn w_y_X3_drawn (wsV RX3 473 RX1 yX1_taken w_y_X1_taken) := goodIn_app (nb_g4 (List.mem_cons_of_mem _ (List.mem_append_left _ (List.mem_append_left _ (List.mem_of_getElem? (i := 14) rfl)))) (List.mem_cons_of_mem _ (List.mem_append_left _ (List.mem_append_left _ (List.mem_of_getElem? (i := 15) rfl)))) (List.mem_cons_of_mem _ (List.mem_append_left _ (List.mem_append_left _ (List.mem_of_getElem? (i := 16) rfl)))) (List.mem_cons_of_mem _ (List.mem_append_left _ (List.mem_append_left _ (List.mem_of_getElem? (i := 4) rfl)))) (by decide +kernel)) gg_y_X3_drawn_X1_taken
theorem gg_y_X3_drawn_X3_nextDraw : GoodIn w_y_X3_drawn w_y_X3_nextDraw := goodIn_sub (fun w h => (List.mem_cons.mp h).elim (fun e => (List.mem_cons_of_mem _ (List.mem_append_left _ (List.mem_append_right _ (List.mem_append_right _ (List.mem_append_right _ (List.mem_append_left _ (List.mem_cons.mpr (Or.inl e))))))))) (fun h => (List.mem_append.mp h).elim (fun h => (List.mem_cons_of_mem _ (List.mem_append_left _ (List.mem_append_right _ (List.mem_append_right _ (List.mem_append_right _ (List.mem_append_left _ (List.mem_cons_of_mem _ h)))))))) (fun h => List.mem_cons_of_mem _ (List.mem_append_right _ h)))) w_y_X3_nextDraw_good
theorem g_y_X3_drawn_X3_nextDraw_V470 : GoodIn w_y_X3_drawn (wsV RX3 470 RX3 yX3_nextDraw w_y_X3_nextDraw) := goodIn_app (nb_g4 (List.mem_cons_of_mem _ (List.mem_append_left _ (List.mem_append_left _ (List.mem_of_getElem? (i := 10) rfl)))) (List.mem_cons_of_mem _ (List.mem_append_left _ (List.mem_append_left _ (List.mem_of_getElem? (i := 11) rfl)))) (List.mem_cons_of_mem _ (List.mem_append_left _ (List.mem_append_left _ (List.mem_of_getElem? (i := 12) rfl)))) (List.mem_cons_of_mem _ (List.mem_append_left _ (List.mem_append_left _ (List.mem_of_getElem? (i := 13) rfl)))) (by decide +kernel)) gg_y_X3_drawn_X3_nextDraw
set_option maxHeartbeats 40000000 in
set_option maxRecDepth 100000 in
theorem c_y_X3_drawn (l : Launch) (dC : Nat → ClassId) (dI : Nat → Nat → Nat) (cy : Nat → ClassId) (a z : Nat → Nat) (k0 : Nat) (L0 : LV) (σ0 : CS) (r0 : Int32 × CS) (h0 : y_X3_drawn k0 0 L0 σ0 = some r0) (sz : Nat) : Met l yX3_drawn w_y_X3_drawn ({ frames := 3, cells := 0, slots := 0, locals := 108 }) (va_Pc [.ref (a 18), .int (L0.1 1)] (nIn (dC, dI) cy sz (vC cy a z σ0))) (va_Qi (fun (x : Int32) (_ : Unit) => x = r0.1) (fun _ t => nOut (dC, dI) cy (va_A (vC cy a z σ0) sz) (vC cy a z r0.2) t) (va_A (vC cy a z σ0) sz)) 0 0 (va_A (vC cy a z σ0) sz) := by
  refine Met.ofW (cc := cX3_drawn) (maxL := 4) (ret := (some .int)) (by decide) rfl ?_
  intro p e s m args below meth c s₁ B hml hv
  obtain ⟨rfl, hsz, hP, hK, hD0, hG⟩ := hv
  have hx := B.exec
  have hb := B.bytes
  have hr := B.returns
  have hts := atoms_spec (ws := w_y_X3_drawn) B.pre
  have hown : s.vm.findClass RX3 = some m.cls := findClass_of_methodNamed B.named
  have hlocks := B.notSynchronized
  subst hsz
  have hD := hD0.self (sz := s.heap.size)
  generalize hAe : va_A (vC cy a z σ0) s.heap.size = A at hD ⊢
  have hA : ∀ q : Nat, s.heap.size ≤ q → A q := fun q h => by rw [← hAe]; exact Or.inr h
  have hS : va_S A s.heap s.heap [] := va_S.rf
  have hl := lv_entry ([.ref (a 18), .int (L0.1 1)]) (n := 4) (Nat.le_of_ble_eq_true rfl)
  rw [lg_entry_eq]
  generalize (lg_sl ([.ref (a 18), .int (L0.1 1)]) ++ List.replicate (4 - (lg_sl ([.ref (a 18), .int (L0.1 1)])).length) Slot.unset).toArray = ls at hl ⊢
  have hl : lv_has ls 4 [(0, .ref (a 18)), (1, .int (L0.1 1))] := hl
  have blk : ∀ k : Nat, (bC p l e (headSpec w_y_X3_drawn ({ frames := 3, cells := 0, slots := 0, locals := 108 })).room s m #[.ref (a 18), .int (L0.1 1)] below meth c dC dI cy a z A (kI dC dI cy a z A below #[.ref (a 18), .int (L0.1 1)] s) 4 (y_X3_drawn k 0) (fun L => [(0, .ref (a 18)), (1, .int (L.1 1))]) 0 (fun L => [])) ∧ (bC p l e (headSpec w_y_X3_drawn ({ frames := 3, cells := 0, slots := 0, locals := 108 })).room s m #[.ref (a 18), .int (L0.1 1)] below meth c dC dI cy a z A (kI dC dI cy a z A below #[.ref (a 18), .int (L0.1 1)] s) 4 (y_X3_drawn k 1) (fun L => [(0, .ref (a 18)), (1, .int (L.1 1)), (2, .int (L.1 2))]) 46 (fun L => [])) ∧ (bC p l e (headSpec w_y_X3_drawn ({ frames := 3, cells := 0, slots := 0, locals := 108 })).room s m #[.ref (a 18), .int (L0.1 1)] below meth c dC dI cy a z A (kI dC dI cy a z A below #[.ref (a 18), .int (L0.1 1)] s) 4 (y_X3_drawn k 2) (fun L => [(0, .ref (a 18)), (1, .int (L.1 1)), (3, .int (L.1 3))]) 32 (fun L => [])) ∧ (bC p l e (headSpec w_y_X3_drawn ({ frames := 3, cells := 0, slots := 0, locals := 108 })).room s m #[.ref (a 18), .int (L0.1 1)] below meth c dC dI cy a z A (kI dC dI cy a z A below #[.ref (a 18), .int (L0.1 1)] s) 4 (y_X3_drawn k 3) (fun L => []) 45 (fun L => [.int (L.1 100)])) ∧ (bC p l e (headSpec w_y_X3_drawn ({ frames := 3, cells := 0, slots := 0, locals := 108 })).room s m #[.ref (a 18), .int (L0.1 1)] below meth c dC dI cy a z A (kI dC dI cy a z A below #[.ref (a 18), .int (L0.1 1)] s) 4 (y_X3_drawn k 4) (fun L => [(0, .ref (a 18)), (1, .int (L.1 1))]) 55 (fun L => [])) ∧ (bC p l e (headSpec w_y_X3_drawn ({ frames := 3, cells := 0, slots := 0, locals := 108 })).room s m #[.ref (a 18), .int (L0.1 1)] below meth c dC dI cy a z A (kI dC dI cy a z A below #[.ref (a 18), .int (L0.1 1)] s) 4 (y_X3_drawn k 5) (fun L => [(0, .ref (a 18)), (1, .int (L.1 1))]) 66 (fun L => [])) ∧ (bC p l e (headSpec w_y_X3_drawn ({ frames := 3, cells := 0, slots := 0, locals := 108 })).room s m #[.ref (a 18), .int (L0.1 1)] below meth c dC dI cy a z A (kI dC dI cy a z A below #[.ref (a 18), .int (L0.1 1)] s) 4 (y_X3_drawn k 6) (fun L => [(0, .ref (a 18)), (1, .int (L.1 1))]) 93 (fun L => [.int (L.1 100)])) ∧ (bC p l e (headSpec w_y_X3_drawn ({ frames := 3, cells := 0, slots := 0, locals := 108 })).room s m #[.ref (a 18), .int (L0.1 1)] below meth c dC dI cy a z A (kI dC dI cy a z A below #[.ref (a 18), .int (L0.1 1)] s) 4 (y_X3_drawn k 7) (fun L => [(0, .ref (a 18)), (1, .int (L.1 1))]) 92 (fun L => [])) ∧ (bC p l e (headSpec w_y_X3_drawn ({ frames := 3, cells := 0, slots := 0, locals := 108 })).room s m #[.ref (a 18), .int (L0.1 1)] below meth c dC dI cy a z A (kI dC dI cy a z A below #[.ref (a 18), .int (L0.1 1)] s) 4 (y_X3_drawn k 8) (fun L => []) 110 (fun L => [])) ∧ (bC p l e (headSpec w_y_X3_drawn ({ frames := 3, cells := 0, slots := 0, locals := 108 })).room s m #[.ref (a 18), .int (L0.1 1)] below meth c dC dI cy a z A (kI dC dI cy a z A below #[.ref (a 18), .int (L0.1 1)] s) 4 (y_X3_drawn k 9) (fun L => [(0, .ref (a 18)), (3, .int (L.1 3))]) 114 (fun L => [])) := by
    intro k
    induction k with
    | zero => exact ⟨fun L σ r h => (by cases h), fun L σ r h => (by cases h), fun L σ r h => (by cases h), fun L σ r h => (by cases h), fun L σ r h => (by cases h), fun L σ r h => (by cases h), fun L σ r h => (by cases h), fun L σ r h => (by cases h), fun L σ r h => (by cases h), fun L σ r h => (by cases h)⟩
    | succ k ih =>
      refine ⟨?_, ?_, ?_, ?_, ?_, ?_, ?_, ?_, ?_, ?_⟩
      · intro L σ r h H locs ls hP hD hS hl
        rw [y_X3_drawn] at h
        refine lv_aload_n hx hb dX3_drawn_0 rfl (lv_at hl 0 rfl) ?_
        refine hg_18_0 hx hb hts in_y_X3_drawn_X3 hown hK hP (hts _ (List.mem_cons_of_mem _ (List.mem_append_left _ (List.mem_append_left _ (List.mem_of_getElem? (i := 0) rfl))))) dX3_drawn_1 ?_
        refine lv_iload_n hx hb dX3_drawn_4 rfl (lv_at hl 1 rfl) ?_
        obtain ⟨r1, hc1, h⟩ := oc_ex h
        refine kc_i (va_runV (As := [.int (L.1 1)]) (rest := []) ⟨hx, hb, hml, hown, hts⟩ (c_y_X1_kind l dC dI cy a z k (lI lZ 1 ((L.1 1))) σ r1 hc1 H.size) (cwV 1 hts g_y_X3_drawn_X1_kind_V396 rfl rfl rfl hd_y_X1_kind ⟨Nat.le_of_ble_eq_true rfl, Nat.le_of_ble_eq_true rfl⟩) ⟨nb_blind, va_recv hK hP (ci := 1) (q0 := 0) rfl rfl, (kb_pre hK hG hP hD)⟩ rfl rfl hl.1 rfl (lv_room (Nat.le_of_ble_eq_true rfl)) dX3_drawn_5 ⟨Nat.le_refl _, Nat.le_refl _⟩) hA hP hD hS (fun H locs hP hD hS => ?_)
        refine lv_istore_n (lv' := [(2, .int r1.1), (0, .ref (a 18)), (1, .int (L.1 1))]) hx hb dX3_drawn_8 rfl hl (by decide) rfl (fun ls hl => ?_)
        refine lv_iload_n hx hb dX3_drawn_9 rfl (lv_at hl 0 rfl) ?_
        refine lv_iconst (v := 4) hx hb dX3_drawn_10 (by decide) ?_
        refine lv_icmp_lt (tgt := 46) hx hb dX3_drawn_11 (by decide) (fun c2 => ?_) (fun c2 => ?_)
        · rw [if_pos c2] at h
          exact ih.2.1 (lI L 2 r1.1) r1.2 r h H locs ls hP hD hS (lv_sub hl [1, 2, 0] rfl)
        · rw [if_neg c2] at h
          refine lv_aload_n hx hb dX3_drawn_14 rfl (lv_at hl 1 rfl) ?_
          refine hg_18_0 hx hb hts in_y_X3_drawn_X3 hown hK hP (hts _ (List.mem_cons_of_mem _ (List.mem_append_left _ (List.mem_append_left _ (List.mem_of_getElem? (i := 0) rfl))))) dX3_drawn_15 ?_
          refine lv_iload_n hx hb dX3_drawn_18 rfl (lv_at hl 2 rfl) ?_
          obtain ⟨r3, hc3, h⟩ := oc_ex h
          refine kc_i (va_runV (As := [.int (L.1 1)]) (rest := []) ⟨hx, hb, hml, hown, hts⟩ (c_y_X1_length l dC dI cy a z k (lI lZ 1 ((L.1 1))) r1.2 r3 hc3 H.size) (cwV 1 hts g_y_X3_drawn_X1_length_V399 rfl rfl rfl hd_y_X1_length ⟨Nat.le_of_ble_eq_true rfl, Nat.le_of_ble_eq_true rfl⟩) ⟨nb_blind, va_recv hK hP (ci := 1) (q0 := 0) rfl rfl, (kb_pre hK hG hP hD)⟩ rfl rfl hl.1 rfl (lv_room (Nat.le_of_ble_eq_true rfl)) dX3_drawn_19 ⟨Nat.le_refl _, Nat.le_refl _⟩) hA hP hD hS (fun H locs hP hD hS => ?_)
          refine lv_istore_n (lv' := [(3, .int r3.1), (2, .int r1.1), (0, .ref (a 18)), (1, .int (L.1 1))]) hx hb dX3_drawn_22 rfl hl (by decide) rfl (fun ls hl => ?_)
          refine lv_iload_n hx hb dX3_drawn_23 rfl (lv_at hl 0 rfl) ?_
          refine lv_if_ne (tgt := 32) hx hb dX3_drawn_24 (by decide) (fun c4 => ?_) (fun c4 => ?_)
          · rw [if_neg c4] at h
            exact ih.2.2.1 (lI L 3 r3.1) r3.2 r h H locs ls hP hD hS (lv_sub hl [2, 3, 0] rfl)
          · rw [if_pos c4] at h
            refine lv_ldc (v := (-2147483648)) hx hb hown (hts _ (List.mem_cons_of_mem _ (List.mem_append_left _ (List.mem_append_left _ (List.mem_of_getElem? (i := 8) rfl))))) dX3_drawn_27 ?_
            refine lv_goto (tgt := 45) hx hb dX3_drawn_29 (by decide) ?_
            exact ih.2.2.2.1 (lI L 100 ((-2147483648))) r3.2 r h H locs ls hP hD hS (lv_sub hl [] rfl)
      · intro L σ r h H locs ls hP hD hS hl
        rw [y_X3_drawn] at h
        refine lv_iload_n hx hb dX3_drawn_46 rfl (lv_at hl 2 rfl) ?_
        refine lv_iconst (v := 2) hx hb dX3_drawn_47 (by decide) ?_
        refine lv_icmp_eq (tgt := 55) hx hb dX3_drawn_48 (by decide) (fun c1 => ?_) (fun c1 => ?_)
        · rw [if_pos c1] at h
          exact ih.2.2.2.2.1 L σ r h H locs ls hP hD hS (lv_sub hl [0, 1] rfl)
        · rw [if_neg c1] at h
          refine lv_ldcw (v := (-268435455)) hx hb hown (hts _ (List.mem_cons_of_mem _ (List.mem_append_left _ (List.mem_append_left _ (List.mem_of_getElem? (i := 9) rfl))))) dX3_drawn_51 ?_
          obtain rfl := Option.some.inj h
          exact W.iret (v := (-268435455)) hx hb hr (fun t ht hW => ⟨⟨(-268435455), (), rfl, rfl, by rw [ht]; exact hP, va_K.moved hW.alike hK, hD⟩, hS.F ht⟩) hS.2.2 dX3_drawn_54
      · intro L σ r h H locs ls hP hD hS hl
        rw [y_X3_drawn] at h
        refine lv_aload_n hx hb dX3_drawn_32 rfl (lv_at hl 0 rfl) ?_
        refine hg_18_0 hx hb hts in_y_X3_drawn_X3 hown hK hP (hts _ (List.mem_cons_of_mem _ (List.mem_append_left _ (List.mem_append_left _ (List.mem_of_getElem? (i := 0) rfl))))) dX3_drawn_33 ?_
        refine lv_iload_n hx hb dX3_drawn_36 rfl (lv_at hl 1 rfl) ?_
        refine lv_aload_n hx hb dX3_drawn_37 rfl (lv_at hl 0 rfl) ?_
        refine lv_iload_n hx hb dX3_drawn_38 rfl (lv_at hl 2 rfl) ?_
        obtain ⟨r1, hc1, h⟩ := oc_ex h
        refine kc_i (va_runV (As := [.int (L.1 3)]) (rest := [.int (L.1 1), .ref (a 0)]) ⟨hx, hb, hml, hown, hts⟩ (c_y_X3_nextDraw l dC dI cy a z k (lI lZ 1 ((L.1 3))) σ r1 hc1 H.size) (cwV 1 hts g_y_X3_drawn_X3_nextDraw_V470 rfl rfl rfl hd_y_X3_nextDraw ⟨Nat.le_of_ble_eq_true rfl, Nat.le_of_ble_eq_true rfl⟩) ⟨nb_blind, va_recv hK hP (ci := 3) (q0 := 18) rfl rfl, (kb_pre hK hG hP hD)⟩ rfl rfl hl.1 rfl (lv_room (Nat.le_of_ble_eq_true rfl)) dX3_drawn_39 ⟨Nat.le_refl _, Nat.le_refl _⟩) hA hP hD hS (fun H locs hP hD hS => ?_)
        obtain ⟨r2, hc2, h⟩ := oc_ex h
        refine kc_i (va_runV (As := [.int (L.1 1), .int r1.1]) (rest := []) ⟨hx, hb, hml, hown, hts⟩ (c_y_X1_taken l dC dI cy a z k (lI (lI lZ 1 ((L.1 1))) 2 r1.1) r1.2 r2 hc2 H.size) (cwV 2 hts g_y_X3_drawn_X1_taken_V473 rfl rfl rfl hd_y_X1_taken ⟨Nat.le_of_ble_eq_true rfl, Nat.le_of_ble_eq_true rfl⟩) ⟨nb_blind, va_recv hK hP (ci := 1) (q0 := 0) rfl rfl, (kb_pre hK hG hP hD)⟩ rfl rfl hl.1 rfl (lv_room (Nat.le_of_ble_eq_true rfl)) dX3_drawn_42 ⟨Nat.le_refl _, Nat.le_refl _⟩) hA hP hD hS (fun H locs hP hD hS => ?_)
        exact ih.2.2.2.1 (lI L 100 r2.1) r2.2 r h H locs ls hP hD hS (lv_sub hl [] rfl)
      · intro L σ r h H locs ls hP hD hS hl
        rw [y_X3_drawn] at h
        obtain rfl := Option.some.inj h
        exact W.iret (v := (L.1 100)) hx hb hr (fun t ht hW => ⟨⟨(L.1 100), (), rfl, rfl, by rw [ht]; exact hP, va_K.moved hW.alike hK, hD⟩, hS.F ht⟩) hS.2.2 dX3_drawn_45
      · intro L σ r h H locs ls hP hD hS hl
        rw [y_X3_drawn] at h
        refine lv_iload_n hx hb dX3_drawn_55 rfl (lv_at hl 1 rfl) ?_
        refine lv_if_ge (tgt := 66) hx hb dX3_drawn_56 (by decide) (fun c1 => ?_) (fun c1 => ?_)
        · rw [if_pos c1] at h
          exact ih.2.2.2.2.2.1 L σ r h H locs ls hP hD hS (lv_sub hl [0, 1] rfl)
        · rw [if_neg c1] at h
          refine lv_iload_n hx hb dX3_drawn_59 rfl (lv_at hl 1 rfl) ?_
          obtain ⟨r2, hc2, h⟩ := oc_ex h
          refine kc_i (va_runS (As := [.int (L.1 1)]) (rest := []) ⟨hx, hb, hml, hown, hts⟩ (c_y_X10_number l dC dI cy a z k (lI lZ 0 ((L.1 1))) σ r2 hc2 H.size) (va_cwS 1 hts g_y_X3_drawn_X10_number_S476 rfl rfl rfl hd_y_X10_number ⟨Nat.le_of_ble_eq_true rfl, Nat.le_of_ble_eq_true rfl⟩) ⟨nb_blind, (kb_pre hK hG hP hD)⟩ rfl rfl hl.1 rfl (lv_room (Nat.le_of_ble_eq_true rfl)) dX3_drawn_60 ⟨Nat.le_refl _, Nat.le_refl _⟩) hA hP hD hS (fun H locs hP hD hS => ?_)
          refine lv_goto (tgt := 93) hx hb dX3_drawn_63 (by decide) ?_
          exact ih.2.2.2.2.2.2.1 (lI L 100 r2.1) r2.2 r h H locs ls hP hD hS (lv_sub hl [0, 1] rfl)
      · intro L σ r h H locs ls hP hD hS hl
        rw [y_X3_drawn] at h
        refine lv_aload_n hx hb dX3_drawn_66 rfl (lv_at hl 0 rfl) ?_
        refine hg_18_0 hx hb hts in_y_X3_drawn_X3 hown hK hP (hts _ (List.mem_cons_of_mem _ (List.mem_append_left _ (List.mem_append_left _ (List.mem_of_getElem? (i := 0) rfl))))) dX3_drawn_67 ?_
        refine lv_iload_n hx hb dX3_drawn_70 rfl (lv_at hl 1 rfl) ?_
        obtain ⟨r1, hc1, h⟩ := oc_ex h
        refine kc_i (va_runV (As := [.int (L.1 1)]) (rest := []) ⟨hx, hb, hml, hown, hts⟩ (c_y_X1_length l dC dI cy a z k (lI lZ 1 ((L.1 1))) σ r1 hc1 H.size) (cwV 1 hts g_y_X3_drawn_X1_length_V399 rfl rfl rfl hd_y_X1_length ⟨Nat.le_of_ble_eq_true rfl, Nat.le_of_ble_eq_true rfl⟩) ⟨nb_blind, va_recv hK hP (ci := 1) (q0 := 0) rfl rfl, (kb_pre hK hG hP hD)⟩ rfl rfl hl.1 rfl (lv_room (Nat.le_of_ble_eq_true rfl)) dX3_drawn_71 ⟨Nat.le_refl _, Nat.le_refl _⟩) hA hP hD hS (fun H locs hP hD hS => ?_)
        refine lv_iconst (v := 1) hx hb dX3_drawn_74 (by decide) ?_
        refine lv_icmp_ne (tgt := 92) hx hb dX3_drawn_75 (by decide) (fun c2 => ?_) (fun c2 => ?_)
        · rw [if_neg c2] at h
          exact ih.2.2.2.2.2.2.2.1 L r1.2 r h H locs ls hP hD hS (lv_sub hl [0, 1] rfl)
        · rw [if_pos c2] at h
          refine lv_aload_n hx hb dX3_drawn_78 rfl (lv_at hl 0 rfl) ?_
          refine hg_18_0 hx hb hts in_y_X3_drawn_X3 hown hK hP (hts _ (List.mem_cons_of_mem _ (List.mem_append_left _ (List.mem_append_left _ (List.mem_of_getElem? (i := 0) rfl))))) dX3_drawn_79 ?_
          refine hg_0_0n hx hb hts in_y_X3_drawn_X1 hown hK hP (va_Nw.use rfl (hG.1 _ (List.mem_of_getElem? (i := 2) rfl))) dX3_drawn_82 ?_
          refine lv_iload_n hx hb dX3_drawn_85 rfl (lv_at hl 1 rfl) ?_
          refine lv_iconst (v := 1) hx hb dX3_drawn_86 (by decide) ?_
          refine lv_iadd hx hb dX3_drawn_87 ?_
          obtain ⟨q3, h⟩ := kb_ite1 h
          refine hl_3 hx hb hK hP q3 dX3_drawn_88 ?_
          refine lv_goto (tgt := 93) hx hb dX3_drawn_89 (by decide) ?_
          exact ih.2.2.2.2.2.2.1 (lI L 100 ((r1.2.2.2.1 3 ((((L.1 1)) + 1)).toNatClampNeg))) r1.2 r h H locs ls hP hD hS (lv_sub hl [0, 1] rfl)
      · intro L σ r h H locs ls hP hD hS hl
        rw [y_X3_drawn] at h
        refine lv_istore_n (lv' := [(3, .int (L.1 100)), (0, .ref (a 18)), (1, .int (L.1 1))]) hx hb dX3_drawn_93 rfl hl (by decide) rfl (fun ls hl => ?_)
        refine lv_iload_n hx hb dX3_drawn_94 rfl (lv_at hl 0 rfl) ?_
        refine lv_iconst (v := 1) hx hb dX3_drawn_95 (by decide) ?_
        refine lv_icmp_lt (tgt := 110) hx hb dX3_drawn_96 (by decide) (fun c1 => ?_) (fun c1 => ?_)
        · rw [if_pos c1] at h
          exact ih.2.2.2.2.2.2.2.2.1 L σ r h H locs ls hP hD hS (lv_sub hl [] rfl)
        · rw [if_neg c1] at h
          refine lv_aload_n hx hb dX3_drawn_99 rfl (lv_at hl 1 rfl) ?_
          refine hg_18_1 hx hb hts in_y_X3_drawn_X3 hown hK hP (hts _ (List.mem_cons_of_mem _ (List.mem_append_left _ (List.mem_append_left _ (List.mem_of_getElem? (i := 20) rfl))))) dX3_drawn_100 ?_
          refine lv_iload_n hx hb dX3_drawn_103 rfl (lv_at hl 2 rfl) ?_
          obtain ⟨r2, hc2, h⟩ := oc_ex h
          refine kc_i (va_runV (As := [.int (L.1 1)]) (rest := []) ⟨hx, hb, hml, hown, hts⟩ (c_y_X10_isBelow l dC dI cy a z k (lI lZ 1 ((L.1 1))) σ r2 hc2 H.size) (cwV 1 hts g_y_X3_drawn_X10_isBelow_V484 rfl rfl rfl hd_y_X10_isBelow ⟨Nat.le_of_ble_eq_true rfl, Nat.le_of_ble_eq_true rfl⟩) ⟨nb_blind, va_recv hK hP (ci := 9) (q0 := 4) rfl rfl, (kb_pre hK hG hP hD)⟩ rfl rfl hl.1 rfl (lv_room (Nat.le_of_ble_eq_true rfl)) dX3_drawn_104 ⟨Nat.le_refl _, Nat.le_refl _⟩) hA hP hD hS (fun H locs hP hD hS => ?_)
          refine lv_if_eq (tgt := 114) hx hb dX3_drawn_107 (by decide) (fun c3 => ?_) (fun c3 => ?_)
          · rw [if_pos c3] at h
            exact ih.2.2.2.2.2.2.2.2.2 (lI L 3 ((L.1 100))) r2.2 r h H locs ls hP hD hS (lv_sub hl [1, 0] rfl)
          · rw [if_neg c3] at h
            exact ih.2.2.2.2.2.2.2.2.1 L r2.2 r h H locs ls hP hD hS (lv_sub hl [] rfl)
      · intro L σ r h H locs ls hP hD hS hl
        rw [y_X3_drawn] at h
        refine lv_iconst (v := 0) hx hb dX3_drawn_92 (by decide) ?_
        exact ih.2.2.2.2.2.2.1 (lI L 100 0) σ r h H locs ls hP hD hS (lv_sub hl [0, 1] rfl)
      · intro L σ r h H locs ls hP hD hS hl
        rw [y_X3_drawn] at h
        refine lv_ldcw (v := (-268435452)) hx hb hown (hts _ (List.mem_cons_of_mem _ (List.mem_append_left _ (List.mem_append_left _ (List.mem_of_getElem? (i := 24) rfl))))) dX3_drawn_110 ?_
        obtain rfl := Option.some.inj h
        exact W.iret (v := (-268435452)) hx hb hr (fun t ht hW => ⟨⟨(-268435452), (), rfl, rfl, by rw [ht]; exact hP, va_K.moved hW.alike hK, hD⟩, hS.F ht⟩) hS.2.2 dX3_drawn_113
      · intro L σ r h H locs ls hP hD hS hl
        rw [y_X3_drawn] at h
        refine lv_aload_n hx hb dX3_drawn_114 rfl (lv_at hl 0 rfl) ?_
        refine hg_18_1 hx hb hts in_y_X3_drawn_X3 hown hK hP (hts _ (List.mem_cons_of_mem _ (List.mem_append_left _ (List.mem_append_left _ (List.mem_of_getElem? (i := 20) rfl))))) dX3_drawn_115 ?_
        refine lv_lconst (v := 1) hx hb dX3_drawn_118 (by decide) ?_
        refine lv_aload_n hx hb dX3_drawn_119 rfl (lv_at hl 0 rfl) ?_
        refine lv_iload_n hx hb dX3_drawn_120 rfl (lv_at hl 1 rfl) ?_
        obtain ⟨r1, hc1, h⟩ := oc_ex h
        refine kc_i (va_runV (As := [.int (L.1 3)]) (rest := [.long 1, .ref (a 4)]) ⟨hx, hb, hml, hown, hts⟩ (c_y_X3_nextDraw l dC dI cy a z k (lI lZ 1 ((L.1 3))) σ r1 hc1 H.size) (cwV 1 hts g_y_X3_drawn_X3_nextDraw_V470 rfl rfl rfl hd_y_X3_nextDraw ⟨Nat.le_of_ble_eq_true rfl, Nat.le_of_ble_eq_true rfl⟩) ⟨nb_blind, va_recv hK hP (ci := 3) (q0 := 18) rfl rfl, (kb_pre hK hG hP hD)⟩ rfl rfl hl.1 rfl (lv_room (Nat.le_of_ble_eq_true rfl)) dX3_drawn_121 ⟨Nat.le_refl _, Nat.le_refl _⟩) hA hP hD hS (fun H locs hP hD hS => ?_)
        refine lv_i2l (v := r1.1.toInt64) hx hb dX3_drawn_124 rfl ?_
        refine lv_ladd hx hb dX3_drawn_125 ?_
        obtain ⟨r2, hc2, h⟩ := oc_ex h
        refine kc_i (va_runV (As := [.long (1 + ((r1.1.toInt64)))]) (rest := []) ⟨hx, hb, hml, hown, hts⟩ (c_y_X10_of l dC dI cy a z k (lJ lZ 1 ((1 + ((r1.1.toInt64))))) r1.2 r2 hc2 H.size) (cwV 1 hts g_y_X3_drawn_X10_of_V488 rfl rfl rfl hd_y_X10_of ⟨Nat.le_of_ble_eq_true rfl, Nat.le_of_ble_eq_true rfl⟩) ⟨nb_blind, va_recv hK hP (ci := 9) (q0 := 4) rfl rfl, (kb_pre hK hG hP hD)⟩ rfl rfl hl.1 rfl (lv_room (Nat.le_of_ble_eq_true rfl)) dX3_drawn_126 ⟨Nat.le_refl _, Nat.le_refl _⟩) hA hP hD hS (fun H locs hP hD hS => ?_)
        obtain rfl := Option.some.inj h
        exact W.iret (v := r2.1) hx hb hr (fun t ht hW => ⟨⟨r2.1, (), rfl, rfl, by rw [ht]; exact hP, va_K.moved hW.alike hK, hD⟩, hS.F ht⟩) hS.2.2 dX3_drawn_129
  exact (blk k0).1 L0 σ0 r0 h0 s.heap [] ls hP hD hS hl
/-! X11_raw -/
def y_X11_raw : Nat → Nat → LV → CS → Option (Int32 × CS)
  | 0, _, _, _ => none
  | k + 1, 0, L, σ => some ((((-268435456)) ||| ((((L.1 0)) &&& 268435455))), σ)
  | _ + 1, _ + 1, _, _ => none
def o_y_X11_raw : List Cond := [.constant RX11 3 (-268435456), .constant RX11 4 (268435455)]
theorem o_y_X11_raw_good : o_y_X11_raw.all goodWord = true := by decide +kernel
def p_y_X11_raw : List Cond := o_y_X11_raw ++ []
theorem p_y_X11_raw_good : p_y_X11_raw.all goodWord = true := nb_all2 o_y_X11_raw_good rfl
def w_y_X11_raw : List Cond := .code yX11_raw cX11_raw 1 (some .int) :: (p_y_X11_raw ++ fC)
theorem w_y_X11_raw_good : w_y_X11_raw.all goodWord = true := nb_allc (by decide +kernel) (nb_all2 p_y_X11_raw_good fC_good)
theorem hd_y_X11_raw : yX11_raw.cls ≠ "java/lang/invoke/MethodHandle" ∧ yX11_raw.cls ≠ "java/lang/invoke/VarHandle" ∧ (parseMethodDescriptor yX11_raw.desc).map (fun d => d.parameters.length) = some 1 := by decide +kernel
set_option maxHeartbeats 40000000 in
set_option maxRecDepth 100000 in
theorem c_y_X11_raw (l : Launch) (dC : Nat → ClassId) (dI : Nat → Nat → Nat) (cy : Nat → ClassId) (a z : Nat → Nat) (k0 : Nat) (L0 : LV) (σ0 : CS) (r0 : Int32 × CS) (h0 : y_X11_raw k0 0 L0 σ0 = some r0) (sz : Nat) : Met l yX11_raw w_y_X11_raw ({ frames := 0, cells := 0, slots := 0, locals := 0 }) (va_Pc [.int (L0.1 0)] (nIn (dC, dI) cy sz (vC cy a z σ0))) (va_Qi (fun (x : Int32) (_ : Unit) => x = r0.1) (fun _ t => nOut (dC, dI) cy (va_A (vC cy a z σ0) sz) (vC cy a z r0.2) t) (va_A (vC cy a z σ0) sz)) 0 0 (va_A (vC cy a z σ0) sz) := by
  refine Met.ofW (cc := cX11_raw) (maxL := 1) (ret := (some .int)) (by decide) rfl ?_
  intro p e s m args below meth c s₁ B hml hv
  obtain ⟨rfl, hsz, hP, hK, hD0, hG⟩ := hv
  have hx := B.exec
  have hb := B.bytes
  have hr := B.returns
  have hts := atoms_spec (ws := w_y_X11_raw) B.pre
  have hown : s.vm.findClass RX11 = some m.cls := findClass_of_methodNamed B.named
  have hlocks := B.notSynchronized
  subst hsz
  have hD := hD0.self (sz := s.heap.size)
  generalize hAe : va_A (vC cy a z σ0) s.heap.size = A at hD ⊢
  have hA : ∀ q : Nat, s.heap.size ≤ q → A q := fun q h => by rw [← hAe]; exact Or.inr h
  have hS : va_S A s.heap s.heap [] := va_S.rf
  have hl := lv_entry ([.int (L0.1 0)]) (n := 1) (Nat.le_of_ble_eq_true rfl)
  rw [lg_entry_eq]
  generalize (lg_sl ([.int (L0.1 0)]) ++ List.replicate (1 - (lg_sl ([.int (L0.1 0)])).length) Slot.unset).toArray = ls at hl ⊢
  have hl : lv_has ls 1 [(0, .int (L0.1 0))] := hl
  have blk : ∀ k : Nat, (bC p l e (headSpec w_y_X11_raw ({ frames := 0, cells := 0, slots := 0, locals := 0 })).room s m #[.int (L0.1 0)] below meth c dC dI cy a z A (kI dC dI cy a z A below #[.int (L0.1 0)] s) 1 (y_X11_raw k 0) (fun L => [(0, .int (L.1 0))]) 0 (fun L => [])) := by
    intro k
    induction k with
    | zero => exact fun L σ r h => (by cases h)
    | succ k ih =>
      skip
      · intro L σ r h H locs ls hP hD hS hl
        rw [y_X11_raw] at h
        refine lv_ldc (v := (-268435456)) hx hb hown (hts _ (List.mem_cons_of_mem _ (List.mem_append_left _ (List.mem_append_left _ (List.mem_of_getElem? (i := 0) rfl))))) dX11_raw_0 ?_
        refine lv_iload_n hx hb dX11_raw_2 rfl (lv_at hl 0 rfl) ?_
        refine lv_ldc (v := 268435455) hx hb hown (hts _ (List.mem_cons_of_mem _ (List.mem_append_left _ (List.mem_append_left _ (List.mem_of_getElem? (i := 1) rfl))))) dX11_raw_3 ?_
        refine lv_iand hx hb dX11_raw_5 ?_
        refine lv_ior hx hb dX11_raw_6 ?_
        obtain rfl := Option.some.inj h
        exact W.iret (v := (((-268435456)) ||| ((((L.1 0)) &&& 268435455)))) hx hb hr (fun t ht hW => ⟨⟨(((-268435456)) ||| ((((L.1 0)) &&& 268435455))), (), rfl, rfl, by rw [ht]; exact hP, va_K.moved hW.alike hK, hD⟩, hS.F ht⟩) hS.2.2 dX11_raw_7
  exact (blk k0) L0 σ0 r0 h0 s.heap [] ls hP hD hS hl

def fC : List Cond := wsX00 ++ (wsX10 ++ (wsX20 ++ (wsX30 ++ (wsX50 ++ (wsX60 ++ (wsX70 ++ (wsX80 ++ (wsX90 ++ (wsX100 ++ (wsX110))))))))))
theorem fC_good : fC.all goodWord = true := by decide +kernel
/-! X1_kind -/
def y_X1_kind : Nat → Nat → LV → CS → Option (Int32 × CS)
  | 0, _, _, _ => none
  | k + 1, 0, L, σ => if 0 ≤ ((L.1 1)) then (y_X1_kind k 1 L σ) else (y_X1_kind k 2 (lI L 100 (((((((L.1 1)).toUInt32 >>> ((28 : Int32).toUInt32 &&& Int32.toUInt32 31)).toInt32)) &&& 7))) σ)
  | k + 1, 1, L, σ => if ¬ (((L.1 1)) < 0 ∨ (sN σ 3) ≤ ((L.1 1)).toNatClampNeg) then (y_X1_kind k 2 (lI L 100 ((((σ.2.2.1 3 ((L.1 1)).toNatClampNeg)) &&& 7))) σ) else none
  | k + 1, 2, L, σ => some ((L.1 100), σ)
  | _ + 1, _ + 3, _, _ => none
def o_y_X1_kind : List Cond := [.fieldLink RX1 11 "SetHouse$Heap" "mem" "[I"]
theorem o_y_X1_kind_good : o_y_X1_kind.all goodWord = true := by decide +kernel
def p_y_X1_kind : List Cond := o_y_X1_kind ++ []
theorem p_y_X1_kind_good : p_y_X1_kind.all goodWord = true := nb_all2 o_y_X1_kind_good rfl
def w_y_X1_kind : List Cond := .code yX1_kind cX1_kind 2 (some .int) :: (p_y_X1_kind ++ fC)
theorem w_y_X1_kind_good : w_y_X1_kind.all goodWord = true := nb_allc (by decide +kernel) (nb_all2 p_y_X1_kind_good fC_good)
theorem in_y_X1_kind_X1 : ∀ w ∈ wsX10, w ∈ w_y_X1_kind := fun _ h => List.mem_cons_of_mem _ (List.mem_append_right _ (List.mem_append_right _ (List.mem_append_left _ h)))
theorem hd_y_X1_kind : yX1_kind.cls = RX1 ∧ yX1_kind.cls ≠ "java/lang/invoke/MethodHandle" ∧ yX1_kind.cls ≠ "java/lang/invoke/VarHandle" ∧ (parseMethodDescriptor yX1_kind.desc).map (fun d => d.parameters.length) = some 1 := by decide +kernel
set_option maxHeartbeats 40000000 in
set_option maxRecDepth 100000 in
theorem c_y_X1_kind (l : Launch) (dC : Nat → ClassId) (dI : Nat → Nat → Nat) (cy : Nat → ClassId) (a z : Nat → Nat) (k0 : Nat) (L0 : LV) (σ0 : CS) (r0 : Int32 × CS) (h0 : y_X1_kind k0 0 L0 σ0 = some r0) (sz : Nat) : Met l yX1_kind w_y_X1_kind ({ frames := 0, cells := 0, slots := 0, locals := 0 }) (va_Pc [.ref (a 0), .int (L0.1 1)] (nIn (dC, dI) cy sz (vC cy a z σ0))) (va_Qi (fun (x : Int32) (_ : Unit) => x = r0.1) (fun _ t => nOut (dC, dI) cy (va_A (vC cy a z σ0) sz) (vC cy a z r0.2) t) (va_A (vC cy a z σ0) sz)) 0 0 (va_A (vC cy a z σ0) sz) := by
  refine Met.ofW (cc := cX1_kind) (maxL := 2) (ret := (some .int)) (by decide) rfl ?_
  intro p e s m args below meth c s₁ B hml hv
  obtain ⟨rfl, hsz, hP, hK, hD0, hG⟩ := hv
  have hx := B.exec
  have hb := B.bytes
  have hr := B.returns
  have hts := atoms_spec (ws := w_y_X1_kind) B.pre
  have hown : s.vm.findClass RX1 = some m.cls := findClass_of_methodNamed B.named
  have hlocks := B.notSynchronized
  subst hsz
  have hD := hD0.self (sz := s.heap.size)
  generalize hAe : va_A (vC cy a z σ0) s.heap.size = A at hD ⊢
  have hA : ∀ q : Nat, s.heap.size ≤ q → A q := fun q h => by rw [← hAe]; exact Or.inr h
  have hS : va_S A s.heap s.heap [] := va_S.rf
  have hl := lv_entry ([.ref (a 0), .int (L0.1 1)]) (n := 2) (Nat.le_of_ble_eq_true rfl)
  rw [lg_entry_eq]
  generalize (lg_sl ([.ref (a 0), .int (L0.1 1)]) ++ List.replicate (2 - (lg_sl ([.ref (a 0), .int (L0.1 1)])).length) Slot.unset).toArray = ls at hl ⊢
  have hl : lv_has ls 2 [(0, .ref (a 0)), (1, .int (L0.1 1))] := hl
  have blk : ∀ k : Nat, (bC p l e (headSpec w_y_X1_kind ({ frames := 0, cells := 0, slots := 0, locals := 0 })).room s m #[.ref (a 0), .int (L0.1 1)] below meth c dC dI cy a z A (kI dC dI cy a z A below #[.ref (a 0), .int (L0.1 1)] s) 2 (y_X1_kind k 0) (fun L => [(0, .ref (a 0)), (1, .int (L.1 1))]) 0 (fun L => [])) ∧ (bC p l e (headSpec w_y_X1_kind ({ frames := 0, cells := 0, slots := 0, locals := 0 })).room s m #[.ref (a 0), .int (L0.1 1)] below meth c dC dI cy a z A (kI dC dI cy a z A below #[.ref (a 0), .int (L0.1 1)] s) 2 (y_X1_kind k 1) (fun L => [(0, .ref (a 0)), (1, .int (L.1 1))]) 14 (fun L => [])) ∧ (bC p l e (headSpec w_y_X1_kind ({ frames := 0, cells := 0, slots := 0, locals := 0 })).room s m #[.ref (a 0), .int (L0.1 1)] below meth c dC dI cy a z A (kI dC dI cy a z A below #[.ref (a 0), .int (L0.1 1)] s) 2 (y_X1_kind k 2) (fun L => []) 23 (fun L => [.int (L.1 100)])) := by
    intro k
    induction k with
    | zero => exact ⟨fun L σ r h => (by cases h), fun L σ r h => (by cases h), fun L σ r h => (by cases h)⟩
    | succ k ih =>
      refine ⟨?_, ?_, ?_⟩
      · intro L σ r h H locs ls hP hD hS hl
        rw [y_X1_kind] at h
        refine lv_iload_n hx hb dX1_kind_0 rfl (lv_at hl 1 rfl) ?_
        refine lv_if_ge (tgt := 14) hx hb dX1_kind_1 (by decide) (fun c1 => ?_) (fun c1 => ?_)
        · rw [if_pos c1] at h
          exact ih.2.1 L σ r h H locs ls hP hD hS (lv_sub hl [0, 1] rfl)
        · rw [if_neg c1] at h
          refine lv_iload_n hx hb dX1_kind_4 rfl (lv_at hl 1 rfl) ?_
          refine lv_bipush (v := 28) hx hb dX1_kind_5 (by decide) ?_
          refine lv_iushr (v := (((L.1 1)).toUInt32 >>> ((28 : Int32).toUInt32 &&& Int32.toUInt32 31)).toInt32) hx hb dX1_kind_7 rfl ?_
          refine lv_bipush (v := 7) hx hb dX1_kind_8 (by decide) ?_
          refine lv_iand hx hb dX1_kind_10 ?_
          refine lv_goto (tgt := 23) hx hb dX1_kind_11 (by decide) ?_
          exact ih.2.2 (lI L 100 (((((((L.1 1)).toUInt32 >>> ((28 : Int32).toUInt32 &&& Int32.toUInt32 31)).toInt32)) &&& 7))) σ r h H locs ls hP hD hS (lv_sub hl [] rfl)
      · intro L σ r h H locs ls hP hD hS hl
        rw [y_X1_kind] at h
        refine lv_aload_n hx hb dX1_kind_14 rfl (lv_at hl 0 rfl) ?_
        refine hg_0_0 hx hb hts in_y_X1_kind_X1 hown hK hP (hts _ (List.mem_cons_of_mem _ (List.mem_append_left _ (List.mem_append_left _ (List.mem_of_getElem? (i := 0) rfl))))) dX1_kind_15 ?_
        refine lv_iload_n hx hb dX1_kind_18 rfl (lv_at hl 1 rfl) ?_
        obtain ⟨q1, h⟩ := kb_ite1 h
        refine hl_3 hx hb hK hP q1 dX1_kind_19 ?_
        refine lv_bipush (v := 7) hx hb dX1_kind_20 (by decide) ?_
        refine lv_iand hx hb dX1_kind_22 ?_
        exact ih.2.2 (lI L 100 ((((σ.2.2.1 3 ((L.1 1)).toNatClampNeg)) &&& 7))) σ r h H locs ls hP hD hS (lv_sub hl [] rfl)
      · intro L σ r h H locs ls hP hD hS hl
        rw [y_X1_kind] at h
        obtain rfl := Option.some.inj h
        exact W.iret (v := (L.1 100)) hx hb hr (fun t ht hW => ⟨⟨(L.1 100), (), rfl, rfl, by rw [ht]; exact hP, va_K.moved hW.alike hK, hD⟩, hS.F ht⟩) hS.2.2 dX1_kind_23
  exact (blk k0).1 L0 σ0 r0 h0 s.heap [] ls hP hD hS hl
/-! X10_small -/
def y_X10_small : Nat → Nat → LV → CS → Option (Int32 × CS)
  | 0, _, _, _ => none
  | k + 1, 0, L, σ => some ((((-1610612736)) ||| ((((L.1 0)) &&& 268435455))), σ)
  | _ + 1, _ + 1, _, _ => none
def o_y_X10_small : List Cond := [.constant RX10 37 (-1610612736), .constant RX10 38 (268435455)]
theorem o_y_X10_small_good : o_y_X10_small.all goodWord = true := by decide +kernel
def p_y_X10_small : List Cond := o_y_X10_small ++ []
theorem p_y_X10_small_good : p_y_X10_small.all goodWord = true := nb_all2 o_y_X10_small_good rfl
def w_y_X10_small : List Cond := .code yX10_small cX10_small 1 (some .int) :: (p_y_X10_small ++ fC)
theorem w_y_X10_small_good : w_y_X10_small.all goodWord = true := nb_allc (by decide +kernel) (nb_all2 p_y_X10_small_good fC_good)
theorem hd_y_X10_small : yX10_small.cls ≠ "java/lang/invoke/MethodHandle" ∧ yX10_small.cls ≠ "java/lang/invoke/VarHandle" ∧ (parseMethodDescriptor yX10_small.desc).map (fun d => d.parameters.length) = some 1 := by decide +kernel
set_option maxHeartbeats 40000000 in
set_option maxRecDepth 100000 in
theorem c_y_X10_small (l : Launch) (dC : Nat → ClassId) (dI : Nat → Nat → Nat) (cy : Nat → ClassId) (a z : Nat → Nat) (k0 : Nat) (L0 : LV) (σ0 : CS) (r0 : Int32 × CS) (h0 : y_X10_small k0 0 L0 σ0 = some r0) (sz : Nat) : Met l yX10_small w_y_X10_small ({ frames := 0, cells := 0, slots := 0, locals := 0 }) (va_Pc [.int (L0.1 0)] (nIn (dC, dI) cy sz (vC cy a z σ0))) (va_Qi (fun (x : Int32) (_ : Unit) => x = r0.1) (fun _ t => nOut (dC, dI) cy (va_A (vC cy a z σ0) sz) (vC cy a z r0.2) t) (va_A (vC cy a z σ0) sz)) 0 0 (va_A (vC cy a z σ0) sz) := by
  refine Met.ofW (cc := cX10_small) (maxL := 1) (ret := (some .int)) (by decide) rfl ?_
  intro p e s m args below meth c s₁ B hml hv
  obtain ⟨rfl, hsz, hP, hK, hD0, hG⟩ := hv
  have hx := B.exec
  have hb := B.bytes
  have hr := B.returns
  have hts := atoms_spec (ws := w_y_X10_small) B.pre
  have hown : s.vm.findClass RX10 = some m.cls := findClass_of_methodNamed B.named
  have hlocks := B.notSynchronized
  subst hsz
  have hD := hD0.self (sz := s.heap.size)
  generalize hAe : va_A (vC cy a z σ0) s.heap.size = A at hD ⊢
  have hA : ∀ q : Nat, s.heap.size ≤ q → A q := fun q h => by rw [← hAe]; exact Or.inr h
  have hS : va_S A s.heap s.heap [] := va_S.rf
  have hl := lv_entry ([.int (L0.1 0)]) (n := 1) (Nat.le_of_ble_eq_true rfl)
  rw [lg_entry_eq]
  generalize (lg_sl ([.int (L0.1 0)]) ++ List.replicate (1 - (lg_sl ([.int (L0.1 0)])).length) Slot.unset).toArray = ls at hl ⊢
  have hl : lv_has ls 1 [(0, .int (L0.1 0))] := hl
  have blk : ∀ k : Nat, (bC p l e (headSpec w_y_X10_small ({ frames := 0, cells := 0, slots := 0, locals := 0 })).room s m #[.int (L0.1 0)] below meth c dC dI cy a z A (kI dC dI cy a z A below #[.int (L0.1 0)] s) 1 (y_X10_small k 0) (fun L => [(0, .int (L.1 0))]) 0 (fun L => [])) := by
    intro k
    induction k with
    | zero => exact fun L σ r h => (by cases h)
    | succ k ih =>
      skip
      · intro L σ r h H locs ls hP hD hS hl
        rw [y_X10_small] at h
        refine lv_ldc (v := (-1610612736)) hx hb hown (hts _ (List.mem_cons_of_mem _ (List.mem_append_left _ (List.mem_append_left _ (List.mem_of_getElem? (i := 0) rfl))))) dX10_small_0 ?_
        refine lv_iload_n hx hb dX10_small_2 rfl (lv_at hl 0 rfl) ?_
        refine lv_ldc (v := 268435455) hx hb hown (hts _ (List.mem_cons_of_mem _ (List.mem_append_left _ (List.mem_append_left _ (List.mem_of_getElem? (i := 1) rfl))))) dX10_small_3 ?_
        refine lv_iand hx hb dX10_small_5 ?_
        refine lv_ior hx hb dX10_small_6 ?_
        obtain rfl := Option.some.inj h
        exact W.iret (v := (((-1610612736)) ||| ((((L.1 0)) &&& 268435455)))) hx hb hr (fun t ht hW => ⟨⟨(((-1610612736)) ||| ((((L.1 0)) &&& 268435455))), (), rfl, rfl, by rw [ht]; exact hP, va_K.moved hW.alike hK, hD⟩, hS.F ht⟩) hS.2.2 dX10_small_7
  exact (blk k0) L0 σ0 r0 h0 s.heap [] ls hP hD hS hl
/-! X1_makeWhole__a7 -/
def y_X1_makeWhole__a7 : Nat → Nat → LV → CS → Option (Int32 × CS)
  | 0, _, _, _ => none
  | k + 1, 0, L, σ => if ((L.1 2)) ≤ 32 then (y_X1_makeWhole__a7 k 1 L σ) else (some ((-268435451), σ))
  | k + 1, 1, L, σ => if ((1 + ((L.1 2)))) ≤ ((((Int32.ofNat (sN σ 3))) - ((σ.1 1)))) then (y_X1_makeWhole__a7 k 2 (lI L 4 ((σ.1 1))) σ) else (some ((-268435450), σ))
  | k + 1, 2, L, σ => if ((L.1 3)) = 0 then (y_X1_makeWhole__a7 k 3 (lI (lI L 100 2) 101 ((L.1 4))) (uI σ 1 ((((((L.1 4)) + 1)) + ((L.1 2)))))) else (y_X1_makeWhole__a7 k 4 (lI (lI (lI L 100 8) 101 2) 102 ((L.1 4))) (uI σ 1 ((((((L.1 4)) + 1)) + ((L.1 2))))))
  | k + 1, 3, L, σ => y_X1_makeWhole__a7 k 4 (lI (lI (lI L 100 0) 101 ((L.1 100))) 102 ((L.1 101))) σ
  | k + 1, 4, L, σ => if ¬ (((L.1 102)) < 0 ∨ (sN σ 3) ≤ ((L.1 102)).toNatClampNeg) then (if ¬ (0 : Int32) < 0 ∧ ¬ ((((L.1 4)) + 1)) < 0 ∧ ¬ ((L.1 2)) < 0 ∧ (0 : Int32).toNatClampNeg + ((L.1 2)).toNatClampNeg ≤ 72 ∧ ((((L.1 4)) + 1)).toNatClampNeg + ((L.1 2)).toNatClampNeg ≤ (sN (uA σ 3 ((L.1 102)).toNatClampNeg ((((((((L.1 101)) ||| ((L.1 100)))) ||| ((((L.1 2)) <<< ((4 : Int32) &&& 31))))) ||| ((((1 + ((L.1 2)))) <<< ((16 : Int32) &&& 31)))))) 3) then (some ((L.1 4), (uF (uA σ 3 ((L.1 102)).toNatClampNeg ((((((((L.1 101)) ||| ((L.1 100)))) ||| ((((L.1 2)) <<< ((4 : Int32) &&& 31))))) ||| ((((1 + ((L.1 2)))) <<< ((16 : Int32) &&& 31)))))) 3 (va_cpy ((uA σ 3 ((L.1 102)).toNatClampNeg ((((((((L.1 101)) ||| ((L.1 100)))) ||| ((((L.1 2)) <<< ((4 : Int32) &&& 31))))) ||| ((((1 + ((L.1 2)))) <<< ((16 : Int32) &&& 31)))))).2.2.1 7) ((uA σ 3 ((L.1 102)).toNatClampNeg ((((((((L.1 101)) ||| ((L.1 100)))) ||| ((((L.1 2)) <<< ((4 : Int32) &&& 31))))) ||| ((((1 + ((L.1 2)))) <<< ((16 : Int32) &&& 31)))))).2.2.1 3) (0 : Int32).toNatClampNeg ((((L.1 4)) + 1)).toNatClampNeg ((L.1 2)).toNatClampNeg)))) else none) else none
  | _ + 1, _ + 5, _, _ => none
def o_y_X1_makeWhole__a7 : List Cond := [.constant RX1 52 (-268435451), .fieldLink RX1 15 "SetHouse$Heap" "top" "I", .fieldLink RX1 11 "SetHouse$Heap" "mem" "[I", .constant RX1 53 (-268435450), .methodLink RX1 54 arraycopyName, .native arraycopyName, .static arraycopyName, .initialized "java/lang/System"]
theorem o_y_X1_makeWhole__a7_good : o_y_X1_makeWhole__a7.all goodWord = true := by decide +kernel
def p_y_X1_makeWhole__a7 : List Cond := o_y_X1_makeWhole__a7 ++ []
theorem p_y_X1_makeWhole__a7_good : p_y_X1_makeWhole__a7.all goodWord = true := nb_all2 o_y_X1_makeWhole__a7_good rfl
def w_y_X1_makeWhole__a7 : List Cond := .code yX1_makeWhole cX1_makeWhole 5 (some .int) :: (p_y_X1_makeWhole__a7 ++ fC)
theorem w_y_X1_makeWhole__a7_good : w_y_X1_makeWhole__a7.all goodWord = true := nb_allc (by decide +kernel) (nb_all2 p_y_X1_makeWhole__a7_good fC_good)
theorem in_y_X1_makeWhole__a7_X1 : ∀ w ∈ wsX10, w ∈ w_y_X1_makeWhole__a7 := fun _ h => List.mem_cons_of_mem _ (List.mem_append_right _ (List.mem_append_right _ (List.mem_append_left _ h)))
theorem hd_y_X1_makeWhole__a7 : yX1_makeWhole.cls = RX1 ∧ yX1_makeWhole.cls ≠ "java/lang/invoke/MethodHandle" ∧ yX1_makeWhole.cls ≠ "java/lang/invoke/VarHandle" ∧ (parseMethodDescriptor yX1_makeWhole.desc).map (fun d => d.parameters.length) = some 3 := by decide +kernel
set_option maxHeartbeats 40000000 in
set_option maxRecDepth 100000 in
theorem c_y_X1_makeWhole__a7 (l : Launch) (dC : Nat → ClassId) (dI : Nat → Nat → Nat) (cy : Nat → ClassId) (a z : Nat → Nat) (k0 : Nat) (L0 : LV) (σ0 : CS) (r0 : Int32 × CS) (h0 : y_X1_makeWhole__a7 k0 0 L0 σ0 = some r0) (sz : Nat) : Met l yX1_makeWhole w_y_X1_makeWhole__a7 ({ frames := 1, cells := 0, slots := 0, locals := 60 }) (va_Pc [.ref (a 0), .ref (a 7), .int (L0.1 2), .int (L0.1 3)] (nIn (dC, dI) cy sz (vC cy a z σ0))) (va_Qi (fun (x : Int32) (_ : Unit) => x = r0.1) (fun _ t => nOut (dC, dI) cy (va_A (vC cy a z σ0) sz) (vC cy a z r0.2) t) (va_A (vC cy a z σ0) sz)) 0 0 (va_A (vC cy a z σ0) sz) := by
  refine Met.ofW (cc := cX1_makeWhole) (maxL := 5) (ret := (some .int)) (by decide) rfl ?_
  intro p e s m args below meth c s₁ B hml hv
  obtain ⟨rfl, hsz, hP, hK, hD0, hG⟩ := hv
  have hx := B.exec
  have hb := B.bytes
  have hr := B.returns
  have hts := atoms_spec (ws := w_y_X1_makeWhole__a7) B.pre
  have hown : s.vm.findClass RX1 = some m.cls := findClass_of_methodNamed B.named
  have hlocks := B.notSynchronized
  subst hsz
  have hD := hD0.self (sz := s.heap.size)
  generalize hAe : va_A (vC cy a z σ0) s.heap.size = A at hD ⊢
  have hA : ∀ q : Nat, s.heap.size ≤ q → A q := fun q h => by rw [← hAe]; exact Or.inr h
  have hS : va_S A s.heap s.heap [] := va_S.rf
  have hl := lv_entry ([.ref (a 0), .ref (a 7), .int (L0.1 2), .int (L0.1 3)]) (n := 5) (Nat.le_of_ble_eq_true rfl)
  rw [lg_entry_eq]
  generalize (lg_sl ([.ref (a 0), .ref (a 7), .int (L0.1 2), .int (L0.1 3)]) ++ List.replicate (5 - (lg_sl ([.ref (a 0), .ref (a 7), .int (L0.1 2), .int (L0.1 3)])).length) Slot.unset).toArray = ls at hl ⊢
  have hl : lv_has ls 5 [(0, .ref (a 0)), (1, .ref (a 7)), (2, .int (L0.1 2)), (3, .int (L0.1 3))] := hl
  have blk : ∀ k : Nat, (bC p l e (headSpec w_y_X1_makeWhole__a7 ({ frames := 1, cells := 0, slots := 0, locals := 60 })).room s m #[.ref (a 0), .ref (a 7), .int (L0.1 2), .int (L0.1 3)] below meth c dC dI cy a z A (kI dC dI cy a z A below #[.ref (a 0), .ref (a 7), .int (L0.1 2), .int (L0.1 3)] s) 5 (y_X1_makeWhole__a7 k 0) (fun L => [(0, .ref (a 0)), (1, .ref (a 7)), (2, .int (L.1 2)), (3, .int (L.1 3))]) 0 (fun L => [])) ∧ (bC p l e (headSpec w_y_X1_makeWhole__a7 ({ frames := 1, cells := 0, slots := 0, locals := 60 })).room s m #[.ref (a 0), .ref (a 7), .int (L0.1 2), .int (L0.1 3)] below meth c dC dI cy a z A (kI dC dI cy a z A below #[.ref (a 0), .ref (a 7), .int (L0.1 2), .int (L0.1 3)] s) 5 (y_X1_makeWhole__a7 k 1) (fun L => [(0, .ref (a 0)), (1, .ref (a 7)), (2, .int (L.1 2)), (3, .int (L.1 3))]) 9 (fun L => [])) ∧ (bC p l e (headSpec w_y_X1_makeWhole__a7 ({ frames := 1, cells := 0, slots := 0, locals := 60 })).room s m #[.ref (a 0), .ref (a 7), .int (L0.1 2), .int (L0.1 3)] below meth c dC dI cy a z A (kI dC dI cy a z A below #[.ref (a 0), .ref (a 7), .int (L0.1 2), .int (L0.1 3)] s) 5 (y_X1_makeWhole__a7 k 2) (fun L => [(0, .ref (a 0)), (1, .ref (a 7)), (2, .int (L.1 2)), (3, .int (L.1 3)), (4, .int (L.1 4))]) 32 (fun L => [])) ∧ (bC p l e (headSpec w_y_X1_makeWhole__a7 ({ frames := 1, cells := 0, slots := 0, locals := 60 })).room s m #[.ref (a 0), .ref (a 7), .int (L0.1 2), .int (L0.1 3)] below meth c dC dI cy a z A (kI dC dI cy a z A below #[.ref (a 0), .ref (a 7), .int (L0.1 2), .int (L0.1 3)] s) 5 (y_X1_makeWhole__a7 k 3) (fun L => [(0, .ref (a 0)), (1, .ref (a 7)), (2, .int (L.1 2)), (4, .int (L.1 4))]) 58 (fun L => [.int (L.1 100), .int (L.1 101), .ref (z 3)])) ∧ (bC p l e (headSpec w_y_X1_makeWhole__a7 ({ frames := 1, cells := 0, slots := 0, locals := 60 })).room s m #[.ref (a 0), .ref (a 7), .int (L0.1 2), .int (L0.1 3)] below meth c dC dI cy a z A (kI dC dI cy a z A below #[.ref (a 0), .ref (a 7), .int (L0.1 2), .int (L0.1 3)] s) 5 (y_X1_makeWhole__a7 k 4) (fun L => [(0, .ref (a 0)), (1, .ref (a 7)), (2, .int (L.1 2)), (4, .int (L.1 4))]) 59 (fun L => [.int (L.1 100), .int (L.1 101), .int (L.1 102), .ref (z 3)])) := by
    intro k
    induction k with
    | zero => exact ⟨fun L σ r h => (by cases h), fun L σ r h => (by cases h), fun L σ r h => (by cases h), fun L σ r h => (by cases h), fun L σ r h => (by cases h)⟩
    | succ k ih =>
      refine ⟨?_, ?_, ?_, ?_, ?_⟩
      · intro L σ r h H locs ls hP hD hS hl
        rw [y_X1_makeWhole__a7] at h
        refine lv_iload_n hx hb dX1_makeWhole_0 rfl (lv_at hl 2 rfl) ?_
        refine lv_bipush (v := 32) hx hb dX1_makeWhole_1 (by decide) ?_
        refine lv_icmp_le (tgt := 9) hx hb dX1_makeWhole_3 (by decide) (fun c1 => ?_) (fun c1 => ?_)
        · rw [if_pos c1] at h
          exact ih.2.1 L σ r h H locs ls hP hD hS (lv_sub hl [0, 1, 2, 3] rfl)
        · rw [if_neg c1] at h
          refine lv_ldc (v := (-268435451)) hx hb hown (hts _ (List.mem_cons_of_mem _ (List.mem_append_left _ (List.mem_append_left _ (List.mem_of_getElem? (i := 0) rfl))))) dX1_makeWhole_6 ?_
          obtain rfl := Option.some.inj h
          exact W.iret (v := (-268435451)) hx hb hr (fun t ht hW => ⟨⟨(-268435451), (), rfl, rfl, by rw [ht]; exact hP, va_K.moved hW.alike hK, hD⟩, hS.F ht⟩) hS.2.2 dX1_makeWhole_8
      · intro L σ r h H locs ls hP hD hS hl
        rw [y_X1_makeWhole__a7] at h
        refine lv_aload_n hx hb dX1_makeWhole_9 rfl (lv_at hl 0 rfl) ?_
        refine hg_0_1 hx hb hts in_y_X1_makeWhole__a7_X1 hown hK hP (hts _ (List.mem_cons_of_mem _ (List.mem_append_left _ (List.mem_append_left _ (List.mem_of_getElem? (i := 1) rfl))))) dX1_makeWhole_10 ?_
        refine lv_istore (lv' := [(4, .int (σ.1 1)), (0, .ref (a 0)), (1, .ref (a 7)), (2, .int (L.1 2)), (3, .int (L.1 3))]) hx hb dX1_makeWhole_13 hl (by decide) rfl (fun ls hl => ?_)
        refine lv_iconst (v := 1) hx hb dX1_makeWhole_15 (by decide) ?_
        refine lv_iload_n hx hb dX1_makeWhole_16 rfl (lv_at hl 3 rfl) ?_
        refine lv_iadd hx hb dX1_makeWhole_17 ?_
        refine lv_aload_n hx hb dX1_makeWhole_18 rfl (lv_at hl 1 rfl) ?_
        refine hg_0_0 hx hb hts in_y_X1_makeWhole__a7_X1 hown hK hP (hts _ (List.mem_cons_of_mem _ (List.mem_append_left _ (List.mem_append_left _ (List.mem_of_getElem? (i := 2) rfl))))) dX1_makeWhole_19 ?_
        refine hn_3 hx hb hK hP dX1_makeWhole_22 ?_
        refine lv_iload hx hb dX1_makeWhole_23 (lv_at hl 0 rfl) ?_
        refine lv_isub hx hb dX1_makeWhole_25 ?_
        refine lv_icmp_le (tgt := 32) hx hb dX1_makeWhole_26 (by decide) (fun c1 => ?_) (fun c1 => ?_)
        · rw [if_pos c1] at h
          exact ih.2.2.1 (lI L 4 ((σ.1 1))) σ r h H locs ls hP hD hS (lv_sub hl [1, 2, 3, 4, 0] rfl)
        · rw [if_neg c1] at h
          refine lv_ldc (v := (-268435450)) hx hb hown (hts _ (List.mem_cons_of_mem _ (List.mem_append_left _ (List.mem_append_left _ (List.mem_of_getElem? (i := 3) rfl))))) dX1_makeWhole_29 ?_
          obtain rfl := Option.some.inj h
          exact W.iret (v := (-268435450)) hx hb hr (fun t ht hW => ⟨⟨(-268435450), (), rfl, rfl, by rw [ht]; exact hP, va_K.moved hW.alike hK, hD⟩, hS.F ht⟩) hS.2.2 dX1_makeWhole_31
      · intro L σ r h H locs ls hP hD hS hl
        rw [y_X1_makeWhole__a7] at h
        refine lv_aload_n hx hb dX1_makeWhole_32 rfl (lv_at hl 0 rfl) ?_
        refine lv_iload hx hb dX1_makeWhole_33 (lv_at hl 4 rfl) ?_
        refine lv_iconst (v := 1) hx hb dX1_makeWhole_35 (by decide) ?_
        refine lv_iadd hx hb dX1_makeWhole_36 ?_
        refine lv_iload_n hx hb dX1_makeWhole_37 rfl (lv_at hl 2 rfl) ?_
        refine lv_iadd hx hb dX1_makeWhole_38 ?_
        refine hp_0_1 hx hb hts in_y_X1_makeWhole__a7_X1 hown hK hP hD hS (hts _ (List.mem_cons_of_mem _ (List.mem_append_left _ (List.mem_append_left _ (List.mem_of_getElem? (i := 1) rfl))))) dX1_makeWhole_39 (fun H locs hP hD hS => ?_)
        refine lv_aload_n hx hb dX1_makeWhole_42 rfl (lv_at hl 0 rfl) ?_
        refine hg_0_0 hx hb hts in_y_X1_makeWhole__a7_X1 hown hK hP (hts _ (List.mem_cons_of_mem _ (List.mem_append_left _ (List.mem_append_left _ (List.mem_of_getElem? (i := 2) rfl))))) dX1_makeWhole_43 ?_
        refine lv_iload hx hb dX1_makeWhole_46 (lv_at hl 4 rfl) ?_
        refine lv_iconst (v := 2) hx hb dX1_makeWhole_48 (by decide) ?_
        refine lv_iload_n hx hb dX1_makeWhole_49 rfl (lv_at hl 3 rfl) ?_
        refine lv_if_eq (tgt := 58) hx hb dX1_makeWhole_50 (by decide) (fun c1 => ?_) (fun c1 => ?_)
        · rw [if_pos c1] at h
          exact ih.2.2.2.1 (lI (lI L 100 2) 101 ((L.1 4))) (uI σ 1 ((((((L.1 4)) + 1)) + ((L.1 2))))) r h H locs ls hP hD hS (lv_sub hl [0, 1, 2, 4] rfl)
        · rw [if_neg c1] at h
          refine lv_bipush (v := 8) hx hb dX1_makeWhole_53 (by decide) ?_
          refine lv_goto (tgt := 59) hx hb dX1_makeWhole_55 (by decide) ?_
          exact ih.2.2.2.2 (lI (lI (lI L 100 8) 101 2) 102 ((L.1 4))) (uI σ 1 ((((((L.1 4)) + 1)) + ((L.1 2))))) r h H locs ls hP hD hS (lv_sub hl [0, 1, 2, 4] rfl)
      · intro L σ r h H locs ls hP hD hS hl
        rw [y_X1_makeWhole__a7] at h
        refine lv_iconst (v := 0) hx hb dX1_makeWhole_58 (by decide) ?_
        exact ih.2.2.2.2 (lI (lI (lI L 100 0) 101 ((L.1 100))) 102 ((L.1 101))) σ r h H locs ls hP hD hS (lv_sub hl [0, 1, 2, 3] rfl)
      · intro L σ r h H locs ls hP hD hS hl
        rw [y_X1_makeWhole__a7] at h
        refine lv_ior hx hb dX1_makeWhole_59 ?_
        refine lv_iload_n hx hb dX1_makeWhole_60 rfl (lv_at hl 2 rfl) ?_
        refine lv_iconst (v := 4) hx hb dX1_makeWhole_61 (by decide) ?_
        refine lv_ishl hx hb dX1_makeWhole_62 ?_
        refine lv_ior hx hb dX1_makeWhole_63 ?_
        refine lv_iconst (v := 1) hx hb dX1_makeWhole_64 (by decide) ?_
        refine lv_iload_n hx hb dX1_makeWhole_65 rfl (lv_at hl 2 rfl) ?_
        refine lv_iadd hx hb dX1_makeWhole_66 ?_
        refine lv_bipush (v := 16) hx hb dX1_makeWhole_67 (by decide) ?_
        refine lv_ishl hx hb dX1_makeWhole_69 ?_
        refine lv_ior hx hb dX1_makeWhole_70 ?_
        obtain ⟨q1, h⟩ := kb_ite1 h
        refine hs_3 hx hb hK hP hD hS q1 dX1_makeWhole_71 (fun H locs hP hD hS => ?_)
        refine lv_aload_n hx hb dX1_makeWhole_72 rfl (lv_at hl 1 rfl) ?_
        refine lv_iconst (v := 0) hx hb dX1_makeWhole_73 (by decide) ?_
        refine lv_aload_n hx hb dX1_makeWhole_74 rfl (lv_at hl 0 rfl) ?_
        refine hg_0_0 hx hb hts in_y_X1_makeWhole__a7_X1 hown hK hP (hts _ (List.mem_cons_of_mem _ (List.mem_append_left _ (List.mem_append_left _ (List.mem_of_getElem? (i := 2) rfl))))) dX1_makeWhole_75 ?_
        refine lv_iload hx hb dX1_makeWhole_78 (lv_at hl 3 rfl) ?_
        refine lv_iconst (v := 1) hx hb dX1_makeWhole_80 (by decide) ?_
        refine lv_iadd hx hb dX1_makeWhole_81 ?_
        refine lv_iload_n hx hb dX1_makeWhole_82 rfl (lv_at hl 2 rfl) ?_
        obtain ⟨q2, h⟩ := kb_ite1 h
        refine va_copyi (ty := .int) hx hb (hml.trans hl.1.symm) hown (hts _ (List.mem_cons_of_mem _ (List.mem_append_left _ (List.mem_append_left _ (List.mem_of_getElem? (i := 4) rfl))))) (hts _ (List.mem_cons_of_mem _ (List.mem_append_left _ (List.mem_append_left _ (List.mem_of_getElem? (i := 5) rfl))))) (hts _ (List.mem_cons_of_mem _ (List.mem_append_left _ (List.mem_append_left _ (List.mem_of_getElem? (i := 6) rfl))))) (hts _ (List.mem_cons_of_mem _ (List.mem_append_left _ (List.mem_append_left _ (List.mem_of_getElem? (i := 7) rfl))))) hK hP hD hS 7 3 1 1 rfl rfl rfl rfl rfl q2.1 q2.2.1 q2.2.2.1 q2.2.2.2.1 q2.2.2.2.2 (fun _ _ => rfl) (Nat.le_of_ble_eq_true rfl) (Nat.le_of_ble_eq_true rfl) dX1_makeWhole_83 (fun H locs hP hD hS => ?_)
        have hP : va_P (dC, dI) nCl (vC cy a z (uF (uA σ 3 ((L.1 102)).toNatClampNeg ((((((((L.1 101)) ||| ((L.1 100)))) ||| ((((L.1 2)) <<< ((4 : Int32) &&& 31))))) ||| ((((1 + ((L.1 2)))) <<< ((16 : Int32) &&& 31)))))) 3 (va_cpy ((uA σ 3 ((L.1 102)).toNatClampNeg ((((((((L.1 101)) ||| ((L.1 100)))) ||| ((((L.1 2)) <<< ((4 : Int32) &&& 31))))) ||| ((((1 + ((L.1 2)))) <<< ((16 : Int32) &&& 31)))))).2.2.1 7) ((uA σ 3 ((L.1 102)).toNatClampNeg ((((((((L.1 101)) ||| ((L.1 100)))) ||| ((((L.1 2)) <<< ((4 : Int32) &&& 31))))) ||| ((((1 + ((L.1 2)))) <<< ((16 : Int32) &&& 31)))))).2.2.1 3) (0 : Int32).toNatClampNeg ((((L.1 4)) + 1)).toNatClampNeg ((L.1 2)).toNatClampNeg))) H := hP
        have hD : va_D A (vC cy a z (uF (uA σ 3 ((L.1 102)).toNatClampNeg ((((((((L.1 101)) ||| ((L.1 100)))) ||| ((((L.1 2)) <<< ((4 : Int32) &&& 31))))) ||| ((((1 + ((L.1 2)))) <<< ((16 : Int32) &&& 31)))))) 3 (va_cpy ((uA σ 3 ((L.1 102)).toNatClampNeg ((((((((L.1 101)) ||| ((L.1 100)))) ||| ((((L.1 2)) <<< ((4 : Int32) &&& 31))))) ||| ((((1 + ((L.1 2)))) <<< ((16 : Int32) &&& 31)))))).2.2.1 7) ((uA σ 3 ((L.1 102)).toNatClampNeg ((((((((L.1 101)) ||| ((L.1 100)))) ||| ((((L.1 2)) <<< ((4 : Int32) &&& 31))))) ||| ((((1 + ((L.1 2)))) <<< ((16 : Int32) &&& 31)))))).2.2.1 3) (0 : Int32).toNatClampNeg ((((L.1 4)) + 1)).toNatClampNeg ((L.1 2)).toNatClampNeg))) := hD
        refine lv_iload hx hb dX1_makeWhole_86 (lv_at hl 3 rfl) ?_
        obtain rfl := Option.some.inj h
        exact W.iret (v := (L.1 4)) hx hb hr (fun t ht hW => ⟨⟨(L.1 4), (), rfl, rfl, by rw [ht]; exact hP, va_K.moved hW.alike hK, hD⟩, hS.F ht⟩) hS.2.2 dX1_makeWhole_88
  exact (blk k0).1 L0 σ0 r0 h0 s.heap [] ls hP hD hS hl
/-! X10_of -/
def y_X10_of : Nat → Nat → LV → CS → Option (Int32 × CS)
  | 0, _, _, _ => none
  | k + 1, 0, L, σ => if ((nbCmp ((L.2.1 1)) ((-134217728) : Int64))) < 0 then (y_X10_of k 1 L σ) else (if 0 ≤ ((nbCmp ((L.2.1 1)) (134217728 : Int64))) then (y_X10_of k 1 L σ) else (oc (y_X10_small k 0 (lI lZ 0 ((((L.2.1 1)).toInt32))) σ) (fun r3 => some (r3.1, r3.2))))
  | k + 1, 1, L, σ => if 0 ≤ ((nbCmp ((L.2.1 1)) (0 : Int64))) then (y_X10_of k 2 L σ) else (y_X10_of k 3 (lJ L 100 ((- ((L.2.1 1))))) σ)
  | k + 1, 2, L, σ => y_X10_of k 3 (lJ L 100 ((L.2.1 1))) σ
  | k + 1, 3, L, σ => if ¬ ((0 : Int32) < 0 ∨ 72 ≤ (0 : Int32).toNatClampNeg) then (if ¬ ((1 : Int32) < 0 ∨ 72 ≤ (1 : Int32).toNatClampNeg) then (if ¬ ((1 : Int32) < 0 ∨ 72 ≤ (1 : Int32).toNatClampNeg) then (if (((uA (uA σ 7 (0 : Int32).toNatClampNeg ((((L.2.1 100)).toInt32))) 7 (1 : Int32).toNatClampNeg (((((((L.2.1 100)).toUInt64 >>> ((32 : Int32).toInt64.toUInt64 &&& Int64.toUInt64 63)).toInt64)).toInt32))).2.2.1 7 (1 : Int32).toNatClampNeg)) = 0 then (y_X10_of k 5 (lI L 100 1) (uA (uA σ 7 (0 : Int32).toNatClampNeg ((((L.2.1 100)).toInt32))) 7 (1 : Int32).toNatClampNeg (((((((L.2.1 100)).toUInt64 >>> ((32 : Int32).toInt64.toUInt64 &&& Int64.toUInt64 63)).toInt64)).toInt32)))) else (y_X10_of k 4 L (uA (uA σ 7 (0 : Int32).toNatClampNeg ((((L.2.1 100)).toInt32))) 7 (1 : Int32).toNatClampNeg (((((((L.2.1 100)).toUInt64 >>> ((32 : Int32).toInt64.toUInt64 &&& Int64.toUInt64 63)).toInt64)).toInt32))))) else none) else none) else none
  | k + 1, 4, L, σ => y_X10_of k 5 (lI L 100 2) σ
  | k + 1, 5, L, σ => if 0 ≤ ((nbCmp ((L.2.1 1)) (0 : Int64))) then (y_X10_of k 6 (lI L 100 ((L.1 100))) σ) else (y_X10_of k 7 (lI (lI L 100 1) 101 ((L.1 100))) σ)
  | k + 1, 6, L, σ => y_X10_of k 7 (lI (lI L 100 0) 101 ((L.1 100))) σ
  | k + 1, 7, L, σ => oc (y_X1_makeWhole__a7 k 0 (lI (lI lZ 2 ((L.1 101))) 3 ((L.1 100))) σ) (fun r1 => some (r1.1, r1.2))
  | _ + 1, _ + 8, _, _ => none
def o_y_X10_of : List Cond := [.constantLong RX10 39 (-134217728), .constantLong RX10 41 (134217728), .methodLink RX10 43 yX10_small, .static yX10_small, .initialized RX10, .fieldLink RX10 18 "SetHouse$Wholes" "result" "[I", .fieldLink RX10 33 "SetHouse$Wholes" "heap" "LSetHouse$Heap;", .methodLink RX10 47 yX1_makeWhole, .instanceMethod yX1_makeWhole, .selects RX1 yX1_makeWhole yX1_makeWhole, .initialized RX1]
theorem o_y_X10_of_good : o_y_X10_of.all goodWord = true := by decide +kernel
def p_y_X10_of : List Cond := o_y_X10_of ++ ((.code yX10_small cX10_small 1 (some .int) :: p_y_X10_small) ++ ((.code yX1_makeWhole cX1_makeWhole 5 (some .int) :: p_y_X1_makeWhole__a7) ++ []))
theorem p_y_X10_of_good : p_y_X10_of.all goodWord = true := nb_all2 o_y_X10_of_good (nb_all2 (nb_allc (by decide +kernel) p_y_X10_small_good) (nb_all2 (nb_allc (by decide +kernel) p_y_X1_makeWhole__a7_good) rfl))
def w_y_X10_of : List Cond := .code yX10_of cX10_of 5 (some .int) :: (p_y_X10_of ++ fC)
theorem w_y_X10_of_good : w_y_X10_of.all goodWord = true := nb_allc (by decide +kernel) (nb_all2 p_y_X10_of_good fC_good)
theorem in_y_X10_of_X10 : ∀ w ∈ wsX100, w ∈ w_y_X10_of := fun _ h => List.mem_cons_of_mem _ (List.mem_append_right _ (List.mem_append_right _ (List.mem_append_right _ (List.mem_append_right _ (List.mem_append_right _ (List.mem_append_right _ (List.mem_append_right _ (List.mem_append_right _ (List.mem_append_right _ (List.mem_append_right _ (List.mem_append_left _ h)))))))))))
theorem hd_y_X10_of : yX10_of.cls = RX10 ∧ yX10_of.cls ≠ "java/lang/invoke/MethodHandle" ∧ yX10_of.cls ≠ "java/lang/invoke/VarHandle" ∧ (parseMethodDescriptor yX10_of.desc).map (fun d => d.parameters.length) = some 1 := by decide +kernel
theorem gg_y_X10_of_X10_small : GoodIn w_y_X10_of w_y_X10_small := goodIn_sub (fun w h => (List.mem_cons.mp h).elim (fun e => (List.mem_cons_of_mem _ (List.mem_append_left _ (List.mem_append_right _ (List.mem_append_left _ (List.mem_cons.mpr (Or.inl e))))))) (fun h => (List.mem_append.mp h).elim (fun h => (List.mem_cons_of_mem _ (List.mem_append_left _ (List.mem_append_right _ (List.mem_append_left _ (List.mem_cons_of_mem _ h)))))) (fun h => List.mem_cons_of_mem _ (List.mem_append_right _ h)))) w_y_X10_small_good
theorem g_y_X10_of_X10_small_S43 : GoodIn w_y_X10_of (va_wsS RX10 43 yX10_small w_y_X10_small) := goodIn_app (nb_g3 (List.mem_cons_of_mem _ (List.mem_append_left _ (List.mem_append_left _ (List.mem_of_getElem? (i := 2) rfl)))) (List.mem_cons_of_mem _ (List.mem_append_left _ (List.mem_append_left _ (List.mem_of_getElem? (i := 3) rfl)))) (List.mem_cons_of_mem _ (List.mem_append_left _ (List.mem_append_left _ (List.mem_of_getElem? (i := 4) rfl)))) (by decide +kernel)) gg_y_X10_of_X10_small
theorem gg_y_X10_of_X1_makeWhole__a7 : GoodIn w_y_X10_of w_y_X1_makeWhole__a7 := goodIn_sub (fun w h => (List.mem_cons.mp h).elim (fun e => (List.mem_cons_of_mem _ (List.mem_append_left _ (List.mem_append_right _ (List.mem_append_right _ (List.mem_append_left _ (List.mem_cons.mpr (Or.inl e)))))))) (fun h => (List.mem_append.mp h).elim (fun h => (List.mem_cons_of_mem _ (List.mem_append_left _ (List.mem_append_right _ (List.mem_append_right _ (List.mem_append_left _ (List.mem_cons_of_mem _ h))))))) (fun h => List.mem_cons_of_mem _ (List.mem_append_right _ h)))) w_y_X1_makeWhole__a7_good
theorem g_y_X10_of_X1_makeWhole__a7_V47 : GoodIn w_y_X10_of (wsV RX10 47 RX1 yX1_makeWhole w_y_X1_makeWhole__a7) := goodIn_app (nb_g4 (List.mem_cons_of_mem _ (List.mem_append_left _ (List.mem_append_left _ (List.mem_of_getElem? (i := 7) rfl)))) (List.mem_cons_of_mem _ (List.mem_append_left _ (List.mem_append_left _ (List.mem_of_getElem? (i := 8) rfl)))) (List.mem_cons_of_mem _ (List.mem_append_left _ (List.mem_append_left _ (List.mem_of_getElem? (i := 9) rfl)))) (List.mem_cons_of_mem _ (List.mem_append_left _ (List.mem_append_left _ (List.mem_of_getElem? (i := 10) rfl)))) (by decide +kernel)) gg_y_X10_of_X1_makeWhole__a7
set_option maxHeartbeats 40000000 in
set_option maxRecDepth 100000 in
theorem c_y_X10_of (l : Launch) (dC : Nat → ClassId) (dI : Nat → Nat → Nat) (cy : Nat → ClassId) (a z : Nat → Nat) (k0 : Nat) (L0 : LV) (σ0 : CS) (r0 : Int32 × CS) (h0 : y_X10_of k0 0 L0 σ0 = some r0) (sz : Nat) : Met l yX10_of w_y_X10_of ({ frames := 2, cells := 0, slots := 0, locals := 84 }) (va_Pc [.ref (a 4), .long (L0.2.1 1)] (nIn (dC, dI) cy sz (vC cy a z σ0))) (va_Qi (fun (x : Int32) (_ : Unit) => x = r0.1) (fun _ t => nOut (dC, dI) cy (va_A (vC cy a z σ0) sz) (vC cy a z r0.2) t) (va_A (vC cy a z σ0) sz)) 0 0 (va_A (vC cy a z σ0) sz) := by
  refine Met.ofW (cc := cX10_of) (maxL := 5) (ret := (some .int)) (by decide) rfl ?_
  intro p e s m args below meth c s₁ B hml hv
  obtain ⟨rfl, hsz, hP, hK, hD0, hG⟩ := hv
  have hx := B.exec
  have hb := B.bytes
  have hr := B.returns
  have hts := atoms_spec (ws := w_y_X10_of) B.pre
  have hown : s.vm.findClass RX10 = some m.cls := findClass_of_methodNamed B.named
  have hlocks := B.notSynchronized
  subst hsz
  have hD := hD0.self (sz := s.heap.size)
  generalize hAe : va_A (vC cy a z σ0) s.heap.size = A at hD ⊢
  have hA : ∀ q : Nat, s.heap.size ≤ q → A q := fun q h => by rw [← hAe]; exact Or.inr h
  have hS : va_S A s.heap s.heap [] := va_S.rf
  have hl := lv_entry ([.ref (a 4), .long (L0.2.1 1)]) (n := 5) (Nat.le_of_ble_eq_true rfl)
  rw [lg_entry_eq]
  generalize (lg_sl ([.ref (a 4), .long (L0.2.1 1)]) ++ List.replicate (5 - (lg_sl ([.ref (a 4), .long (L0.2.1 1)])).length) Slot.unset).toArray = ls at hl ⊢
  have hl : lv_has ls 5 [(0, .ref (a 4)), (1, .long (L0.2.1 1))] := hl
  have blk : ∀ k : Nat, (bC p l e (headSpec w_y_X10_of ({ frames := 2, cells := 0, slots := 0, locals := 84 })).room s m #[.ref (a 4), .long (L0.2.1 1)] below meth c dC dI cy a z A (kI dC dI cy a z A below #[.ref (a 4), .long (L0.2.1 1)] s) 5 (y_X10_of k 0) (fun L => [(0, .ref (a 4)), (1, .long (L.2.1 1))]) 0 (fun L => [])) ∧ (bC p l e (headSpec w_y_X10_of ({ frames := 2, cells := 0, slots := 0, locals := 84 })).room s m #[.ref (a 4), .long (L0.2.1 1)] below meth c dC dI cy a z A (kI dC dI cy a z A below #[.ref (a 4), .long (L0.2.1 1)] s) 5 (y_X10_of k 1) (fun L => [(0, .ref (a 4)), (1, .long (L.2.1 1))]) 22 (fun L => [])) ∧ (bC p l e (headSpec w_y_X10_of ({ frames := 2, cells := 0, slots := 0, locals := 84 })).room s m #[.ref (a 4), .long (L0.2.1 1)] below meth c dC dI cy a z A (kI dC dI cy a z A below #[.ref (a 4), .long (L0.2.1 1)] s) 5 (y_X10_of k 2) (fun L => [(0, .ref (a 4)), (1, .long (L.2.1 1))]) 33 (fun L => [])) ∧ (bC p l e (headSpec w_y_X10_of ({ frames := 2, cells := 0, slots := 0, locals := 84 })).room s m #[.ref (a 4), .long (L0.2.1 1)] below meth c dC dI cy a z A (kI dC dI cy a z A below #[.ref (a 4), .long (L0.2.1 1)] s) 5 (y_X10_of k 3) (fun L => [(0, .ref (a 4)), (1, .long (L.2.1 1))]) 34 (fun L => [.long (L.2.1 100)])) ∧ (bC p l e (headSpec w_y_X10_of ({ frames := 2, cells := 0, slots := 0, locals := 84 })).room s m #[.ref (a 4), .long (L0.2.1 1)] below meth c dC dI cy a z A (kI dC dI cy a z A below #[.ref (a 4), .long (L0.2.1 1)] s) 5 (y_X10_of k 4) (fun L => [(1, .long (L.2.1 1))]) 75 (fun L => [.ref (a 7), .ref (a 0)])) ∧ (bC p l e (headSpec w_y_X10_of ({ frames := 2, cells := 0, slots := 0, locals := 84 })).room s m #[.ref (a 4), .long (L0.2.1 1)] below meth c dC dI cy a z A (kI dC dI cy a z A below #[.ref (a 4), .long (L0.2.1 1)] s) 5 (y_X10_of k 5) (fun L => [(1, .long (L.2.1 1))]) 76 (fun L => [.int (L.1 100), .ref (a 7), .ref (a 0)])) ∧ (bC p l e (headSpec w_y_X10_of ({ frames := 2, cells := 0, slots := 0, locals := 84 })).room s m #[.ref (a 4), .long (L0.2.1 1)] below meth c dC dI cy a z A (kI dC dI cy a z A below #[.ref (a 4), .long (L0.2.1 1)] s) 5 (y_X10_of k 6) (fun L => []) 86 (fun L => [.int (L.1 100), .ref (a 7), .ref (a 0)])) ∧ (bC p l e (headSpec w_y_X10_of ({ frames := 2, cells := 0, slots := 0, locals := 84 })).room s m #[.ref (a 4), .long (L0.2.1 1)] below meth c dC dI cy a z A (kI dC dI cy a z A below #[.ref (a 4), .long (L0.2.1 1)] s) 5 (y_X10_of k 7) (fun L => []) 87 (fun L => [.int (L.1 100), .int (L.1 101), .ref (a 7), .ref (a 0)])) := by
    intro k
    induction k with
    | zero => exact ⟨fun L σ r h => (by cases h), fun L σ r h => (by cases h), fun L σ r h => (by cases h), fun L σ r h => (by cases h), fun L σ r h => (by cases h), fun L σ r h => (by cases h), fun L σ r h => (by cases h), fun L σ r h => (by cases h)⟩
    | succ k ih =>
      refine ⟨?_, ?_, ?_, ?_, ?_, ?_, ?_, ?_⟩
      · intro L σ r h H locs ls hP hD hS hl
        rw [y_X10_of] at h
        refine lv_lload_n hx hb dX10_of_0 rfl (lv_at hl 1 rfl) ?_
        refine lv_ldc2 (v := (-134217728)) hx hb hown (hts _ (List.mem_cons_of_mem _ (List.mem_append_left _ (List.mem_append_left _ (List.mem_of_getElem? (i := 0) rfl))))) dX10_of_1 ?_
        refine nb_lcmp hx hb dX10_of_4 ?_
        refine lv_if_lt (tgt := 22) hx hb dX10_of_5 (by decide) (fun c1 => ?_) (fun c1 => ?_)
        · rw [if_pos c1] at h
          exact ih.2.1 L σ r h H locs ls hP hD hS (lv_sub hl [0, 1] rfl)
        · rw [if_neg c1] at h
          refine lv_lload_n hx hb dX10_of_8 rfl (lv_at hl 1 rfl) ?_
          refine lv_ldc2 (v := 134217728) hx hb hown (hts _ (List.mem_cons_of_mem _ (List.mem_append_left _ (List.mem_append_left _ (List.mem_of_getElem? (i := 1) rfl))))) dX10_of_9 ?_
          refine nb_lcmp hx hb dX10_of_12 ?_
          refine lv_if_ge (tgt := 22) hx hb dX10_of_13 (by decide) (fun c2 => ?_) (fun c2 => ?_)
          · rw [if_pos c2] at h
            exact ih.2.1 L σ r h H locs ls hP hD hS (lv_sub hl [0, 1] rfl)
          · rw [if_neg c2] at h
            refine lv_lload_n hx hb dX10_of_16 rfl (lv_at hl 1 rfl) ?_
            refine lv_l2i (v := ((L.2.1 1)).toInt32) hx hb dX10_of_17 rfl ?_
            obtain ⟨r3, hc3, h⟩ := oc_ex h
            refine kc_i (va_runS (As := [.int (((L.2.1 1)).toInt32)]) (rest := []) ⟨hx, hb, hml, hown, hts⟩ (c_y_X10_small l dC dI cy a z k (lI lZ 0 ((((L.2.1 1)).toInt32))) σ r3 hc3 H.size) (va_cwS 1 hts g_y_X10_of_X10_small_S43 rfl rfl rfl hd_y_X10_small ⟨Nat.le_of_ble_eq_true rfl, Nat.le_of_ble_eq_true rfl⟩) ⟨nb_blind, (kb_pre hK hG hP hD)⟩ rfl rfl hl.1 rfl (lv_room (Nat.le_of_ble_eq_true rfl)) dX10_of_18 ⟨Nat.le_refl _, Nat.le_refl _⟩) hA hP hD hS (fun H locs hP hD hS => ?_)
            obtain rfl := Option.some.inj h
            exact W.iret (v := r3.1) hx hb hr (fun t ht hW => ⟨⟨r3.1, (), rfl, rfl, by rw [ht]; exact hP, va_K.moved hW.alike hK, hD⟩, hS.F ht⟩) hS.2.2 dX10_of_21
      · intro L σ r h H locs ls hP hD hS hl
        rw [y_X10_of] at h
        refine lv_lload_n hx hb dX10_of_22 rfl (lv_at hl 1 rfl) ?_
        refine lv_lconst (v := 0) hx hb dX10_of_23 (by decide) ?_
        refine nb_lcmp hx hb dX10_of_24 ?_
        refine lv_if_ge (tgt := 33) hx hb dX10_of_25 (by decide) (fun c1 => ?_) (fun c1 => ?_)
        · rw [if_pos c1] at h
          exact ih.2.2.1 L σ r h H locs ls hP hD hS (lv_sub hl [0, 1] rfl)
        · rw [if_neg c1] at h
          refine lv_lload_n hx hb dX10_of_28 rfl (lv_at hl 1 rfl) ?_
          refine lv_lneg hx hb dX10_of_29 ?_
          refine lv_goto (tgt := 34) hx hb dX10_of_30 (by decide) ?_
          exact ih.2.2.2.1 (lJ L 100 ((- ((L.2.1 1))))) σ r h H locs ls hP hD hS (lv_sub hl [0, 1] rfl)
      · intro L σ r h H locs ls hP hD hS hl
        rw [y_X10_of] at h
        refine lv_lload_n hx hb dX10_of_33 rfl (lv_at hl 1 rfl) ?_
        exact ih.2.2.2.1 (lJ L 100 ((L.2.1 1))) σ r h H locs ls hP hD hS (lv_sub hl [0, 1] rfl)
      · intro L σ r h H locs ls hP hD hS hl
        rw [y_X10_of] at h
        refine lv_lstore_n (lv' := [(3, .long (L.2.1 100)), (0, .ref (a 4)), (1, .long (L.2.1 1))]) hx hb dX10_of_34 rfl hl (by decide) rfl (fun ls hl => ?_)
        refine lv_aload_n hx hb dX10_of_35 rfl (lv_at hl 1 rfl) ?_
        refine hg_4_3 hx hb hts in_y_X10_of_X10 hown hK hP (hts _ (List.mem_cons_of_mem _ (List.mem_append_left _ (List.mem_append_left _ (List.mem_of_getElem? (i := 5) rfl))))) dX10_of_36 ?_
        refine lv_iconst (v := 0) hx hb dX10_of_39 (by decide) ?_
        refine lv_lload_n hx hb dX10_of_40 rfl (lv_at hl 0 rfl) ?_
        refine lv_l2i (v := ((L.2.1 100)).toInt32) hx hb dX10_of_41 rfl ?_
        obtain ⟨q1, h⟩ := kb_ite1 h
        refine hs_7 hx hb hK hP hD hS q1 dX10_of_42 (fun H locs hP hD hS => ?_)
        refine lv_aload_n hx hb dX10_of_43 rfl (lv_at hl 1 rfl) ?_
        refine hg_4_3 hx hb hts in_y_X10_of_X10 hown hK hP (hts _ (List.mem_cons_of_mem _ (List.mem_append_left _ (List.mem_append_left _ (List.mem_of_getElem? (i := 5) rfl))))) dX10_of_44 ?_
        refine lv_iconst (v := 1) hx hb dX10_of_47 (by decide) ?_
        refine lv_lload_n hx hb dX10_of_48 rfl (lv_at hl 0 rfl) ?_
        refine lv_bipush (v := 32) hx hb dX10_of_49 (by decide) ?_
        refine lv_lushr (v := (((L.2.1 100)).toUInt64 >>> ((32 : Int32).toInt64.toUInt64 &&& Int64.toUInt64 63)).toInt64) hx hb dX10_of_51 rfl ?_
        refine lv_l2i (v := (((((L.2.1 100)).toUInt64 >>> ((32 : Int32).toInt64.toUInt64 &&& Int64.toUInt64 63)).toInt64)).toInt32) hx hb dX10_of_52 rfl ?_
        obtain ⟨q2, h⟩ := kb_ite1 h
        refine hs_7 hx hb hK hP hD hS q2 dX10_of_53 (fun H locs hP hD hS => ?_)
        refine lv_aload_n hx hb dX10_of_54 rfl (lv_at hl 1 rfl) ?_
        refine hg_4_0 hx hb hts in_y_X10_of_X10 hown hK hP (hts _ (List.mem_cons_of_mem _ (List.mem_append_left _ (List.mem_append_left _ (List.mem_of_getElem? (i := 6) rfl))))) dX10_of_55 ?_
        refine lv_aload_n hx hb dX10_of_58 rfl (lv_at hl 1 rfl) ?_
        refine hg_4_3 hx hb hts in_y_X10_of_X10 hown hK hP (hts _ (List.mem_cons_of_mem _ (List.mem_append_left _ (List.mem_append_left _ (List.mem_of_getElem? (i := 5) rfl))))) dX10_of_59 ?_
        refine lv_aload_n hx hb dX10_of_62 rfl (lv_at hl 1 rfl) ?_
        refine hg_4_3 hx hb hts in_y_X10_of_X10 hown hK hP (hts _ (List.mem_cons_of_mem _ (List.mem_append_left _ (List.mem_append_left _ (List.mem_of_getElem? (i := 5) rfl))))) dX10_of_63 ?_
        refine lv_iconst (v := 1) hx hb dX10_of_66 (by decide) ?_
        obtain ⟨q3, h⟩ := kb_ite1 h
        refine hl_7 hx hb hK hP q3 dX10_of_67 ?_
        refine lv_if_ne (tgt := 75) hx hb dX10_of_68 (by decide) (fun c4 => ?_) (fun c4 => ?_)
        · rw [if_neg c4] at h
          exact ih.2.2.2.2.1 L (uA (uA σ 7 (0 : Int32).toNatClampNeg ((((L.2.1 100)).toInt32))) 7 (1 : Int32).toNatClampNeg (((((((L.2.1 100)).toUInt64 >>> ((32 : Int32).toInt64.toUInt64 &&& Int64.toUInt64 63)).toInt64)).toInt32))) r h H locs ls hP hD hS (lv_sub hl [2] rfl)
        · rw [if_pos c4] at h
          refine lv_iconst (v := 1) hx hb dX10_of_71 (by decide) ?_
          refine lv_goto (tgt := 76) hx hb dX10_of_72 (by decide) ?_
          exact ih.2.2.2.2.2.1 (lI L 100 1) (uA (uA σ 7 (0 : Int32).toNatClampNeg ((((L.2.1 100)).toInt32))) 7 (1 : Int32).toNatClampNeg (((((((L.2.1 100)).toUInt64 >>> ((32 : Int32).toInt64.toUInt64 &&& Int64.toUInt64 63)).toInt64)).toInt32))) r h H locs ls hP hD hS (lv_sub hl [2] rfl)
      · intro L σ r h H locs ls hP hD hS hl
        rw [y_X10_of] at h
        refine lv_iconst (v := 2) hx hb dX10_of_75 (by decide) ?_
        exact ih.2.2.2.2.2.1 (lI L 100 2) σ r h H locs ls hP hD hS (lv_sub hl [0] rfl)
      · intro L σ r h H locs ls hP hD hS hl
        rw [y_X10_of] at h
        refine lv_lload_n hx hb dX10_of_76 rfl (lv_at hl 0 rfl) ?_
        refine lv_lconst (v := 0) hx hb dX10_of_77 (by decide) ?_
        refine nb_lcmp hx hb dX10_of_78 ?_
        refine lv_if_ge (tgt := 86) hx hb dX10_of_79 (by decide) (fun c1 => ?_) (fun c1 => ?_)
        · rw [if_pos c1] at h
          exact ih.2.2.2.2.2.2.1 (lI L 100 ((L.1 100))) σ r h H locs ls hP hD hS (lv_sub hl [] rfl)
        · rw [if_neg c1] at h
          refine lv_iconst (v := 1) hx hb dX10_of_82 (by decide) ?_
          refine lv_goto (tgt := 87) hx hb dX10_of_83 (by decide) ?_
          exact ih.2.2.2.2.2.2.2 (lI (lI L 100 1) 101 ((L.1 100))) σ r h H locs ls hP hD hS (lv_sub hl [] rfl)
      · intro L σ r h H locs ls hP hD hS hl
        rw [y_X10_of] at h
        refine lv_iconst (v := 0) hx hb dX10_of_86 (by decide) ?_
        exact ih.2.2.2.2.2.2.2 (lI (lI L 100 0) 101 ((L.1 100))) σ r h H locs ls hP hD hS (lv_sub hl [] rfl)
      · intro L σ r h H locs ls hP hD hS hl
        rw [y_X10_of] at h
        obtain ⟨r1, hc1, h⟩ := oc_ex h
        refine kc_i (va_runV (As := [.ref (a 7), .int (L.1 101), .int (L.1 100)]) (rest := []) ⟨hx, hb, hml, hown, hts⟩ (c_y_X1_makeWhole__a7 l dC dI cy a z k (lI (lI lZ 2 ((L.1 101))) 3 ((L.1 100))) σ r1 hc1 H.size) (cwV 3 hts g_y_X10_of_X1_makeWhole__a7_V47 rfl rfl rfl hd_y_X1_makeWhole__a7 ⟨Nat.le_of_ble_eq_true rfl, Nat.le_of_ble_eq_true rfl⟩) ⟨nb_blind, va_recv hK hP (ci := 1) (q0 := 0) rfl rfl, (kb_pre hK hG hP hD)⟩ rfl rfl hl.1 rfl (lv_room (Nat.le_of_ble_eq_true rfl)) dX10_of_87 ⟨Nat.le_refl _, Nat.le_refl _⟩) hA hP hD hS (fun H locs hP hD hS => ?_)
        obtain rfl := Option.some.inj h
        exact W.iret (v := r1.1) hx hb hr (fun t ht hW => ⟨⟨r1.1, (), rfl, rfl, by rw [ht]; exact hP, va_K.moved hW.alike hK, hD⟩, hS.F ht⟩) hS.2.2 dX10_of_90
  exact (blk k0).1 L0 σ0 r0 h0 s.heap [] ls hP hD hS hl
/-! X10_isBelow -/
def y_X10_isBelow : Nat → Nat → LV → CS → Option (Int32 × CS)
  | 0, _, _, _ => none
  | k + 1, 0, L, σ => if 0 ≤ ((L.1 1)) then (y_X10_isBelow k 1 L σ) else (if 0 ≤ ((((L.1 1)) <<< ((4 : Int32) &&& 31))) then (y_X10_isBelow k 2 L σ) else (y_X10_isBelow k 3 (lI L 100 1) σ))
  | k + 1, 1, L, σ => if ¬ (((L.1 1)) < 0 ∨ (sN σ 3) ≤ ((L.1 1)).toNatClampNeg) then (if ((((σ.2.2.1 3 ((L.1 1)).toNatClampNeg)) &&& 8)) = 0 then (y_X10_isBelow k 4 L σ) else (y_X10_isBelow k 3 (lI L 100 1) σ)) else none
  | k + 1, 2, L, σ => y_X10_isBelow k 3 (lI L 100 0) σ
  | k + 1, 3, L, σ => if ((L.1 100)) = 0 ∨ ((L.1 100)) = 1 then some ((L.1 100), σ) else none
  | k + 1, 4, L, σ => y_X10_isBelow k 3 (lI L 100 0) σ
  | _ + 1, _ + 5, _, _ => none
def o_y_X10_isBelow : List Cond := [.fieldLink RX10 33 "SetHouse$Wholes" "heap" "LSetHouse$Heap;"]
theorem o_y_X10_isBelow_good : o_y_X10_isBelow.all goodWord = true := by decide +kernel
def p_y_X10_isBelow : List Cond := o_y_X10_isBelow ++ []
theorem p_y_X10_isBelow_good : p_y_X10_isBelow.all goodWord = true := nb_all2 o_y_X10_isBelow_good rfl
def w_y_X10_isBelow : List Cond := .code yX10_isBelow cX10_isBelow 2 (some .boolean) :: (p_y_X10_isBelow ++ fC)
theorem w_y_X10_isBelow_good : w_y_X10_isBelow.all goodWord = true := nb_allc (by decide +kernel) (nb_all2 p_y_X10_isBelow_good fC_good)
theorem in_y_X10_isBelow_X1 : ∀ w ∈ wsX10, w ∈ w_y_X10_isBelow := fun _ h => List.mem_cons_of_mem _ (List.mem_append_right _ (List.mem_append_right _ (List.mem_append_left _ h)))
theorem in_y_X10_isBelow_X10 : ∀ w ∈ wsX100, w ∈ w_y_X10_isBelow := fun _ h => List.mem_cons_of_mem _ (List.mem_append_right _ (List.mem_append_right _ (List.mem_append_right _ (List.mem_append_right _ (List.mem_append_right _ (List.mem_append_right _ (List.mem_append_right _ (List.mem_append_right _ (List.mem_append_right _ (List.mem_append_right _ (List.mem_append_left _ h)))))))))))
theorem hd_y_X10_isBelow : yX10_isBelow.cls = RX10 ∧ yX10_isBelow.cls ≠ "java/lang/invoke/MethodHandle" ∧ yX10_isBelow.cls ≠ "java/lang/invoke/VarHandle" ∧ (parseMethodDescriptor yX10_isBelow.desc).map (fun d => d.parameters.length) = some 1 := by decide +kernel
set_option maxHeartbeats 40000000 in
set_option maxRecDepth 100000 in
theorem c_y_X10_isBelow (l : Launch) (dC : Nat → ClassId) (dI : Nat → Nat → Nat) (cy : Nat → ClassId) (a z : Nat → Nat) (k0 : Nat) (L0 : LV) (σ0 : CS) (r0 : Int32 × CS) (h0 : y_X10_isBelow k0 0 L0 σ0 = some r0) (sz : Nat) : Met l yX10_isBelow w_y_X10_isBelow ({ frames := 0, cells := 0, slots := 0, locals := 0 }) (va_Pc [.ref (a 4), .int (L0.1 1)] (nIn (dC, dI) cy sz (vC cy a z σ0))) (va_Qi (fun (x : Int32) (_ : Unit) => x = r0.1) (fun _ t => nOut (dC, dI) cy (va_A (vC cy a z σ0) sz) (vC cy a z r0.2) t) (va_A (vC cy a z σ0) sz)) 0 0 (va_A (vC cy a z σ0) sz) := by
  refine Met.ofW (cc := cX10_isBelow) (maxL := 2) (ret := (some .boolean)) (by decide) rfl ?_
  intro p e s m args below meth c s₁ B hml hv
  obtain ⟨rfl, hsz, hP, hK, hD0, hG⟩ := hv
  have hx := B.exec
  have hb := B.bytes
  have hr := B.returns
  have hts := atoms_spec (ws := w_y_X10_isBelow) B.pre
  have hown : s.vm.findClass RX10 = some m.cls := findClass_of_methodNamed B.named
  have hlocks := B.notSynchronized
  subst hsz
  have hD := hD0.self (sz := s.heap.size)
  generalize hAe : va_A (vC cy a z σ0) s.heap.size = A at hD ⊢
  have hA : ∀ q : Nat, s.heap.size ≤ q → A q := fun q h => by rw [← hAe]; exact Or.inr h
  have hS : va_S A s.heap s.heap [] := va_S.rf
  have hl := lv_entry ([.ref (a 4), .int (L0.1 1)]) (n := 2) (Nat.le_of_ble_eq_true rfl)
  rw [lg_entry_eq]
  generalize (lg_sl ([.ref (a 4), .int (L0.1 1)]) ++ List.replicate (2 - (lg_sl ([.ref (a 4), .int (L0.1 1)])).length) Slot.unset).toArray = ls at hl ⊢
  have hl : lv_has ls 2 [(0, .ref (a 4)), (1, .int (L0.1 1))] := hl
  have blk : ∀ k : Nat, (bC p l e (headSpec w_y_X10_isBelow ({ frames := 0, cells := 0, slots := 0, locals := 0 })).room s m #[.ref (a 4), .int (L0.1 1)] below meth c dC dI cy a z A (kI dC dI cy a z A below #[.ref (a 4), .int (L0.1 1)] s) 2 (y_X10_isBelow k 0) (fun L => [(0, .ref (a 4)), (1, .int (L.1 1))]) 0 (fun L => [])) ∧ (bC p l e (headSpec w_y_X10_isBelow ({ frames := 0, cells := 0, slots := 0, locals := 0 })).room s m #[.ref (a 4), .int (L0.1 1)] below meth c dC dI cy a z A (kI dC dI cy a z A below #[.ref (a 4), .int (L0.1 1)] s) 2 (y_X10_isBelow k 1) (fun L => [(0, .ref (a 4)), (1, .int (L.1 1))]) 18 (fun L => [])) ∧ (bC p l e (headSpec w_y_X10_isBelow ({ frames := 0, cells := 0, slots := 0, locals := 0 })).room s m #[.ref (a 4), .int (L0.1 1)] below meth c dC dI cy a z A (kI dC dI cy a z A below #[.ref (a 4), .int (L0.1 1)] s) 2 (y_X10_isBelow k 2) (fun L => []) 14 (fun L => [])) ∧ (bC p l e (headSpec w_y_X10_isBelow ({ frames := 0, cells := 0, slots := 0, locals := 0 })).room s m #[.ref (a 4), .int (L0.1 1)] below meth c dC dI cy a z A (kI dC dI cy a z A below #[.ref (a 4), .int (L0.1 1)] s) 2 (y_X10_isBelow k 3) (fun L => []) 38 (fun L => [.int (L.1 100)])) ∧ (bC p l e (headSpec w_y_X10_isBelow ({ frames := 0, cells := 0, slots := 0, locals := 0 })).room s m #[.ref (a 4), .int (L0.1 1)] below meth c dC dI cy a z A (kI dC dI cy a z A below #[.ref (a 4), .int (L0.1 1)] s) 2 (y_X10_isBelow k 4) (fun L => []) 37 (fun L => [])) := by
    intro k
    induction k with
    | zero => exact ⟨fun L σ r h => (by cases h), fun L σ r h => (by cases h), fun L σ r h => (by cases h), fun L σ r h => (by cases h), fun L σ r h => (by cases h)⟩
    | succ k ih =>
      refine ⟨?_, ?_, ?_, ?_, ?_⟩
      · intro L σ r h H locs ls hP hD hS hl
        rw [y_X10_isBelow] at h
        refine lv_iload_n hx hb dX10_isBelow_0 rfl (lv_at hl 1 rfl) ?_
        refine lv_if_ge (tgt := 18) hx hb dX10_isBelow_1 (by decide) (fun c1 => ?_) (fun c1 => ?_)
        · rw [if_pos c1] at h
          exact ih.2.1 L σ r h H locs ls hP hD hS (lv_sub hl [0, 1] rfl)
        · rw [if_neg c1] at h
          refine lv_iload_n hx hb dX10_isBelow_4 rfl (lv_at hl 1 rfl) ?_
          refine lv_iconst (v := 4) hx hb dX10_isBelow_5 (by decide) ?_
          refine lv_ishl hx hb dX10_isBelow_6 ?_
          refine lv_if_ge (tgt := 14) hx hb dX10_isBelow_7 (by decide) (fun c2 => ?_) (fun c2 => ?_)
          · rw [if_pos c2] at h
            exact ih.2.2.1 L σ r h H locs ls hP hD hS (lv_sub hl [] rfl)
          · rw [if_neg c2] at h
            refine lv_iconst (v := 1) hx hb dX10_isBelow_10 (by decide) ?_
            refine lv_goto (tgt := 38) hx hb dX10_isBelow_11 (by decide) ?_
            exact ih.2.2.2.1 (lI L 100 1) σ r h H locs ls hP hD hS (lv_sub hl [] rfl)
      · intro L σ r h H locs ls hP hD hS hl
        rw [y_X10_isBelow] at h
        refine lv_aload_n hx hb dX10_isBelow_18 rfl (lv_at hl 0 rfl) ?_
        refine hg_4_0 hx hb hts in_y_X10_isBelow_X10 hown hK hP (hts _ (List.mem_cons_of_mem _ (List.mem_append_left _ (List.mem_append_left _ (List.mem_of_getElem? (i := 0) rfl))))) dX10_isBelow_19 ?_
        refine hg_0_0n hx hb hts in_y_X10_isBelow_X1 hown hK hP (va_Nw.use rfl (hG.1 _ (List.mem_of_getElem? (i := 0) rfl))) dX10_isBelow_22 ?_
        refine lv_iload_n hx hb dX10_isBelow_25 rfl (lv_at hl 1 rfl) ?_
        obtain ⟨q1, h⟩ := kb_ite1 h
        refine hl_3 hx hb hK hP q1 dX10_isBelow_26 ?_
        refine lv_bipush (v := 8) hx hb dX10_isBelow_27 (by decide) ?_
        refine lv_iand hx hb dX10_isBelow_29 ?_
        refine lv_if_eq (tgt := 37) hx hb dX10_isBelow_30 (by decide) (fun c2 => ?_) (fun c2 => ?_)
        · rw [if_pos c2] at h
          exact ih.2.2.2.2 L σ r h H locs ls hP hD hS (lv_sub hl [] rfl)
        · rw [if_neg c2] at h
          refine lv_iconst (v := 1) hx hb dX10_isBelow_33 (by decide) ?_
          refine lv_goto (tgt := 38) hx hb dX10_isBelow_34 (by decide) ?_
          exact ih.2.2.2.1 (lI L 100 1) σ r h H locs ls hP hD hS (lv_sub hl [] rfl)
      · intro L σ r h H locs ls hP hD hS hl
        rw [y_X10_isBelow] at h
        refine lv_iconst (v := 0) hx hb dX10_isBelow_14 (by decide) ?_
        refine lv_goto (tgt := 38) hx hb dX10_isBelow_15 (by decide) ?_
        exact ih.2.2.2.1 (lI L 100 0) σ r h H locs ls hP hD hS (lv_sub hl [] rfl)
      · intro L σ r h H locs ls hP hD hS hl
        rw [y_X10_isBelow] at h
        obtain ⟨q1, h⟩ := kb_ite1 h
        obtain rfl := Option.some.inj h
        exact W.zret (v := (L.1 100)) hx hb hr (nb_bz q1) (fun t ht hW => ⟨⟨(L.1 100), (), rfl, rfl, by rw [ht]; exact hP, va_K.moved hW.alike hK, hD⟩, hS.F ht⟩) hS.2.2 dX10_isBelow_38
      · intro L σ r h H locs ls hP hD hS hl
        rw [y_X10_isBelow] at h
        refine lv_iconst (v := 0) hx hb dX10_isBelow_37 (by decide) ?_
        exact ih.2.2.2.1 (lI L 100 0) σ r h H locs ls hP hD hS (lv_sub hl [] rfl)
  exact (blk k0).1 L0 σ0 r0 h0 s.heap [] ls hP hD hS hl
/-! X10_addLimbs -/
def y_X10_addLimbs : Nat → Nat → LV → CS → Option (Int32 × CS)
  | 0, _, _, _ => none
  | k + 1, 0, L, σ => y_X10_addLimbs k 1 (lI (lJ (lI L 3 ((if ((L.1 1)) < ((L.1 2)) then ((L.1 2)) else ((L.1 1))))) 4 0) 6 0) σ
  | k + 1, 1, L, σ => if ((L.1 3)) ≤ ((L.1 6)) then (y_X10_addLimbs k 2 L σ) else (if ((L.1 1)) ≤ ((L.1 6)) then (y_X10_addLimbs k 3 (lJ L 100 ((L.2.1 4))) σ) else (if ¬ (((L.1 6)) < 0 ∨ 72 ≤ ((L.1 6)).toNatClampNeg) then (y_X10_addLimbs k 4 (lJ (lJ L 100 ((((((σ.2.2.1 5 ((L.1 6)).toNatClampNeg)).toInt64)) &&& 4294967295))) 101 ((L.2.1 4))) σ) else none))
  | k + 1, 2, L, σ => if ¬ (((L.1 3)) < 0 ∨ 72 ≤ ((L.1 3)).toNatClampNeg) then (some ((((L.1 3)) + 1), (uA σ 7 ((L.1 3)).toNatClampNeg ((((L.2.1 4)).toInt32))))) else none
  | k + 1, 3, L, σ => y_X10_addLimbs k 4 (lJ (lJ L 100 0) 101 ((L.2.1 100))) σ
  | k + 1, 4, L, σ => if ((L.1 2)) ≤ ((L.1 6)) then (y_X10_addLimbs k 5 (lJ L 100 ((((L.2.1 101)) + ((L.2.1 100))))) σ) else (if ¬ (((L.1 6)) < 0 ∨ 72 ≤ ((L.1 6)).toNatClampNeg) then (y_X10_addLimbs k 6 (lJ (lJ L 100 ((((((σ.2.2.1 6 ((L.1 6)).toNatClampNeg)).toInt64)) &&& 4294967295))) 101 ((((L.2.1 101)) + ((L.2.1 100))))) σ) else none)
  | k + 1, 5, L, σ => y_X10_addLimbs k 6 (lJ (lJ L 100 0) 101 ((L.2.1 100))) σ
  | k + 1, 6, L, σ => if ¬ (((L.1 6)) < 0 ∨ 72 ≤ ((L.1 6)).toNatClampNeg) then (y_X10_addLimbs k 1 (lI (lJ L 4 (((((((L.2.1 101)) + ((L.2.1 100)))).toUInt64 >>> ((32 : Int32).toInt64.toUInt64 &&& Int64.toUInt64 63)).toInt64))) 6 ((((L.1 6)) + 1))) (uA σ 7 ((L.1 6)).toNatClampNeg ((((((L.2.1 101)) + ((L.2.1 100)))).toInt32)))) else none
  | _ + 1, _ + 7, _, _ => none
def o_y_X10_addLimbs : List Cond := [.methodLink RX10 100 Lib.Math.max.name, .static Lib.Math.max.name, .initialized "java/lang/Math", .code Lib.Math.max.name Lib.Math.max.code 2 (some .int), .fieldLink RX10 9 "SetHouse$Wholes" "left" "[I", .constantLong RX10 105 (4294967295), .fieldLink RX10 18 "SetHouse$Wholes" "result" "[I", .fieldLink RX10 15 "SetHouse$Wholes" "right" "[I"]
theorem o_y_X10_addLimbs_good : o_y_X10_addLimbs.all goodWord = true := by decide +kernel
def p_y_X10_addLimbs : List Cond := o_y_X10_addLimbs ++ []
theorem p_y_X10_addLimbs_good : p_y_X10_addLimbs.all goodWord = true := nb_all2 o_y_X10_addLimbs_good rfl
def w_y_X10_addLimbs : List Cond := .code yX10_addLimbs cX10_addLimbs 7 (some .int) :: (p_y_X10_addLimbs ++ fC)
theorem w_y_X10_addLimbs_good : w_y_X10_addLimbs.all goodWord = true := nb_allc (by decide +kernel) (nb_all2 p_y_X10_addLimbs_good fC_good)
theorem in_y_X10_addLimbs_X10 : ∀ w ∈ wsX100, w ∈ w_y_X10_addLimbs := fun _ h => List.mem_cons_of_mem _ (List.mem_append_right _ (List.mem_append_right _ (List.mem_append_right _ (List.mem_append_right _ (List.mem_append_right _ (List.mem_append_right _ (List.mem_append_right _ (List.mem_append_right _ (List.mem_append_right _ (List.mem_append_right _ (List.mem_append_left _ h)))))))))))
theorem hd_y_X10_addLimbs : yX10_addLimbs.cls = RX10 ∧ yX10_addLimbs.cls ≠ "java/lang/invoke/MethodHandle" ∧ yX10_addLimbs.cls ≠ "java/lang/invoke/VarHandle" ∧ (parseMethodDescriptor yX10_addLimbs.desc).map (fun d => d.parameters.length) = some 2 := by decide +kernel
set_option maxHeartbeats 40000000 in
set_option maxRecDepth 100000 in
theorem c_y_X10_addLimbs (l : Launch) (dC : Nat → ClassId) (dI : Nat → Nat → Nat) (cy : Nat → ClassId) (a z : Nat → Nat) (k0 : Nat) (L0 : LV) (σ0 : CS) (r0 : Int32 × CS) (h0 : y_X10_addLimbs k0 0 L0 σ0 = some r0) (sz : Nat) : Met l yX10_addLimbs w_y_X10_addLimbs ({ frames := 1, cells := 0, slots := 0, locals := 21 }) (va_Pc [.ref (a 4), .int (L0.1 1), .int (L0.1 2)] (nIn (dC, dI) cy sz (vC cy a z σ0))) (va_Qi (fun (x : Int32) (_ : Unit) => x = r0.1) (fun _ t => nOut (dC, dI) cy (va_A (vC cy a z σ0) sz) (vC cy a z r0.2) t) (va_A (vC cy a z σ0) sz)) 0 0 (va_A (vC cy a z σ0) sz) := by
  refine Met.ofW (cc := cX10_addLimbs) (maxL := 7) (ret := (some .int)) (by decide) rfl ?_
  intro p e s m args below meth c s₁ B hml hv
  obtain ⟨rfl, hsz, hP, hK, hD0, hG⟩ := hv
  have hx := B.exec
  have hb := B.bytes
  have hr := B.returns
  have hts := atoms_spec (ws := w_y_X10_addLimbs) B.pre
  have hown : s.vm.findClass RX10 = some m.cls := findClass_of_methodNamed B.named
  have hlocks := B.notSynchronized
  subst hsz
  have hD := hD0.self (sz := s.heap.size)
  generalize hAe : va_A (vC cy a z σ0) s.heap.size = A at hD ⊢
  have hA : ∀ q : Nat, s.heap.size ≤ q → A q := fun q h => by rw [← hAe]; exact Or.inr h
  have hS : va_S A s.heap s.heap [] := va_S.rf
  have hl := lv_entry ([.ref (a 4), .int (L0.1 1), .int (L0.1 2)]) (n := 7) (Nat.le_of_ble_eq_true rfl)
  rw [lg_entry_eq]
  generalize (lg_sl ([.ref (a 4), .int (L0.1 1), .int (L0.1 2)]) ++ List.replicate (7 - (lg_sl ([.ref (a 4), .int (L0.1 1), .int (L0.1 2)])).length) Slot.unset).toArray = ls at hl ⊢
  have hl : lv_has ls 7 [(0, .ref (a 4)), (1, .int (L0.1 1)), (2, .int (L0.1 2))] := hl
  have blk : ∀ k : Nat, (bC p l e (headSpec w_y_X10_addLimbs ({ frames := 1, cells := 0, slots := 0, locals := 21 })).room s m #[.ref (a 4), .int (L0.1 1), .int (L0.1 2)] below meth c dC dI cy a z A (kI dC dI cy a z A below #[.ref (a 4), .int (L0.1 1), .int (L0.1 2)] s) 7 (y_X10_addLimbs k 0) (fun L => [(0, .ref (a 4)), (1, .int (L.1 1)), (2, .int (L.1 2))]) 0 (fun L => [])) ∧ (bC p l e (headSpec w_y_X10_addLimbs ({ frames := 1, cells := 0, slots := 0, locals := 21 })).room s m #[.ref (a 4), .int (L0.1 1), .int (L0.1 2)] below meth c dC dI cy a z A (kI dC dI cy a z A below #[.ref (a 4), .int (L0.1 1), .int (L0.1 2)] s) 7 (y_X10_addLimbs k 1) (fun L => [(0, .ref (a 4)), (1, .int (L.1 1)), (2, .int (L.1 2)), (3, .int (L.1 3)), (4, .long (L.2.1 4)), (6, .int (L.1 6))]) 12 (fun L => [])) ∧ (bC p l e (headSpec w_y_X10_addLimbs ({ frames := 1, cells := 0, slots := 0, locals := 21 })).room s m #[.ref (a 4), .int (L0.1 1), .int (L0.1 2)] below meth c dC dI cy a z A (kI dC dI cy a z A below #[.ref (a 4), .int (L0.1 1), .int (L0.1 2)] s) 7 (y_X10_addLimbs k 2) (fun L => [(0, .ref (a 4)), (3, .int (L.1 3)), (4, .long (L.2.1 4))]) 91 (fun L => [])) ∧ (bC p l e (headSpec w_y_X10_addLimbs ({ frames := 1, cells := 0, slots := 0, locals := 21 })).room s m #[.ref (a 4), .int (L0.1 1), .int (L0.1 2)] below meth c dC dI cy a z A (kI dC dI cy a z A below #[.ref (a 4), .int (L0.1 1), .int (L0.1 2)] s) 7 (y_X10_addLimbs k 3) (fun L => [(0, .ref (a 4)), (1, .int (L.1 1)), (2, .int (L.1 2)), (3, .int (L.1 3)), (6, .int (L.1 6))]) 41 (fun L => [.long (L.2.1 100)])) ∧ (bC p l e (headSpec w_y_X10_addLimbs ({ frames := 1, cells := 0, slots := 0, locals := 21 })).room s m #[.ref (a 4), .int (L0.1 1), .int (L0.1 2)] below meth c dC dI cy a z A (kI dC dI cy a z A below #[.ref (a 4), .int (L0.1 1), .int (L0.1 2)] s) 7 (y_X10_addLimbs k 4) (fun L => [(0, .ref (a 4)), (1, .int (L.1 1)), (2, .int (L.1 2)), (3, .int (L.1 3)), (6, .int (L.1 6))]) 42 (fun L => [.long (L.2.1 100), .long (L.2.1 101)])) ∧ (bC p l e (headSpec w_y_X10_addLimbs ({ frames := 1, cells := 0, slots := 0, locals := 21 })).room s m #[.ref (a 4), .int (L0.1 1), .int (L0.1 2)] below meth c dC dI cy a z A (kI dC dI cy a z A below #[.ref (a 4), .int (L0.1 1), .int (L0.1 2)] s) 7 (y_X10_addLimbs k 5) (fun L => [(0, .ref (a 4)), (1, .int (L.1 1)), (2, .int (L.1 2)), (3, .int (L.1 3)), (6, .int (L.1 6))]) 64 (fun L => [.long (L.2.1 100)])) ∧ (bC p l e (headSpec w_y_X10_addLimbs ({ frames := 1, cells := 0, slots := 0, locals := 21 })).room s m #[.ref (a 4), .int (L0.1 1), .int (L0.1 2)] below meth c dC dI cy a z A (kI dC dI cy a z A below #[.ref (a 4), .int (L0.1 1), .int (L0.1 2)] s) 7 (y_X10_addLimbs k 6) (fun L => [(0, .ref (a 4)), (1, .int (L.1 1)), (2, .int (L.1 2)), (3, .int (L.1 3)), (6, .int (L.1 6))]) 65 (fun L => [.long (L.2.1 100), .long (L.2.1 101)])) := by
    intro k
    induction k with
    | zero => exact ⟨fun L σ r h => (by cases h), fun L σ r h => (by cases h), fun L σ r h => (by cases h), fun L σ r h => (by cases h), fun L σ r h => (by cases h), fun L σ r h => (by cases h), fun L σ r h => (by cases h)⟩
    | succ k ih =>
      refine ⟨?_, ?_, ?_, ?_, ?_, ?_, ?_⟩
      · intro L σ r h H locs ls hP hD hS hl
        rw [y_X10_addLimbs] at h
        refine lv_iload_n hx hb dX10_addLimbs_0 rfl (lv_at hl 1 rfl) ?_
        refine lv_iload_n hx hb dX10_addLimbs_1 rfl (lv_at hl 2 rfl) ?_
        refine va_mmax (x := ((L.1 1))) (y := ((L.1 2))) hx hb (hml.trans hl.1.symm) hown (hts _ (List.mem_cons_of_mem _ (List.mem_append_left _ (List.mem_append_left _ (List.mem_of_getElem? (i := 0) rfl))))) (hts _ (List.mem_cons_of_mem _ (List.mem_append_left _ (List.mem_append_left _ (List.mem_of_getElem? (i := 1) rfl))))) (hts _ (List.mem_cons_of_mem _ (List.mem_append_left _ (List.mem_append_left _ (List.mem_of_getElem? (i := 2) rfl))))) (hts _ (List.mem_cons_of_mem _ (List.mem_append_left _ (List.mem_append_left _ (List.mem_of_getElem? (i := 3) rfl))))) (Nat.le_of_ble_eq_true rfl) (Nat.le_of_ble_eq_true rfl)  (Nat.zero_le _) (Nat.zero_le _) dX10_addLimbs_2 ?_
        refine lv_istore_n (lv' := [(3, .int (if ((L.1 1)) < ((L.1 2)) then ((L.1 2)) else ((L.1 1)))), (0, .ref (a 4)), (1, .int (L.1 1)), (2, .int (L.1 2))]) hx hb dX10_addLimbs_5 rfl hl (by decide) rfl (fun ls hl => ?_)
        refine lv_lconst (v := 0) hx hb dX10_addLimbs_6 (by decide) ?_
        refine lv_lstore (lv' := [(4, .long 0), (3, .int (if ((L.1 1)) < ((L.1 2)) then ((L.1 2)) else ((L.1 1)))), (0, .ref (a 4)), (1, .int (L.1 1)), (2, .int (L.1 2))]) hx hb dX10_addLimbs_7 hl (by decide) rfl (fun ls hl => ?_)
        refine lv_iconst (v := 0) hx hb dX10_addLimbs_9 (by decide) ?_
        refine lv_istore (lv' := [(6, .int 0), (4, .long 0), (3, .int (if ((L.1 1)) < ((L.1 2)) then ((L.1 2)) else ((L.1 1)))), (0, .ref (a 4)), (1, .int (L.1 1)), (2, .int (L.1 2))]) hx hb dX10_addLimbs_10 hl (by decide) rfl (fun ls hl => ?_)
        exact ih.2.1 (lI (lJ (lI L 3 ((if ((L.1 1)) < ((L.1 2)) then ((L.1 2)) else ((L.1 1))))) 4 0) 6 0) σ r h H locs ls hP hD hS (lv_sub hl [3, 4, 5, 2, 1, 0] rfl)
      · intro L σ r h H locs ls hP hD hS hl
        rw [y_X10_addLimbs] at h
        refine lv_iload hx hb dX10_addLimbs_12 (lv_at hl 5 rfl) ?_
        refine lv_iload_n hx hb dX10_addLimbs_14 rfl (lv_at hl 3 rfl) ?_
        refine lv_icmp_ge (tgt := 91) hx hb dX10_addLimbs_15 (by decide) (fun c1 => ?_) (fun c1 => ?_)
        · rw [if_pos c1] at h
          exact ih.2.2.1 L σ r h H locs ls hP hD hS (lv_sub hl [0, 3, 4] rfl)
        · rw [if_neg c1] at h
          refine lv_lload hx hb dX10_addLimbs_18 (lv_at hl 4 rfl) ?_
          refine lv_iload hx hb dX10_addLimbs_20 (lv_at hl 5 rfl) ?_
          refine lv_iload_n hx hb dX10_addLimbs_22 rfl (lv_at hl 1 rfl) ?_
          refine lv_icmp_ge (tgt := 41) hx hb dX10_addLimbs_23 (by decide) (fun c2 => ?_) (fun c2 => ?_)
          · rw [if_pos c2] at h
            exact ih.2.2.2.1 (lJ L 100 ((L.2.1 4))) σ r h H locs ls hP hD hS (lv_sub hl [0, 1, 2, 3, 5] rfl)
          · rw [if_neg c2] at h
            refine lv_aload_n hx hb dX10_addLimbs_26 rfl (lv_at hl 0 rfl) ?_
            refine hg_4_1 hx hb hts in_y_X10_addLimbs_X10 hown hK hP (hts _ (List.mem_cons_of_mem _ (List.mem_append_left _ (List.mem_append_left _ (List.mem_of_getElem? (i := 4) rfl))))) dX10_addLimbs_27 ?_
            refine lv_iload hx hb dX10_addLimbs_30 (lv_at hl 5 rfl) ?_
            obtain ⟨q3, h⟩ := kb_ite1 h
            refine hl_5 hx hb hK hP q3 dX10_addLimbs_32 ?_
            refine lv_i2l (v := ((σ.2.2.1 5 ((L.1 6)).toNatClampNeg)).toInt64) hx hb dX10_addLimbs_33 rfl ?_
            refine lv_ldc2 (v := 4294967295) hx hb hown (hts _ (List.mem_cons_of_mem _ (List.mem_append_left _ (List.mem_append_left _ (List.mem_of_getElem? (i := 5) rfl))))) dX10_addLimbs_34 ?_
            refine lv_land hx hb dX10_addLimbs_37 ?_
            refine lv_goto (tgt := 42) hx hb dX10_addLimbs_38 (by decide) ?_
            exact ih.2.2.2.2.1 (lJ (lJ L 100 ((((((σ.2.2.1 5 ((L.1 6)).toNatClampNeg)).toInt64)) &&& 4294967295))) 101 ((L.2.1 4))) σ r h H locs ls hP hD hS (lv_sub hl [0, 1, 2, 3, 5] rfl)
      · intro L σ r h H locs ls hP hD hS hl
        rw [y_X10_addLimbs] at h
        refine lv_aload_n hx hb dX10_addLimbs_91 rfl (lv_at hl 0 rfl) ?_
        refine hg_4_3 hx hb hts in_y_X10_addLimbs_X10 hown hK hP (hts _ (List.mem_cons_of_mem _ (List.mem_append_left _ (List.mem_append_left _ (List.mem_of_getElem? (i := 6) rfl))))) dX10_addLimbs_92 ?_
        refine lv_iload_n hx hb dX10_addLimbs_95 rfl (lv_at hl 1 rfl) ?_
        refine lv_lload hx hb dX10_addLimbs_96 (lv_at hl 2 rfl) ?_
        refine lv_l2i (v := ((L.2.1 4)).toInt32) hx hb dX10_addLimbs_98 rfl ?_
        obtain ⟨q1, h⟩ := kb_ite1 h
        refine hs_7 hx hb hK hP hD hS q1 dX10_addLimbs_99 (fun H locs hP hD hS => ?_)
        refine lv_iload_n hx hb dX10_addLimbs_100 rfl (lv_at hl 1 rfl) ?_
        refine lv_iconst (v := 1) hx hb dX10_addLimbs_101 (by decide) ?_
        refine lv_iadd hx hb dX10_addLimbs_102 ?_
        obtain rfl := Option.some.inj h
        exact W.iret (v := (((L.1 3)) + 1)) hx hb hr (fun t ht hW => ⟨⟨(((L.1 3)) + 1), (), rfl, rfl, by rw [ht]; exact hP, va_K.moved hW.alike hK, hD⟩, hS.F ht⟩) hS.2.2 dX10_addLimbs_103
      · intro L σ r h H locs ls hP hD hS hl
        rw [y_X10_addLimbs] at h
        refine lv_lconst (v := 0) hx hb dX10_addLimbs_41 (by decide) ?_
        exact ih.2.2.2.2.1 (lJ (lJ L 100 0) 101 ((L.2.1 100))) σ r h H locs ls hP hD hS (lv_sub hl [0, 1, 2, 3, 4] rfl)
      · intro L σ r h H locs ls hP hD hS hl
        rw [y_X10_addLimbs] at h
        refine lv_ladd hx hb dX10_addLimbs_42 ?_
        refine lv_iload hx hb dX10_addLimbs_43 (lv_at hl 4 rfl) ?_
        refine lv_iload_n hx hb dX10_addLimbs_45 rfl (lv_at hl 2 rfl) ?_
        refine lv_icmp_ge (tgt := 64) hx hb dX10_addLimbs_46 (by decide) (fun c1 => ?_) (fun c1 => ?_)
        · rw [if_pos c1] at h
          exact ih.2.2.2.2.2.1 (lJ L 100 ((((L.2.1 101)) + ((L.2.1 100))))) σ r h H locs ls hP hD hS (lv_sub hl [0, 1, 2, 3, 4] rfl)
        · rw [if_neg c1] at h
          refine lv_aload_n hx hb dX10_addLimbs_49 rfl (lv_at hl 0 rfl) ?_
          refine hg_4_2 hx hb hts in_y_X10_addLimbs_X10 hown hK hP (hts _ (List.mem_cons_of_mem _ (List.mem_append_left _ (List.mem_append_left _ (List.mem_of_getElem? (i := 7) rfl))))) dX10_addLimbs_50 ?_
          refine lv_iload hx hb dX10_addLimbs_53 (lv_at hl 4 rfl) ?_
          obtain ⟨q2, h⟩ := kb_ite1 h
          refine hl_6 hx hb hK hP q2 dX10_addLimbs_55 ?_
          refine lv_i2l (v := ((σ.2.2.1 6 ((L.1 6)).toNatClampNeg)).toInt64) hx hb dX10_addLimbs_56 rfl ?_
          refine lv_ldc2 (v := 4294967295) hx hb hown (hts _ (List.mem_cons_of_mem _ (List.mem_append_left _ (List.mem_append_left _ (List.mem_of_getElem? (i := 5) rfl))))) dX10_addLimbs_57 ?_
          refine lv_land hx hb dX10_addLimbs_60 ?_
          refine lv_goto (tgt := 65) hx hb dX10_addLimbs_61 (by decide) ?_
          exact ih.2.2.2.2.2.2 (lJ (lJ L 100 ((((((σ.2.2.1 6 ((L.1 6)).toNatClampNeg)).toInt64)) &&& 4294967295))) 101 ((((L.2.1 101)) + ((L.2.1 100))))) σ r h H locs ls hP hD hS (lv_sub hl [0, 1, 2, 3, 4] rfl)
      · intro L σ r h H locs ls hP hD hS hl
        rw [y_X10_addLimbs] at h
        refine lv_lconst (v := 0) hx hb dX10_addLimbs_64 (by decide) ?_
        exact ih.2.2.2.2.2.2 (lJ (lJ L 100 0) 101 ((L.2.1 100))) σ r h H locs ls hP hD hS (lv_sub hl [0, 1, 2, 3, 4] rfl)
      · intro L σ r h H locs ls hP hD hS hl
        rw [y_X10_addLimbs] at h
        refine lv_ladd hx hb dX10_addLimbs_65 ?_
        refine lv_lstore (lv' := [(4, .long (((L.2.1 101)) + ((L.2.1 100)))), (0, .ref (a 4)), (1, .int (L.1 1)), (2, .int (L.1 2)), (3, .int (L.1 3)), (6, .int (L.1 6))]) hx hb dX10_addLimbs_66 hl (by decide) rfl (fun ls hl => ?_)
        refine lv_aload_n hx hb dX10_addLimbs_68 rfl (lv_at hl 1 rfl) ?_
        refine hg_4_3 hx hb hts in_y_X10_addLimbs_X10 hown hK hP (hts _ (List.mem_cons_of_mem _ (List.mem_append_left _ (List.mem_append_left _ (List.mem_of_getElem? (i := 6) rfl))))) dX10_addLimbs_69 ?_
        refine lv_iload hx hb dX10_addLimbs_72 (lv_at hl 5 rfl) ?_
        refine lv_lload hx hb dX10_addLimbs_74 (lv_at hl 0 rfl) ?_
        refine lv_l2i (v := ((((L.2.1 101)) + ((L.2.1 100)))).toInt32) hx hb dX10_addLimbs_76 rfl ?_
        obtain ⟨q1, h⟩ := kb_ite1 h
        refine hs_7 hx hb hK hP hD hS q1 dX10_addLimbs_77 (fun H locs hP hD hS => ?_)
        refine lv_lload hx hb dX10_addLimbs_78 (lv_at hl 0 rfl) ?_
        refine lv_bipush (v := 32) hx hb dX10_addLimbs_80 (by decide) ?_
        refine lv_lushr (v := (((((L.2.1 101)) + ((L.2.1 100)))).toUInt64 >>> ((32 : Int32).toInt64.toUInt64 &&& Int64.toUInt64 63)).toInt64) hx hb dX10_addLimbs_82 rfl ?_
        refine lv_lstore (lv' := [(4, .long ((((((L.2.1 101)) + ((L.2.1 100)))).toUInt64 >>> ((32 : Int32).toInt64.toUInt64 &&& Int64.toUInt64 63)).toInt64)), (0, .ref (a 4)), (1, .int (L.1 1)), (2, .int (L.1 2)), (3, .int (L.1 3)), (6, .int (L.1 6))]) hx hb dX10_addLimbs_83 hl (by decide) rfl (fun ls hl => ?_)
        refine lv_iinc (v := ((L.1 6)) + 1) (lv' := [(6, .int (((L.1 6)) + 1)), (4, .long ((((((L.2.1 101)) + ((L.2.1 100)))).toUInt64 >>> ((32 : Int32).toInt64.toUInt64 &&& Int64.toUInt64 63)).toInt64)), (0, .ref (a 4)), (1, .int (L.1 1)), (2, .int (L.1 2)), (3, .int (L.1 3))]) hx hb dX10_addLimbs_85 hl (k := 5) rfl rfl (by decide) rfl (fun ls hl => ?_)
        refine lv_goto (tgt := 12) hx hb dX10_addLimbs_88 (by decide) ?_
        exact ih.2.1 (lI (lJ L 4 (((((((L.2.1 101)) + ((L.2.1 100)))).toUInt64 >>> ((32 : Int32).toInt64.toUInt64 &&& Int64.toUInt64 63)).toInt64))) 6 ((((L.1 6)) + 1))) (uA σ 7 ((L.1 6)).toNatClampNeg ((((((L.2.1 101)) + ((L.2.1 100)))).toInt32))) r h H locs ls hP hD hS (lv_sub hl [2, 3, 4, 5, 1, 0] rfl)
  exact (blk k0).1 L0 σ0 r0 h0 s.heap [] ls hP hD hS hl
/-! X10_made -/
def y_X10_made : Nat → Nat → LV → CS → Option (Int32 × CS)
  | 0, _, _, _ => none
  | k + 1, 0, L, σ => y_X10_made k 1 (lI (lI L 3 ((L.1 1))) 4 ((L.1 1))) σ
  | k + 1, 1, L, σ => if ((L.1 4)) ≤ 0 then (y_X10_made k 2 L σ) else (if ¬ (((((L.1 4)) - 1)) < 0 ∨ 72 ≤ ((((L.1 4)) - 1)).toNatClampNeg) then (if ((σ.2.2.1 7 ((((L.1 4)) - 1)).toNatClampNeg)) = 0 then (y_X10_made k 1 (lI (lI L 3 ((((L.1 4)) - 1))) 4 ((((L.1 4)) + (-1)))) σ) else (y_X10_made k 2 L σ)) else none)
  | k + 1, 2, L, σ => if ¬ ((0 : Int32) < 0 ∨ 72 ≤ (0 : Int32).toNatClampNeg) then (if 1 < ((L.1 3)) then (y_X10_made k 3 L σ) else (if ((σ.2.2.1 7 (0 : Int32).toNatClampNeg)) < 0 then (y_X10_made k 3 L σ) else (if ((σ.2.2.1 7 (0 : Int32).toNatClampNeg)) < 134217728 then (y_X10_made k 4 (lI L 4 ((σ.2.2.1 7 (0 : Int32).toNatClampNeg))) σ) else (if ((L.1 2)) = 0 then (y_X10_made k 3 L σ) else (if ((σ.2.2.1 7 (0 : Int32).toNatClampNeg)) = 134217728 then (y_X10_made k 4 (lI L 4 ((σ.2.2.1 7 (0 : Int32).toNatClampNeg))) σ) else (y_X10_made k 3 L σ)))))) else none
  | k + 1, 3, L, σ => if ((L.1 3)) = 0 then (y_X10_made k 6 (lI L 100 ((-1610612736))) σ) else (y_X10_made k 5 L σ)
  | k + 1, 4, L, σ => if ((L.1 3)) = 0 then (y_X10_made k 8 (lI L 100 ((-1610612736))) σ) else (y_X10_made k 7 L σ)
  | k + 1, 5, L, σ => oc (y_X1_makeWhole__a7 k 0 (lI (lI lZ 2 ((L.1 3))) 3 ((L.1 2))) σ) (fun r1 => y_X10_made k 6 (lI L 100 r1.1) r1.2)
  | k + 1, 6, L, σ => some ((L.1 100), σ)
  | k + 1, 7, L, σ => if ((L.1 2)) = 0 then (y_X10_made k 9 L σ) else (y_X10_made k 10 (lI L 100 ((- ((L.1 4))))) σ)
  | k + 1, 8, L, σ => some ((L.1 100), σ)
  | k + 1, 9, L, σ => y_X10_made k 10 (lI L 100 ((L.1 4))) σ
  | k + 1, 10, L, σ => oc (y_X10_small k 0 (lI lZ 0 ((L.1 100))) σ) (fun r1 => y_X10_made k 8 (lI L 100 r1.1) r1.2)
  | _ + 1, _ + 11, _, _ => none
def o_y_X10_made : List Cond := [.fieldLink RX10 18 "SetHouse$Wholes" "result" "[I", .constant RX10 57 (134217728), .constant RX10 37 (-1610612736), .fieldLink RX10 33 "SetHouse$Wholes" "heap" "LSetHouse$Heap;", .methodLink RX10 47 yX1_makeWhole, .instanceMethod yX1_makeWhole, .selects RX1 yX1_makeWhole yX1_makeWhole, .initialized RX1, .methodLink RX10 43 yX10_small, .static yX10_small, .initialized RX10]
theorem o_y_X10_made_good : o_y_X10_made.all goodWord = true := by decide +kernel
def p_y_X10_made : List Cond := o_y_X10_made ++ ((.code yX1_makeWhole cX1_makeWhole 5 (some .int) :: p_y_X1_makeWhole__a7) ++ ((.code yX10_small cX10_small 1 (some .int) :: p_y_X10_small) ++ []))
theorem p_y_X10_made_good : p_y_X10_made.all goodWord = true := nb_all2 o_y_X10_made_good (nb_all2 (nb_allc (by decide +kernel) p_y_X1_makeWhole__a7_good) (nb_all2 (nb_allc (by decide +kernel) p_y_X10_small_good) rfl))
def w_y_X10_made : List Cond := .code yX10_made cX10_made 5 (some .int) :: (p_y_X10_made ++ fC)
theorem w_y_X10_made_good : w_y_X10_made.all goodWord = true := nb_allc (by decide +kernel) (nb_all2 p_y_X10_made_good fC_good)
theorem in_y_X10_made_X10 : ∀ w ∈ wsX100, w ∈ w_y_X10_made := fun _ h => List.mem_cons_of_mem _ (List.mem_append_right _ (List.mem_append_right _ (List.mem_append_right _ (List.mem_append_right _ (List.mem_append_right _ (List.mem_append_right _ (List.mem_append_right _ (List.mem_append_right _ (List.mem_append_right _ (List.mem_append_right _ (List.mem_append_left _ h)))))))))))
theorem hd_y_X10_made : yX10_made.cls = RX10 ∧ yX10_made.cls ≠ "java/lang/invoke/MethodHandle" ∧ yX10_made.cls ≠ "java/lang/invoke/VarHandle" ∧ (parseMethodDescriptor yX10_made.desc).map (fun d => d.parameters.length) = some 2 := by decide +kernel
theorem gg_y_X10_made_X10_small : GoodIn w_y_X10_made w_y_X10_small := goodIn_sub (fun w h => (List.mem_cons.mp h).elim (fun e => (List.mem_cons_of_mem _ (List.mem_append_left _ (List.mem_append_right _ (List.mem_append_right _ (List.mem_append_left _ (List.mem_cons.mpr (Or.inl e)))))))) (fun h => (List.mem_append.mp h).elim (fun h => (List.mem_cons_of_mem _ (List.mem_append_left _ (List.mem_append_right _ (List.mem_append_right _ (List.mem_append_left _ (List.mem_cons_of_mem _ h))))))) (fun h => List.mem_cons_of_mem _ (List.mem_append_right _ h)))) w_y_X10_small_good
theorem g_y_X10_made_X10_small_S43 : GoodIn w_y_X10_made (va_wsS RX10 43 yX10_small w_y_X10_small) := goodIn_app (nb_g3 (List.mem_cons_of_mem _ (List.mem_append_left _ (List.mem_append_left _ (List.mem_of_getElem? (i := 8) rfl)))) (List.mem_cons_of_mem _ (List.mem_append_left _ (List.mem_append_left _ (List.mem_of_getElem? (i := 9) rfl)))) (List.mem_cons_of_mem _ (List.mem_append_left _ (List.mem_append_left _ (List.mem_of_getElem? (i := 10) rfl)))) (by decide +kernel)) gg_y_X10_made_X10_small
theorem gg_y_X10_made_X1_makeWhole__a7 : GoodIn w_y_X10_made w_y_X1_makeWhole__a7 := goodIn_sub (fun w h => (List.mem_cons.mp h).elim (fun e => (List.mem_cons_of_mem _ (List.mem_append_left _ (List.mem_append_right _ (List.mem_append_left _ (List.mem_cons.mpr (Or.inl e))))))) (fun h => (List.mem_append.mp h).elim (fun h => (List.mem_cons_of_mem _ (List.mem_append_left _ (List.mem_append_right _ (List.mem_append_left _ (List.mem_cons_of_mem _ h)))))) (fun h => List.mem_cons_of_mem _ (List.mem_append_right _ h)))) w_y_X1_makeWhole__a7_good
theorem g_y_X10_made_X1_makeWhole__a7_V47 : GoodIn w_y_X10_made (wsV RX10 47 RX1 yX1_makeWhole w_y_X1_makeWhole__a7) := goodIn_app (nb_g4 (List.mem_cons_of_mem _ (List.mem_append_left _ (List.mem_append_left _ (List.mem_of_getElem? (i := 4) rfl)))) (List.mem_cons_of_mem _ (List.mem_append_left _ (List.mem_append_left _ (List.mem_of_getElem? (i := 5) rfl)))) (List.mem_cons_of_mem _ (List.mem_append_left _ (List.mem_append_left _ (List.mem_of_getElem? (i := 6) rfl)))) (List.mem_cons_of_mem _ (List.mem_append_left _ (List.mem_append_left _ (List.mem_of_getElem? (i := 7) rfl)))) (by decide +kernel)) gg_y_X10_made_X1_makeWhole__a7
set_option maxHeartbeats 40000000 in
set_option maxRecDepth 100000 in
theorem c_y_X10_made (l : Launch) (dC : Nat → ClassId) (dI : Nat → Nat → Nat) (cy : Nat → ClassId) (a z : Nat → Nat) (k0 : Nat) (L0 : LV) (σ0 : CS) (r0 : Int32 × CS) (h0 : y_X10_made k0 0 L0 σ0 = some r0) (sz : Nat) : Met l yX10_made w_y_X10_made ({ frames := 2, cells := 0, slots := 0, locals := 84 }) (va_Pc [.ref (a 4), .int (L0.1 1), .int (L0.1 2)] (nIn (dC, dI) cy sz (vC cy a z σ0))) (va_Qi (fun (x : Int32) (_ : Unit) => x = r0.1) (fun _ t => nOut (dC, dI) cy (va_A (vC cy a z σ0) sz) (vC cy a z r0.2) t) (va_A (vC cy a z σ0) sz)) 0 0 (va_A (vC cy a z σ0) sz) := by
  refine Met.ofW (cc := cX10_made) (maxL := 5) (ret := (some .int)) (by decide) rfl ?_
  intro p e s m args below meth c s₁ B hml hv
  obtain ⟨rfl, hsz, hP, hK, hD0, hG⟩ := hv
  have hx := B.exec
  have hb := B.bytes
  have hr := B.returns
  have hts := atoms_spec (ws := w_y_X10_made) B.pre
  have hown : s.vm.findClass RX10 = some m.cls := findClass_of_methodNamed B.named
  have hlocks := B.notSynchronized
  subst hsz
  have hD := hD0.self (sz := s.heap.size)
  generalize hAe : va_A (vC cy a z σ0) s.heap.size = A at hD ⊢
  have hA : ∀ q : Nat, s.heap.size ≤ q → A q := fun q h => by rw [← hAe]; exact Or.inr h
  have hS : va_S A s.heap s.heap [] := va_S.rf
  have hl := lv_entry ([.ref (a 4), .int (L0.1 1), .int (L0.1 2)]) (n := 5) (Nat.le_of_ble_eq_true rfl)
  rw [lg_entry_eq]
  generalize (lg_sl ([.ref (a 4), .int (L0.1 1), .int (L0.1 2)]) ++ List.replicate (5 - (lg_sl ([.ref (a 4), .int (L0.1 1), .int (L0.1 2)])).length) Slot.unset).toArray = ls at hl ⊢
  have hl : lv_has ls 5 [(0, .ref (a 4)), (1, .int (L0.1 1)), (2, .int (L0.1 2))] := hl
  have blk : ∀ k : Nat, (bC p l e (headSpec w_y_X10_made ({ frames := 2, cells := 0, slots := 0, locals := 84 })).room s m #[.ref (a 4), .int (L0.1 1), .int (L0.1 2)] below meth c dC dI cy a z A (kI dC dI cy a z A below #[.ref (a 4), .int (L0.1 1), .int (L0.1 2)] s) 5 (y_X10_made k 0) (fun L => [(0, .ref (a 4)), (1, .int (L.1 1)), (2, .int (L.1 2))]) 0 (fun L => [])) ∧ (bC p l e (headSpec w_y_X10_made ({ frames := 2, cells := 0, slots := 0, locals := 84 })).room s m #[.ref (a 4), .int (L0.1 1), .int (L0.1 2)] below meth c dC dI cy a z A (kI dC dI cy a z A below #[.ref (a 4), .int (L0.1 1), .int (L0.1 2)] s) 5 (y_X10_made k 1) (fun L => [(0, .ref (a 4)), (2, .int (L.1 2)), (3, .int (L.1 3)), (4, .int (L.1 4))]) 5 (fun L => [])) ∧ (bC p l e (headSpec w_y_X10_made ({ frames := 2, cells := 0, slots := 0, locals := 84 })).room s m #[.ref (a 4), .int (L0.1 1), .int (L0.1 2)] below meth c dC dI cy a z A (kI dC dI cy a z A below #[.ref (a 4), .int (L0.1 1), .int (L0.1 2)] s) 5 (y_X10_made k 2) (fun L => [(0, .ref (a 4)), (2, .int (L.1 2)), (3, .int (L.1 3))]) 33 (fun L => [])) ∧ (bC p l e (headSpec w_y_X10_made ({ frames := 2, cells := 0, slots := 0, locals := 84 })).room s m #[.ref (a 4), .int (L0.1 1), .int (L0.1 2)] below meth c dC dI cy a z A (kI dC dI cy a z A below #[.ref (a 4), .int (L0.1 1), .int (L0.1 2)] s) 5 (y_X10_made k 3) (fun L => [(0, .ref (a 4)), (2, .int (L.1 2)), (3, .int (L.1 3))]) 94 (fun L => [])) ∧ (bC p l e (headSpec w_y_X10_made ({ frames := 2, cells := 0, slots := 0, locals := 84 })).room s m #[.ref (a 4), .int (L0.1 1), .int (L0.1 2)] below meth c dC dI cy a z A (kI dC dI cy a z A below #[.ref (a 4), .int (L0.1 1), .int (L0.1 2)] s) 5 (y_X10_made k 4) (fun L => [(2, .int (L.1 2)), (3, .int (L.1 3)), (4, .int (L.1 4))]) 69 (fun L => [])) ∧ (bC p l e (headSpec w_y_X10_made ({ frames := 2, cells := 0, slots := 0, locals := 84 })).room s m #[.ref (a 4), .int (L0.1 1), .int (L0.1 2)] below meth c dC dI cy a z A (kI dC dI cy a z A below #[.ref (a 4), .int (L0.1 1), .int (L0.1 2)] s) 5 (y_X10_made k 5) (fun L => [(0, .ref (a 4)), (2, .int (L.1 2)), (3, .int (L.1 3))]) 103 (fun L => [])) ∧ (bC p l e (headSpec w_y_X10_made ({ frames := 2, cells := 0, slots := 0, locals := 84 })).room s m #[.ref (a 4), .int (L0.1 1), .int (L0.1 2)] below meth c dC dI cy a z A (kI dC dI cy a z A below #[.ref (a 4), .int (L0.1 1), .int (L0.1 2)] s) 5 (y_X10_made k 6) (fun L => []) 116 (fun L => [.int (L.1 100)])) ∧ (bC p l e (headSpec w_y_X10_made ({ frames := 2, cells := 0, slots := 0, locals := 84 })).room s m #[.ref (a 4), .int (L0.1 1), .int (L0.1 2)] below meth c dC dI cy a z A (kI dC dI cy a z A below #[.ref (a 4), .int (L0.1 1), .int (L0.1 2)] s) 5 (y_X10_made k 7) (fun L => [(2, .int (L.1 2)), (4, .int (L.1 4))]) 78 (fun L => [])) ∧ (bC p l e (headSpec w_y_X10_made ({ frames := 2, cells := 0, slots := 0, locals := 84 })).room s m #[.ref (a 4), .int (L0.1 1), .int (L0.1 2)] below meth c dC dI cy a z A (kI dC dI cy a z A below #[.ref (a 4), .int (L0.1 1), .int (L0.1 2)] s) 5 (y_X10_made k 8) (fun L => []) 93 (fun L => [.int (L.1 100)])) ∧ (bC p l e (headSpec w_y_X10_made ({ frames := 2, cells := 0, slots := 0, locals := 84 })).room s m #[.ref (a 4), .int (L0.1 1), .int (L0.1 2)] below meth c dC dI cy a z A (kI dC dI cy a z A below #[.ref (a 4), .int (L0.1 1), .int (L0.1 2)] s) 5 (y_X10_made k 9) (fun L => [(4, .int (L.1 4))]) 88 (fun L => [])) ∧ (bC p l e (headSpec w_y_X10_made ({ frames := 2, cells := 0, slots := 0, locals := 84 })).room s m #[.ref (a 4), .int (L0.1 1), .int (L0.1 2)] below meth c dC dI cy a z A (kI dC dI cy a z A below #[.ref (a 4), .int (L0.1 1), .int (L0.1 2)] s) 5 (y_X10_made k 10) (fun L => []) 90 (fun L => [.int (L.1 100)])) := by
    intro k
    induction k with
    | zero => exact ⟨fun L σ r h => (by cases h), fun L σ r h => (by cases h), fun L σ r h => (by cases h), fun L σ r h => (by cases h), fun L σ r h => (by cases h), fun L σ r h => (by cases h), fun L σ r h => (by cases h), fun L σ r h => (by cases h), fun L σ r h => (by cases h), fun L σ r h => (by cases h), fun L σ r h => (by cases h)⟩
    | succ k ih =>
      refine ⟨?_, ?_, ?_, ?_, ?_, ?_, ?_, ?_, ?_, ?_, ?_⟩
      · intro L σ r h H locs ls hP hD hS hl
        rw [y_X10_made] at h
        refine lv_iload_n hx hb dX10_made_0 rfl (lv_at hl 1 rfl) ?_
        refine lv_istore_n (lv' := [(3, .int (L.1 1)), (0, .ref (a 4)), (1, .int (L.1 1)), (2, .int (L.1 2))]) hx hb dX10_made_1 rfl hl (by decide) rfl (fun ls hl => ?_)
        refine lv_iload_n hx hb dX10_made_2 rfl (lv_at hl 2 rfl) ?_
        refine lv_istore (lv' := [(4, .int (L.1 1)), (3, .int (L.1 1)), (0, .ref (a 4)), (1, .int (L.1 1)), (2, .int (L.1 2))]) hx hb dX10_made_3 hl (by decide) rfl (fun ls hl => ?_)
        exact ih.2.1 (lI (lI L 3 ((L.1 1))) 4 ((L.1 1))) σ r h H locs ls hP hD hS (lv_sub hl [2, 4, 1, 0] rfl)
      · intro L σ r h H locs ls hP hD hS hl
        rw [y_X10_made] at h
        refine lv_iload hx hb dX10_made_5 (lv_at hl 3 rfl) ?_
        refine lv_if_le (tgt := 33) hx hb dX10_made_7 (by decide) (fun c1 => ?_) (fun c1 => ?_)
        · rw [if_pos c1] at h
          exact ih.2.2.1 L σ r h H locs ls hP hD hS (lv_sub hl [0, 1, 2] rfl)
        · rw [if_neg c1] at h
          refine lv_aload_n hx hb dX10_made_10 rfl (lv_at hl 0 rfl) ?_
          refine hg_4_3 hx hb hts in_y_X10_made_X10 hown hK hP (hts _ (List.mem_cons_of_mem _ (List.mem_append_left _ (List.mem_append_left _ (List.mem_of_getElem? (i := 0) rfl))))) dX10_made_11 ?_
          refine lv_iload hx hb dX10_made_14 (lv_at hl 3 rfl) ?_
          refine lv_iconst (v := 1) hx hb dX10_made_16 (by decide) ?_
          refine lv_isub hx hb dX10_made_17 ?_
          obtain ⟨q2, h⟩ := kb_ite1 h
          refine hl_7 hx hb hK hP q2 dX10_made_18 ?_
          refine lv_if_ne (tgt := 33) hx hb dX10_made_19 (by decide) (fun c3 => ?_) (fun c3 => ?_)
          · rw [if_neg c3] at h
            exact ih.2.2.1 L σ r h H locs ls hP hD hS (lv_sub hl [0, 1, 2] rfl)
          · rw [if_pos c3] at h
            refine lv_iload hx hb dX10_made_22 (lv_at hl 3 rfl) ?_
            refine lv_iconst (v := 1) hx hb dX10_made_24 (by decide) ?_
            refine lv_isub hx hb dX10_made_25 ?_
            refine lv_istore_n (lv' := [(3, .int (((L.1 4)) - 1)), (0, .ref (a 4)), (2, .int (L.1 2)), (4, .int (L.1 4))]) hx hb dX10_made_26 rfl hl (by decide) rfl (fun ls hl => ?_)
            refine lv_iinc (v := ((L.1 4)) + (-1)) (lv' := [(4, .int (((L.1 4)) + (-1))), (3, .int (((L.1 4)) - 1)), (0, .ref (a 4)), (2, .int (L.1 2))]) hx hb dX10_made_27 hl (k := 3) rfl rfl (by decide) rfl (fun ls hl => ?_)
            refine lv_goto (tgt := 5) hx hb dX10_made_30 (by decide) ?_
            exact ih.2.1 (lI (lI L 3 ((((L.1 4)) - 1))) 4 ((((L.1 4)) + (-1)))) σ r h H locs ls hP hD hS (lv_sub hl [2, 3, 1, 0] rfl)
      · intro L σ r h H locs ls hP hD hS hl
        rw [y_X10_made] at h
        refine lv_aload_n hx hb dX10_made_33 rfl (lv_at hl 0 rfl) ?_
        refine hg_4_3 hx hb hts in_y_X10_made_X10 hown hK hP (hts _ (List.mem_cons_of_mem _ (List.mem_append_left _ (List.mem_append_left _ (List.mem_of_getElem? (i := 0) rfl))))) dX10_made_34 ?_
        refine lv_iconst (v := 0) hx hb dX10_made_37 (by decide) ?_
        obtain ⟨q1, h⟩ := kb_ite1 h
        refine hl_7 hx hb hK hP q1 dX10_made_38 ?_
        refine lv_istore (lv' := [(4, .int (σ.2.2.1 7 (0 : Int32).toNatClampNeg)), (0, .ref (a 4)), (2, .int (L.1 2)), (3, .int (L.1 3))]) hx hb dX10_made_39 hl (by decide) rfl (fun ls hl => ?_)
        refine lv_iload_n hx hb dX10_made_41 rfl (lv_at hl 3 rfl) ?_
        refine lv_iconst (v := 1) hx hb dX10_made_42 (by decide) ?_
        refine lv_icmp_gt (tgt := 94) hx hb dX10_made_43 (by decide) (fun c2 => ?_) (fun c2 => ?_)
        · rw [if_pos c2] at h
          exact ih.2.2.2.1 L σ r h H locs ls hP hD hS (lv_sub hl [1, 2, 3] rfl)
        · rw [if_neg c2] at h
          refine lv_iload hx hb dX10_made_46 (lv_at hl 0 rfl) ?_
          refine lv_if_lt (tgt := 94) hx hb dX10_made_48 (by decide) (fun c3 => ?_) (fun c3 => ?_)
          · rw [if_pos c3] at h
            exact ih.2.2.2.1 L σ r h H locs ls hP hD hS (lv_sub hl [1, 2, 3] rfl)
          · rw [if_neg c3] at h
            refine lv_iload hx hb dX10_made_51 (lv_at hl 0 rfl) ?_
            refine lv_ldc (v := 134217728) hx hb hown (hts _ (List.mem_cons_of_mem _ (List.mem_append_left _ (List.mem_append_left _ (List.mem_of_getElem? (i := 1) rfl))))) dX10_made_53 ?_
            refine lv_icmp_lt (tgt := 69) hx hb dX10_made_55 (by decide) (fun c4 => ?_) (fun c4 => ?_)
            · rw [if_pos c4] at h
              exact ih.2.2.2.2.1 (lI L 4 ((σ.2.2.1 7 (0 : Int32).toNatClampNeg))) σ r h H locs ls hP hD hS (lv_sub hl [2, 3, 0] rfl)
            · rw [if_neg c4] at h
              refine lv_iload_n hx hb dX10_made_58 rfl (lv_at hl 2 rfl) ?_
              refine lv_if_eq (tgt := 94) hx hb dX10_made_59 (by decide) (fun c5 => ?_) (fun c5 => ?_)
              · rw [if_pos c5] at h
                exact ih.2.2.2.1 L σ r h H locs ls hP hD hS (lv_sub hl [1, 2, 3] rfl)
              · rw [if_neg c5] at h
                refine lv_iload hx hb dX10_made_62 (lv_at hl 0 rfl) ?_
                refine lv_ldc (v := 134217728) hx hb hown (hts _ (List.mem_cons_of_mem _ (List.mem_append_left _ (List.mem_append_left _ (List.mem_of_getElem? (i := 1) rfl))))) dX10_made_64 ?_
                refine lv_icmp_ne (tgt := 94) hx hb dX10_made_66 (by decide) (fun c6 => ?_) (fun c6 => ?_)
                · rw [if_neg c6] at h
                  exact ih.2.2.2.1 L σ r h H locs ls hP hD hS (lv_sub hl [1, 2, 3] rfl)
                · rw [if_pos c6] at h
                  exact ih.2.2.2.2.1 (lI L 4 ((σ.2.2.1 7 (0 : Int32).toNatClampNeg))) σ r h H locs ls hP hD hS (lv_sub hl [2, 3, 0] rfl)
      · intro L σ r h H locs ls hP hD hS hl
        rw [y_X10_made] at h
        refine lv_iload_n hx hb dX10_made_94 rfl (lv_at hl 2 rfl) ?_
        refine lv_if_ne (tgt := 103) hx hb dX10_made_95 (by decide) (fun c1 => ?_) (fun c1 => ?_)
        · rw [if_neg c1] at h
          exact ih.2.2.2.2.2.1 L σ r h H locs ls hP hD hS (lv_sub hl [0, 1, 2] rfl)
        · rw [if_pos c1] at h
          refine lv_ldc (v := (-1610612736)) hx hb hown (hts _ (List.mem_cons_of_mem _ (List.mem_append_left _ (List.mem_append_left _ (List.mem_of_getElem? (i := 2) rfl))))) dX10_made_98 ?_
          refine lv_goto (tgt := 116) hx hb dX10_made_100 (by decide) ?_
          exact ih.2.2.2.2.2.2.1 (lI L 100 ((-1610612736))) σ r h H locs ls hP hD hS (lv_sub hl [] rfl)
      · intro L σ r h H locs ls hP hD hS hl
        rw [y_X10_made] at h
        refine lv_iload_n hx hb dX10_made_69 rfl (lv_at hl 1 rfl) ?_
        refine lv_if_ne (tgt := 78) hx hb dX10_made_70 (by decide) (fun c1 => ?_) (fun c1 => ?_)
        · rw [if_neg c1] at h
          exact ih.2.2.2.2.2.2.2.1 L σ r h H locs ls hP hD hS (lv_sub hl [0, 2] rfl)
        · rw [if_pos c1] at h
          refine lv_ldc (v := (-1610612736)) hx hb hown (hts _ (List.mem_cons_of_mem _ (List.mem_append_left _ (List.mem_append_left _ (List.mem_of_getElem? (i := 2) rfl))))) dX10_made_73 ?_
          refine lv_goto (tgt := 93) hx hb dX10_made_75 (by decide) ?_
          exact ih.2.2.2.2.2.2.2.2.1 (lI L 100 ((-1610612736))) σ r h H locs ls hP hD hS (lv_sub hl [] rfl)
      · intro L σ r h H locs ls hP hD hS hl
        rw [y_X10_made] at h
        refine lv_aload_n hx hb dX10_made_103 rfl (lv_at hl 0 rfl) ?_
        refine hg_4_0 hx hb hts in_y_X10_made_X10 hown hK hP (hts _ (List.mem_cons_of_mem _ (List.mem_append_left _ (List.mem_append_left _ (List.mem_of_getElem? (i := 3) rfl))))) dX10_made_104 ?_
        refine lv_aload_n hx hb dX10_made_107 rfl (lv_at hl 0 rfl) ?_
        refine hg_4_3 hx hb hts in_y_X10_made_X10 hown hK hP (hts _ (List.mem_cons_of_mem _ (List.mem_append_left _ (List.mem_append_left _ (List.mem_of_getElem? (i := 0) rfl))))) dX10_made_108 ?_
        refine lv_iload_n hx hb dX10_made_111 rfl (lv_at hl 2 rfl) ?_
        refine lv_iload_n hx hb dX10_made_112 rfl (lv_at hl 1 rfl) ?_
        obtain ⟨r1, hc1, h⟩ := oc_ex h
        refine kc_i (va_runV (As := [.ref (a 7), .int (L.1 3), .int (L.1 2)]) (rest := []) ⟨hx, hb, hml, hown, hts⟩ (c_y_X1_makeWhole__a7 l dC dI cy a z k (lI (lI lZ 2 ((L.1 3))) 3 ((L.1 2))) σ r1 hc1 H.size) (cwV 3 hts g_y_X10_made_X1_makeWhole__a7_V47 rfl rfl rfl hd_y_X1_makeWhole__a7 ⟨Nat.le_of_ble_eq_true rfl, Nat.le_of_ble_eq_true rfl⟩) ⟨nb_blind, va_recv hK hP (ci := 1) (q0 := 0) rfl rfl, (kb_pre hK hG hP hD)⟩ rfl rfl hl.1 rfl (lv_room (Nat.le_of_ble_eq_true rfl)) dX10_made_113 ⟨Nat.le_refl _, Nat.le_refl _⟩) hA hP hD hS (fun H locs hP hD hS => ?_)
        exact ih.2.2.2.2.2.2.1 (lI L 100 r1.1) r1.2 r h H locs ls hP hD hS (lv_sub hl [] rfl)
      · intro L σ r h H locs ls hP hD hS hl
        rw [y_X10_made] at h
        obtain rfl := Option.some.inj h
        exact W.iret (v := (L.1 100)) hx hb hr (fun t ht hW => ⟨⟨(L.1 100), (), rfl, rfl, by rw [ht]; exact hP, va_K.moved hW.alike hK, hD⟩, hS.F ht⟩) hS.2.2 dX10_made_116
      · intro L σ r h H locs ls hP hD hS hl
        rw [y_X10_made] at h
        refine lv_iload_n hx hb dX10_made_78 rfl (lv_at hl 0 rfl) ?_
        refine lv_if_eq (tgt := 88) hx hb dX10_made_79 (by decide) (fun c1 => ?_) (fun c1 => ?_)
        · rw [if_pos c1] at h
          exact ih.2.2.2.2.2.2.2.2.2.1 L σ r h H locs ls hP hD hS (lv_sub hl [1] rfl)
        · rw [if_neg c1] at h
          refine lv_iload hx hb dX10_made_82 (lv_at hl 1 rfl) ?_
          refine lv_ineg hx hb dX10_made_84 ?_
          refine lv_goto (tgt := 90) hx hb dX10_made_85 (by decide) ?_
          exact ih.2.2.2.2.2.2.2.2.2.2 (lI L 100 ((- ((L.1 4))))) σ r h H locs ls hP hD hS (lv_sub hl [] rfl)
      · intro L σ r h H locs ls hP hD hS hl
        rw [y_X10_made] at h
        obtain rfl := Option.some.inj h
        exact W.iret (v := (L.1 100)) hx hb hr (fun t ht hW => ⟨⟨(L.1 100), (), rfl, rfl, by rw [ht]; exact hP, va_K.moved hW.alike hK, hD⟩, hS.F ht⟩) hS.2.2 dX10_made_93
      · intro L σ r h H locs ls hP hD hS hl
        rw [y_X10_made] at h
        refine lv_iload hx hb dX10_made_88 (lv_at hl 0 rfl) ?_
        exact ih.2.2.2.2.2.2.2.2.2.2 (lI L 100 ((L.1 4))) σ r h H locs ls hP hD hS (lv_sub hl [] rfl)
      · intro L σ r h H locs ls hP hD hS hl
        rw [y_X10_made] at h
        obtain ⟨r1, hc1, h⟩ := oc_ex h
        refine kc_i (va_runS (As := [.int (L.1 100)]) (rest := []) ⟨hx, hb, hml, hown, hts⟩ (c_y_X10_small l dC dI cy a z k (lI lZ 0 ((L.1 100))) σ r1 hc1 H.size) (va_cwS 1 hts g_y_X10_made_X10_small_S43 rfl rfl rfl hd_y_X10_small ⟨Nat.le_of_ble_eq_true rfl, Nat.le_of_ble_eq_true rfl⟩) ⟨nb_blind, (kb_pre hK hG hP hD)⟩ rfl rfl hl.1 rfl (lv_room (Nat.le_of_ble_eq_true rfl)) dX10_made_90 ⟨Nat.le_refl _, Nat.le_refl _⟩) hA hP hD hS (fun H locs hP hD hS => ?_)
        exact ih.2.2.2.2.2.2.2.2.1 (lI L 100 r1.1) r1.2 r h H locs ls hP hD hS (lv_sub hl [] rfl)
  exact (blk k0).1 L0 σ0 r0 h0 s.heap [] ls hP hD hS hl
/-! J6_compare_7cf53 -/
def y_J6_compare_7cf53 : Nat → Nat → LV → CS → Option (Int32 × CS)
  | 0, _, _, _ => none
  | k + 1, 0, L, σ => if ((L.1 1)) ≤ ((L.1 0)) then (y_J6_compare_7cf53 k 1 L σ) else (y_J6_compare_7cf53 k 2 (lI L 100 ((-1))) σ)
  | k + 1, 1, L, σ => if ((L.1 0)) = ((L.1 1)) then (y_J6_compare_7cf53 k 2 (lI L 100 0) σ) else (y_J6_compare_7cf53 k 3 L σ)
  | k + 1, 2, L, σ => some ((L.1 100), σ)
  | k + 1, 3, L, σ => y_J6_compare_7cf53 k 2 (lI L 100 1) σ
  | _ + 1, _ + 4, _, _ => none
def o_y_J6_compare_7cf53 : List Cond := []
theorem o_y_J6_compare_7cf53_good : o_y_J6_compare_7cf53.all goodWord = true := by decide +kernel
def p_y_J6_compare_7cf53 : List Cond := o_y_J6_compare_7cf53 ++ []
theorem p_y_J6_compare_7cf53_good : p_y_J6_compare_7cf53.all goodWord = true := nb_all2 o_y_J6_compare_7cf53_good rfl
def w_y_J6_compare_7cf53 : List Cond := .code yJ6_compare_7cf53 cJ6_compare_7cf53 2 (some .int) :: (p_y_J6_compare_7cf53 ++ fC)
theorem w_y_J6_compare_7cf53_good : w_y_J6_compare_7cf53.all goodWord = true := nb_allc (by decide +kernel) (nb_all2 p_y_J6_compare_7cf53_good fC_good)
theorem hd_y_J6_compare_7cf53 : yJ6_compare_7cf53.cls ≠ "java/lang/invoke/MethodHandle" ∧ yJ6_compare_7cf53.cls ≠ "java/lang/invoke/VarHandle" ∧ (parseMethodDescriptor yJ6_compare_7cf53.desc).map (fun d => d.parameters.length) = some 2 := by decide +kernel
set_option maxHeartbeats 40000000 in
set_option maxRecDepth 100000 in
theorem c_y_J6_compare_7cf53 (l : Launch) (dC : Nat → ClassId) (dI : Nat → Nat → Nat) (cy : Nat → ClassId) (a z : Nat → Nat) (k0 : Nat) (L0 : LV) (σ0 : CS) (r0 : Int32 × CS) (h0 : y_J6_compare_7cf53 k0 0 L0 σ0 = some r0) (sz : Nat) : Met l yJ6_compare_7cf53 w_y_J6_compare_7cf53 ({ frames := 0, cells := 0, slots := 0, locals := 0 }) (va_Pc [.int (L0.1 0), .int (L0.1 1)] (nIn (dC, dI) cy sz (vC cy a z σ0))) (va_Qi (fun (x : Int32) (_ : Unit) => x = r0.1) (fun _ t => nOut (dC, dI) cy (va_A (vC cy a z σ0) sz) (vC cy a z r0.2) t) (va_A (vC cy a z σ0) sz)) 0 0 (va_A (vC cy a z σ0) sz) := by
  refine Met.ofW (cc := cJ6_compare_7cf53) (maxL := 2) (ret := (some .int)) (by decide) rfl ?_
  intro p e s m args below meth c s₁ B hml hv
  obtain ⟨rfl, hsz, hP, hK, hD0, hG⟩ := hv
  have hx := B.exec
  have hb := B.bytes
  have hr := B.returns
  have hts := atoms_spec (ws := w_y_J6_compare_7cf53) B.pre
  have hown : s.vm.findClass RJ6 = some m.cls := findClass_of_methodNamed B.named
  have hlocks := B.notSynchronized
  subst hsz
  have hD := hD0.self (sz := s.heap.size)
  generalize hAe : va_A (vC cy a z σ0) s.heap.size = A at hD ⊢
  have hA : ∀ q : Nat, s.heap.size ≤ q → A q := fun q h => by rw [← hAe]; exact Or.inr h
  have hS : va_S A s.heap s.heap [] := va_S.rf
  have hl := lv_entry ([.int (L0.1 0), .int (L0.1 1)]) (n := 2) (Nat.le_of_ble_eq_true rfl)
  rw [lg_entry_eq]
  generalize (lg_sl ([.int (L0.1 0), .int (L0.1 1)]) ++ List.replicate (2 - (lg_sl ([.int (L0.1 0), .int (L0.1 1)])).length) Slot.unset).toArray = ls at hl ⊢
  have hl : lv_has ls 2 [(0, .int (L0.1 0)), (1, .int (L0.1 1))] := hl
  have blk : ∀ k : Nat, (bC p l e (headSpec w_y_J6_compare_7cf53 ({ frames := 0, cells := 0, slots := 0, locals := 0 })).room s m #[.int (L0.1 0), .int (L0.1 1)] below meth c dC dI cy a z A (kI dC dI cy a z A below #[.int (L0.1 0), .int (L0.1 1)] s) 2 (y_J6_compare_7cf53 k 0) (fun L => [(0, .int (L.1 0)), (1, .int (L.1 1))]) 0 (fun L => [])) ∧ (bC p l e (headSpec w_y_J6_compare_7cf53 ({ frames := 0, cells := 0, slots := 0, locals := 0 })).room s m #[.int (L0.1 0), .int (L0.1 1)] below meth c dC dI cy a z A (kI dC dI cy a z A below #[.int (L0.1 0), .int (L0.1 1)] s) 2 (y_J6_compare_7cf53 k 1) (fun L => [(0, .int (L.1 0)), (1, .int (L.1 1))]) 9 (fun L => [])) ∧ (bC p l e (headSpec w_y_J6_compare_7cf53 ({ frames := 0, cells := 0, slots := 0, locals := 0 })).room s m #[.int (L0.1 0), .int (L0.1 1)] below meth c dC dI cy a z A (kI dC dI cy a z A below #[.int (L0.1 0), .int (L0.1 1)] s) 2 (y_J6_compare_7cf53 k 2) (fun L => []) 19 (fun L => [.int (L.1 100)])) ∧ (bC p l e (headSpec w_y_J6_compare_7cf53 ({ frames := 0, cells := 0, slots := 0, locals := 0 })).room s m #[.int (L0.1 0), .int (L0.1 1)] below meth c dC dI cy a z A (kI dC dI cy a z A below #[.int (L0.1 0), .int (L0.1 1)] s) 2 (y_J6_compare_7cf53 k 3) (fun L => []) 18 (fun L => [])) := by
    intro k
    induction k with
    | zero => exact ⟨fun L σ r h => (by cases h), fun L σ r h => (by cases h), fun L σ r h => (by cases h), fun L σ r h => (by cases h)⟩
    | succ k ih =>
      refine ⟨?_, ?_, ?_, ?_⟩
      · intro L σ r h H locs ls hP hD hS hl
        rw [y_J6_compare_7cf53] at h
        refine lv_iload_n hx hb dJ6_compare_7cf53_0 rfl (lv_at hl 0 rfl) ?_
        refine lv_iload_n hx hb dJ6_compare_7cf53_1 rfl (lv_at hl 1 rfl) ?_
        refine lv_icmp_ge (tgt := 9) hx hb dJ6_compare_7cf53_2 (by decide) (fun c1 => ?_) (fun c1 => ?_)
        · rw [if_pos c1] at h
          exact ih.2.1 L σ r h H locs ls hP hD hS (lv_sub hl [0, 1] rfl)
        · rw [if_neg c1] at h
          refine lv_iconst (v := (-1)) hx hb dJ6_compare_7cf53_5 (by decide) ?_
          refine lv_goto (tgt := 19) hx hb dJ6_compare_7cf53_6 (by decide) ?_
          exact ih.2.2.1 (lI L 100 ((-1))) σ r h H locs ls hP hD hS (lv_sub hl [] rfl)
      · intro L σ r h H locs ls hP hD hS hl
        rw [y_J6_compare_7cf53] at h
        refine lv_iload_n hx hb dJ6_compare_7cf53_9 rfl (lv_at hl 0 rfl) ?_
        refine lv_iload_n hx hb dJ6_compare_7cf53_10 rfl (lv_at hl 1 rfl) ?_
        refine lv_icmp_ne (tgt := 18) hx hb dJ6_compare_7cf53_11 (by decide) (fun c1 => ?_) (fun c1 => ?_)
        · rw [if_neg c1] at h
          exact ih.2.2.2 L σ r h H locs ls hP hD hS (lv_sub hl [] rfl)
        · rw [if_pos c1] at h
          refine lv_iconst (v := 0) hx hb dJ6_compare_7cf53_14 (by decide) ?_
          refine lv_goto (tgt := 19) hx hb dJ6_compare_7cf53_15 (by decide) ?_
          exact ih.2.2.1 (lI L 100 0) σ r h H locs ls hP hD hS (lv_sub hl [] rfl)
      · intro L σ r h H locs ls hP hD hS hl
        rw [y_J6_compare_7cf53] at h
        obtain rfl := Option.some.inj h
        exact W.iret (v := (L.1 100)) hx hb hr (fun t ht hW => ⟨⟨(L.1 100), (), rfl, rfl, by rw [ht]; exact hP, va_K.moved hW.alike hK, hD⟩, hS.F ht⟩) hS.2.2 dJ6_compare_7cf53_19
      · intro L σ r h H locs ls hP hD hS hl
        rw [y_J6_compare_7cf53] at h
        refine lv_iconst (v := 1) hx hb dJ6_compare_7cf53_18 (by decide) ?_
        exact ih.2.2.1 (lI L 100 1) σ r h H locs ls hP hD hS (lv_sub hl [] rfl)
  exact (blk k0).1 L0 σ0 r0 h0 s.heap [] ls hP hD hS hl
/-! X10_compareLimbs -/
def y_X10_compareLimbs : Nat → Nat → LV → CS → Option (Int32 × CS)
  | 0, _, _, _ => none
  | k + 1, 0, L, σ => oc (y_J6_compare_7cf53 k 0 (lI (lI lZ 0 ((L.1 1))) 1 ((L.1 2))) σ) (fun r1 => y_X10_compareLimbs k 1 (lI (lI L 3 r1.1) 4 ((((L.1 1)) - 1))) r1.2)
  | k + 1, 1, L, σ => if ((L.1 4)) < 0 then (y_X10_compareLimbs k 2 L σ) else (if ((L.1 3)) = 0 then (if ¬ (((L.1 4)) < 0 ∨ 72 ≤ ((L.1 4)).toNatClampNeg) then (if ¬ (((L.1 4)) < 0 ∨ 72 ≤ ((L.1 4)).toNatClampNeg) then (oc (y_J6_compare_7cf53 k 0 (lI (lI lZ 0 ((((σ.2.2.1 5 ((L.1 4)).toNatClampNeg)) ^^^ ((-2147483648))))) 1 ((((σ.2.2.1 6 ((L.1 4)).toNatClampNeg)) ^^^ ((-2147483648))))) σ) (fun r5 => y_X10_compareLimbs k 1 (lI (lI L 3 r5.1) 4 ((((L.1 4)) + (-1)))) r5.2)) else none) else none) else (y_X10_compareLimbs k 2 L σ))
  | k + 1, 2, L, σ => some ((L.1 3), σ)
  | _ + 1, _ + 3, _, _ => none
def o_y_X10_compareLimbs : List Cond := [.methodLink RX10 94 yJ6_compare_7cf53, .static yJ6_compare_7cf53, .initialized RJ6, .fieldLink RX10 9 "SetHouse$Wholes" "left" "[I", .constant RX10 99 (-2147483648), .fieldLink RX10 15 "SetHouse$Wholes" "right" "[I"]
theorem o_y_X10_compareLimbs_good : o_y_X10_compareLimbs.all goodWord = true := by decide +kernel
def p_y_X10_compareLimbs : List Cond := o_y_X10_compareLimbs ++ ((.code yJ6_compare_7cf53 cJ6_compare_7cf53 2 (some .int) :: p_y_J6_compare_7cf53) ++ [])
theorem p_y_X10_compareLimbs_good : p_y_X10_compareLimbs.all goodWord = true := nb_all2 o_y_X10_compareLimbs_good (nb_all2 (nb_allc (by decide +kernel) p_y_J6_compare_7cf53_good) rfl)
def w_y_X10_compareLimbs : List Cond := .code yX10_compareLimbs cX10_compareLimbs 5 (some .int) :: (p_y_X10_compareLimbs ++ fC)
theorem w_y_X10_compareLimbs_good : w_y_X10_compareLimbs.all goodWord = true := nb_allc (by decide +kernel) (nb_all2 p_y_X10_compareLimbs_good fC_good)
theorem in_y_X10_compareLimbs_X10 : ∀ w ∈ wsX100, w ∈ w_y_X10_compareLimbs := fun _ h => List.mem_cons_of_mem _ (List.mem_append_right _ (List.mem_append_right _ (List.mem_append_right _ (List.mem_append_right _ (List.mem_append_right _ (List.mem_append_right _ (List.mem_append_right _ (List.mem_append_right _ (List.mem_append_right _ (List.mem_append_right _ (List.mem_append_left _ h)))))))))))
theorem hd_y_X10_compareLimbs : yX10_compareLimbs.cls = RX10 ∧ yX10_compareLimbs.cls ≠ "java/lang/invoke/MethodHandle" ∧ yX10_compareLimbs.cls ≠ "java/lang/invoke/VarHandle" ∧ (parseMethodDescriptor yX10_compareLimbs.desc).map (fun d => d.parameters.length) = some 2 := by decide +kernel
theorem gg_y_X10_compareLimbs_J6_compare_7cf53 : GoodIn w_y_X10_compareLimbs w_y_J6_compare_7cf53 := goodIn_sub (fun w h => (List.mem_cons.mp h).elim (fun e => (List.mem_cons_of_mem _ (List.mem_append_left _ (List.mem_append_right _ (List.mem_append_left _ (List.mem_cons.mpr (Or.inl e))))))) (fun h => (List.mem_append.mp h).elim (fun h => (List.mem_cons_of_mem _ (List.mem_append_left _ (List.mem_append_right _ (List.mem_append_left _ (List.mem_cons_of_mem _ h)))))) (fun h => List.mem_cons_of_mem _ (List.mem_append_right _ h)))) w_y_J6_compare_7cf53_good
theorem g_y_X10_compareLimbs_J6_compare_7cf53_S94 : GoodIn w_y_X10_compareLimbs (va_wsS RX10 94 yJ6_compare_7cf53 w_y_J6_compare_7cf53) := goodIn_app (nb_g3 (List.mem_cons_of_mem _ (List.mem_append_left _ (List.mem_append_left _ (List.mem_of_getElem? (i := 0) rfl)))) (List.mem_cons_of_mem _ (List.mem_append_left _ (List.mem_append_left _ (List.mem_of_getElem? (i := 1) rfl)))) (List.mem_cons_of_mem _ (List.mem_append_left _ (List.mem_append_left _ (List.mem_of_getElem? (i := 2) rfl)))) (by decide +kernel)) gg_y_X10_compareLimbs_J6_compare_7cf53
set_option maxHeartbeats 40000000 in
set_option maxRecDepth 100000 in
theorem c_y_X10_compareLimbs (l : Launch) (dC : Nat → ClassId) (dI : Nat → Nat → Nat) (cy : Nat → ClassId) (a z : Nat → Nat) (k0 : Nat) (L0 : LV) (σ0 : CS) (r0 : Int32 × CS) (h0 : y_X10_compareLimbs k0 0 L0 σ0 = some r0) (sz : Nat) : Met l yX10_compareLimbs w_y_X10_compareLimbs ({ frames := 1, cells := 0, slots := 0, locals := 21 }) (va_Pc [.ref (a 4), .int (L0.1 1), .int (L0.1 2)] (nIn (dC, dI) cy sz (vC cy a z σ0))) (va_Qi (fun (x : Int32) (_ : Unit) => x = r0.1) (fun _ t => nOut (dC, dI) cy (va_A (vC cy a z σ0) sz) (vC cy a z r0.2) t) (va_A (vC cy a z σ0) sz)) 0 0 (va_A (vC cy a z σ0) sz) := by
  refine Met.ofW (cc := cX10_compareLimbs) (maxL := 5) (ret := (some .int)) (by decide) rfl ?_
  intro p e s m args below meth c s₁ B hml hv
  obtain ⟨rfl, hsz, hP, hK, hD0, hG⟩ := hv
  have hx := B.exec
  have hb := B.bytes
  have hr := B.returns
  have hts := atoms_spec (ws := w_y_X10_compareLimbs) B.pre
  have hown : s.vm.findClass RX10 = some m.cls := findClass_of_methodNamed B.named
  have hlocks := B.notSynchronized
  subst hsz
  have hD := hD0.self (sz := s.heap.size)
  generalize hAe : va_A (vC cy a z σ0) s.heap.size = A at hD ⊢
  have hA : ∀ q : Nat, s.heap.size ≤ q → A q := fun q h => by rw [← hAe]; exact Or.inr h
  have hS : va_S A s.heap s.heap [] := va_S.rf
  have hl := lv_entry ([.ref (a 4), .int (L0.1 1), .int (L0.1 2)]) (n := 5) (Nat.le_of_ble_eq_true rfl)
  rw [lg_entry_eq]
  generalize (lg_sl ([.ref (a 4), .int (L0.1 1), .int (L0.1 2)]) ++ List.replicate (5 - (lg_sl ([.ref (a 4), .int (L0.1 1), .int (L0.1 2)])).length) Slot.unset).toArray = ls at hl ⊢
  have hl : lv_has ls 5 [(0, .ref (a 4)), (1, .int (L0.1 1)), (2, .int (L0.1 2))] := hl
  have blk : ∀ k : Nat, (bC p l e (headSpec w_y_X10_compareLimbs ({ frames := 1, cells := 0, slots := 0, locals := 21 })).room s m #[.ref (a 4), .int (L0.1 1), .int (L0.1 2)] below meth c dC dI cy a z A (kI dC dI cy a z A below #[.ref (a 4), .int (L0.1 1), .int (L0.1 2)] s) 5 (y_X10_compareLimbs k 0) (fun L => [(0, .ref (a 4)), (1, .int (L.1 1)), (2, .int (L.1 2))]) 0 (fun L => [])) ∧ (bC p l e (headSpec w_y_X10_compareLimbs ({ frames := 1, cells := 0, slots := 0, locals := 21 })).room s m #[.ref (a 4), .int (L0.1 1), .int (L0.1 2)] below meth c dC dI cy a z A (kI dC dI cy a z A below #[.ref (a 4), .int (L0.1 1), .int (L0.1 2)] s) 5 (y_X10_compareLimbs k 1) (fun L => [(0, .ref (a 4)), (3, .int (L.1 3)), (4, .int (L.1 4))]) 11 (fun L => [])) ∧ (bC p l e (headSpec w_y_X10_compareLimbs ({ frames := 1, cells := 0, slots := 0, locals := 21 })).room s m #[.ref (a 4), .int (L0.1 1), .int (L0.1 2)] below meth c dC dI cy a z A (kI dC dI cy a z A below #[.ref (a 4), .int (L0.1 1), .int (L0.1 2)] s) 5 (y_X10_compareLimbs k 2) (fun L => [(3, .int (L.1 3))]) 50 (fun L => [])) := by
    intro k
    induction k with
    | zero => exact ⟨fun L σ r h => (by cases h), fun L σ r h => (by cases h), fun L σ r h => (by cases h)⟩
    | succ k ih =>
      refine ⟨?_, ?_, ?_⟩
      · intro L σ r h H locs ls hP hD hS hl
        rw [y_X10_compareLimbs] at h
        refine lv_iload_n hx hb dX10_compareLimbs_0 rfl (lv_at hl 1 rfl) ?_
        refine lv_iload_n hx hb dX10_compareLimbs_1 rfl (lv_at hl 2 rfl) ?_
        obtain ⟨r1, hc1, h⟩ := oc_ex h
        refine kc_i (va_runS (As := [.int (L.1 1), .int (L.1 2)]) (rest := []) ⟨hx, hb, hml, hown, hts⟩ (c_y_J6_compare_7cf53 l dC dI cy a z k (lI (lI lZ 0 ((L.1 1))) 1 ((L.1 2))) σ r1 hc1 H.size) (va_cwS 2 hts g_y_X10_compareLimbs_J6_compare_7cf53_S94 rfl rfl rfl hd_y_J6_compare_7cf53 ⟨Nat.le_of_ble_eq_true rfl, Nat.le_of_ble_eq_true rfl⟩) ⟨nb_blind, (kb_pre hK hG hP hD)⟩ rfl rfl hl.1 rfl (lv_room (Nat.le_of_ble_eq_true rfl)) dX10_compareLimbs_2 ⟨Nat.le_refl _, Nat.le_refl _⟩) hA hP hD hS (fun H locs hP hD hS => ?_)
        refine lv_istore_n (lv' := [(3, .int r1.1), (0, .ref (a 4)), (1, .int (L.1 1)), (2, .int (L.1 2))]) hx hb dX10_compareLimbs_5 rfl hl (by decide) rfl (fun ls hl => ?_)
        refine lv_iload_n hx hb dX10_compareLimbs_6 rfl (lv_at hl 2 rfl) ?_
        refine lv_iconst (v := 1) hx hb dX10_compareLimbs_7 (by decide) ?_
        refine lv_isub hx hb dX10_compareLimbs_8 ?_
        refine lv_istore (lv' := [(4, .int (((L.1 1)) - 1)), (3, .int r1.1), (0, .ref (a 4)), (1, .int (L.1 1)), (2, .int (L.1 2))]) hx hb dX10_compareLimbs_9 hl (by decide) rfl (fun ls hl => ?_)
        exact ih.2.1 (lI (lI L 3 r1.1) 4 ((((L.1 1)) - 1))) r1.2 r h H locs ls hP hD hS (lv_sub hl [2, 1, 0] rfl)
      · intro L σ r h H locs ls hP hD hS hl
        rw [y_X10_compareLimbs] at h
        refine lv_iload hx hb dX10_compareLimbs_11 (lv_at hl 2 rfl) ?_
        refine lv_if_lt (tgt := 50) hx hb dX10_compareLimbs_13 (by decide) (fun c1 => ?_) (fun c1 => ?_)
        · rw [if_pos c1] at h
          exact ih.2.2 L σ r h H locs ls hP hD hS (lv_sub hl [1] rfl)
        · rw [if_neg c1] at h
          refine lv_iload_n hx hb dX10_compareLimbs_16 rfl (lv_at hl 1 rfl) ?_
          refine lv_if_ne (tgt := 50) hx hb dX10_compareLimbs_17 (by decide) (fun c2 => ?_) (fun c2 => ?_)
          · rw [if_neg c2] at h
            exact ih.2.2 L σ r h H locs ls hP hD hS (lv_sub hl [1] rfl)
          · rw [if_pos c2] at h
            refine lv_aload_n hx hb dX10_compareLimbs_20 rfl (lv_at hl 0 rfl) ?_
            refine hg_4_1 hx hb hts in_y_X10_compareLimbs_X10 hown hK hP (hts _ (List.mem_cons_of_mem _ (List.mem_append_left _ (List.mem_append_left _ (List.mem_of_getElem? (i := 3) rfl))))) dX10_compareLimbs_21 ?_
            refine lv_iload hx hb dX10_compareLimbs_24 (lv_at hl 2 rfl) ?_
            obtain ⟨q3, h⟩ := kb_ite1 h
            refine hl_5 hx hb hK hP q3 dX10_compareLimbs_26 ?_
            refine lv_ldc (v := (-2147483648)) hx hb hown (hts _ (List.mem_cons_of_mem _ (List.mem_append_left _ (List.mem_append_left _ (List.mem_of_getElem? (i := 4) rfl))))) dX10_compareLimbs_27 ?_
            refine lv_ixor hx hb dX10_compareLimbs_29 ?_
            refine lv_aload_n hx hb dX10_compareLimbs_30 rfl (lv_at hl 0 rfl) ?_
            refine hg_4_2 hx hb hts in_y_X10_compareLimbs_X10 hown hK hP (hts _ (List.mem_cons_of_mem _ (List.mem_append_left _ (List.mem_append_left _ (List.mem_of_getElem? (i := 5) rfl))))) dX10_compareLimbs_31 ?_
            refine lv_iload hx hb dX10_compareLimbs_34 (lv_at hl 2 rfl) ?_
            obtain ⟨q4, h⟩ := kb_ite1 h
            refine hl_6 hx hb hK hP q4 dX10_compareLimbs_36 ?_
            refine lv_ldc (v := (-2147483648)) hx hb hown (hts _ (List.mem_cons_of_mem _ (List.mem_append_left _ (List.mem_append_left _ (List.mem_of_getElem? (i := 4) rfl))))) dX10_compareLimbs_37 ?_
            refine lv_ixor hx hb dX10_compareLimbs_39 ?_
            obtain ⟨r5, hc5, h⟩ := oc_ex h
            refine kc_i (va_runS (As := [.int (((σ.2.2.1 5 ((L.1 4)).toNatClampNeg)) ^^^ ((-2147483648))), .int (((σ.2.2.1 6 ((L.1 4)).toNatClampNeg)) ^^^ ((-2147483648)))]) (rest := []) ⟨hx, hb, hml, hown, hts⟩ (c_y_J6_compare_7cf53 l dC dI cy a z k (lI (lI lZ 0 ((((σ.2.2.1 5 ((L.1 4)).toNatClampNeg)) ^^^ ((-2147483648))))) 1 ((((σ.2.2.1 6 ((L.1 4)).toNatClampNeg)) ^^^ ((-2147483648))))) σ r5 hc5 H.size) (va_cwS 2 hts g_y_X10_compareLimbs_J6_compare_7cf53_S94 rfl rfl rfl hd_y_J6_compare_7cf53 ⟨Nat.le_of_ble_eq_true rfl, Nat.le_of_ble_eq_true rfl⟩) ⟨nb_blind, (kb_pre hK hG hP hD)⟩ rfl rfl hl.1 rfl (lv_room (Nat.le_of_ble_eq_true rfl)) dX10_compareLimbs_40 ⟨Nat.le_refl _, Nat.le_refl _⟩) hA hP hD hS (fun H locs hP hD hS => ?_)
            refine lv_istore_n (lv' := [(3, .int r5.1), (0, .ref (a 4)), (4, .int (L.1 4))]) hx hb dX10_compareLimbs_43 rfl hl (by decide) rfl (fun ls hl => ?_)
            refine lv_iinc (v := ((L.1 4)) + (-1)) (lv' := [(4, .int (((L.1 4)) + (-1))), (3, .int r5.1), (0, .ref (a 4))]) hx hb dX10_compareLimbs_44 hl (k := 2) rfl rfl (by decide) rfl (fun ls hl => ?_)
            refine lv_goto (tgt := 11) hx hb dX10_compareLimbs_47 (by decide) ?_
            exact ih.2.1 (lI (lI L 3 r5.1) 4 ((((L.1 4)) + (-1)))) r5.2 r h H locs ls hP hD hS (lv_sub hl [2, 1, 0] rfl)
      · intro L σ r h H locs ls hP hD hS hl
        rw [y_X10_compareLimbs] at h
        refine lv_iload_n hx hb dX10_compareLimbs_50 rfl (lv_at hl 0 rfl) ?_
        obtain rfl := Option.some.inj h
        exact W.iret (v := (L.1 3)) hx hb hr (fun t ht hW => ⟨⟨(L.1 3), (), rfl, rfl, by rw [ht]; exact hP, va_K.moved hW.alike hK, hD⟩, hS.F ht⟩) hS.2.2 dX10_compareLimbs_51
  exact (blk k0).1 L0 σ0 r0 h0 s.heap [] ls hP hD hS hl
/-! X10_load__a5 -/
def y_X10_load__a5 : Nat → Nat → LV → CS → Option (Int32 × CS)
  | 0, _, _, _ => none
  | k + 1, 0, L, σ => if 0 ≤ ((L.1 1)) then (y_X10_load__a5 k 1 L σ) else (if 0 ≤ ((((((L.1 1)) <<< ((4 : Int32) &&& 31))) >>> ((4 : Int32) &&& 31))) then (y_X10_load__a5 k 2 (lI (lI L 3 ((((((L.1 1)) <<< ((4 : Int32) &&& 31))) >>> ((4 : Int32) &&& 31)))) 100 0) σ) else (y_X10_load__a5 k 3 (lI (lI (lI L 3 ((((((L.1 1)) <<< ((4 : Int32) &&& 31))) >>> ((4 : Int32) &&& 31)))) 100 ((- ((((((L.1 1)) <<< ((4 : Int32) &&& 31))) >>> ((4 : Int32) &&& 31)))))) 101 0) σ))
  | k + 1, 1, L, σ => if ¬ (((L.1 1)) < 0 ∨ (sN σ 3) ≤ ((L.1 1)).toNatClampNeg) then (if ¬ ((((L.1 1)) + 1)) < 0 ∧ ¬ (0 : Int32) < 0 ∧ ¬ (((((((σ.2.2.1 3 ((L.1 1)).toNatClampNeg)).toUInt32 >>> ((4 : Int32).toUInt32 &&& Int32.toUInt32 31)).toInt32)) &&& 4095)) < 0 ∧ ((((L.1 1)) + 1)).toNatClampNeg + (((((((σ.2.2.1 3 ((L.1 1)).toNatClampNeg)).toUInt32 >>> ((4 : Int32).toUInt32 &&& Int32.toUInt32 31)).toInt32)) &&& 4095)).toNatClampNeg ≤ (sN σ 3) ∧ (0 : Int32).toNatClampNeg + (((((((σ.2.2.1 3 ((L.1 1)).toNatClampNeg)).toUInt32 >>> ((4 : Int32).toUInt32 &&& Int32.toUInt32 31)).toInt32)) &&& 4095)).toNatClampNeg ≤ 72 then (some (((((((σ.2.2.1 3 ((L.1 1)).toNatClampNeg)).toUInt32 >>> ((4 : Int32).toUInt32 &&& Int32.toUInt32 31)).toInt32)) &&& 4095), (uF σ 5 (va_cpy (σ.2.2.1 3) (σ.2.2.1 5) ((((L.1 1)) + 1)).toNatClampNeg (0 : Int32).toNatClampNeg (((((((σ.2.2.1 3 ((L.1 1)).toNatClampNeg)).toUInt32 >>> ((4 : Int32).toUInt32 &&& Int32.toUInt32 31)).toInt32)) &&& 4095)).toNatClampNeg)))) else none) else none
  | k + 1, 2, L, σ => y_X10_load__a5 k 3 (lI (lI L 100 ((L.1 3))) 101 ((L.1 100))) σ
  | k + 1, 3, L, σ => if ¬ (((L.1 101)) < 0 ∨ 72 ≤ ((L.1 101)).toNatClampNeg) then (if ((L.1 3)) = 0 then (y_X10_load__a5 k 5 (lI L 100 0) (uA σ 5 ((L.1 101)).toNatClampNeg ((L.1 100)))) else (y_X10_load__a5 k 4 L (uA σ 5 ((L.1 101)).toNatClampNeg ((L.1 100))))) else none
  | k + 1, 4, L, σ => y_X10_load__a5 k 5 (lI L 100 1) σ
  | k + 1, 5, L, σ => some ((L.1 100), σ)
  | _ + 1, _ + 6, _, _ => none
def o_y_X10_load__a5 : List Cond := [.fieldLink RX10 33 "SetHouse$Wholes" "heap" "LSetHouse$Heap;", .methodLink RX10 58 arraycopyName, .native arraycopyName, .static arraycopyName, .initialized "java/lang/System"]
theorem o_y_X10_load__a5_good : o_y_X10_load__a5.all goodWord = true := by decide +kernel
def p_y_X10_load__a5 : List Cond := o_y_X10_load__a5 ++ []
theorem p_y_X10_load__a5_good : p_y_X10_load__a5.all goodWord = true := nb_all2 o_y_X10_load__a5_good rfl
def w_y_X10_load__a5 : List Cond := .code yX10_load cX10_load 4 (some .int) :: (p_y_X10_load__a5 ++ fC)
theorem w_y_X10_load__a5_good : w_y_X10_load__a5.all goodWord = true := nb_allc (by decide +kernel) (nb_all2 p_y_X10_load__a5_good fC_good)
theorem in_y_X10_load__a5_X1 : ∀ w ∈ wsX10, w ∈ w_y_X10_load__a5 := fun _ h => List.mem_cons_of_mem _ (List.mem_append_right _ (List.mem_append_right _ (List.mem_append_left _ h)))
theorem in_y_X10_load__a5_X10 : ∀ w ∈ wsX100, w ∈ w_y_X10_load__a5 := fun _ h => List.mem_cons_of_mem _ (List.mem_append_right _ (List.mem_append_right _ (List.mem_append_right _ (List.mem_append_right _ (List.mem_append_right _ (List.mem_append_right _ (List.mem_append_right _ (List.mem_append_right _ (List.mem_append_right _ (List.mem_append_right _ (List.mem_append_left _ h)))))))))))
theorem hd_y_X10_load__a5 : yX10_load.cls = RX10 ∧ yX10_load.cls ≠ "java/lang/invoke/MethodHandle" ∧ yX10_load.cls ≠ "java/lang/invoke/VarHandle" ∧ (parseMethodDescriptor yX10_load.desc).map (fun d => d.parameters.length) = some 2 := by decide +kernel
set_option maxHeartbeats 40000000 in
set_option maxRecDepth 100000 in
theorem c_y_X10_load__a5 (l : Launch) (dC : Nat → ClassId) (dI : Nat → Nat → Nat) (cy : Nat → ClassId) (a z : Nat → Nat) (k0 : Nat) (L0 : LV) (σ0 : CS) (r0 : Int32 × CS) (h0 : y_X10_load__a5 k0 0 L0 σ0 = some r0) (sz : Nat) : Met l yX10_load w_y_X10_load__a5 ({ frames := 1, cells := 0, slots := 0, locals := 60 }) (va_Pc [.ref (a 4), .int (L0.1 1), .ref (a 5)] (nIn (dC, dI) cy sz (vC cy a z σ0))) (va_Qi (fun (x : Int32) (_ : Unit) => x = r0.1) (fun _ t => nOut (dC, dI) cy (va_A (vC cy a z σ0) sz) (vC cy a z r0.2) t) (va_A (vC cy a z σ0) sz)) 0 0 (va_A (vC cy a z σ0) sz) := by
  refine Met.ofW (cc := cX10_load) (maxL := 4) (ret := (some .int)) (by decide) rfl ?_
  intro p e s m args below meth c s₁ B hml hv
  obtain ⟨rfl, hsz, hP, hK, hD0, hG⟩ := hv
  have hx := B.exec
  have hb := B.bytes
  have hr := B.returns
  have hts := atoms_spec (ws := w_y_X10_load__a5) B.pre
  have hown : s.vm.findClass RX10 = some m.cls := findClass_of_methodNamed B.named
  have hlocks := B.notSynchronized
  subst hsz
  have hD := hD0.self (sz := s.heap.size)
  generalize hAe : va_A (vC cy a z σ0) s.heap.size = A at hD ⊢
  have hA : ∀ q : Nat, s.heap.size ≤ q → A q := fun q h => by rw [← hAe]; exact Or.inr h
  have hS : va_S A s.heap s.heap [] := va_S.rf
  have hl := lv_entry ([.ref (a 4), .int (L0.1 1), .ref (a 5)]) (n := 4) (Nat.le_of_ble_eq_true rfl)
  rw [lg_entry_eq]
  generalize (lg_sl ([.ref (a 4), .int (L0.1 1), .ref (a 5)]) ++ List.replicate (4 - (lg_sl ([.ref (a 4), .int (L0.1 1), .ref (a 5)])).length) Slot.unset).toArray = ls at hl ⊢
  have hl : lv_has ls 4 [(0, .ref (a 4)), (1, .int (L0.1 1)), (2, .ref (a 5))] := hl
  have blk : ∀ k : Nat, (bC p l e (headSpec w_y_X10_load__a5 ({ frames := 1, cells := 0, slots := 0, locals := 60 })).room s m #[.ref (a 4), .int (L0.1 1), .ref (a 5)] below meth c dC dI cy a z A (kI dC dI cy a z A below #[.ref (a 4), .int (L0.1 1), .ref (a 5)] s) 4 (y_X10_load__a5 k 0) (fun L => [(0, .ref (a 4)), (1, .int (L.1 1)), (2, .ref (a 5))]) 0 (fun L => [])) ∧ (bC p l e (headSpec w_y_X10_load__a5 ({ frames := 1, cells := 0, slots := 0, locals := 60 })).room s m #[.ref (a 4), .int (L0.1 1), .ref (a 5)] below meth c dC dI cy a z A (kI dC dI cy a z A below #[.ref (a 4), .int (L0.1 1), .ref (a 5)] s) 4 (y_X10_load__a5 k 1) (fun L => [(0, .ref (a 4)), (1, .int (L.1 1)), (2, .ref (a 5))]) 33 (fun L => [])) ∧ (bC p l e (headSpec w_y_X10_load__a5 ({ frames := 1, cells := 0, slots := 0, locals := 60 })).room s m #[.ref (a 4), .int (L0.1 1), .ref (a 5)] below meth c dC dI cy a z A (kI dC dI cy a z A below #[.ref (a 4), .int (L0.1 1), .ref (a 5)] s) 4 (y_X10_load__a5 k 2) (fun L => [(3, .int (L.1 3))]) 21 (fun L => [.int (L.1 100), .ref (a 5)])) ∧ (bC p l e (headSpec w_y_X10_load__a5 ({ frames := 1, cells := 0, slots := 0, locals := 60 })).room s m #[.ref (a 4), .int (L0.1 1), .ref (a 5)] below meth c dC dI cy a z A (kI dC dI cy a z A below #[.ref (a 4), .int (L0.1 1), .ref (a 5)] s) 4 (y_X10_load__a5 k 3) (fun L => [(3, .int (L.1 3))]) 22 (fun L => [.int (L.1 100), .int (L.1 101), .ref (a 5)])) ∧ (bC p l e (headSpec w_y_X10_load__a5 ({ frames := 1, cells := 0, slots := 0, locals := 60 })).room s m #[.ref (a 4), .int (L0.1 1), .ref (a 5)] below meth c dC dI cy a z A (kI dC dI cy a z A below #[.ref (a 4), .int (L0.1 1), .ref (a 5)] s) 4 (y_X10_load__a5 k 4) (fun L => []) 31 (fun L => [])) ∧ (bC p l e (headSpec w_y_X10_load__a5 ({ frames := 1, cells := 0, slots := 0, locals := 60 })).room s m #[.ref (a 4), .int (L0.1 1), .ref (a 5)] below meth c dC dI cy a z A (kI dC dI cy a z A below #[.ref (a 4), .int (L0.1 1), .ref (a 5)] s) 4 (y_X10_load__a5 k 5) (fun L => []) 32 (fun L => [.int (L.1 100)])) := by
    intro k
    induction k with
    | zero => exact ⟨fun L σ r h => (by cases h), fun L σ r h => (by cases h), fun L σ r h => (by cases h), fun L σ r h => (by cases h), fun L σ r h => (by cases h), fun L σ r h => (by cases h)⟩
    | succ k ih =>
      refine ⟨?_, ?_, ?_, ?_, ?_, ?_⟩
      · intro L σ r h H locs ls hP hD hS hl
        rw [y_X10_load__a5] at h
        refine lv_iload_n hx hb dX10_load_0 rfl (lv_at hl 1 rfl) ?_
        refine lv_if_ge (tgt := 33) hx hb dX10_load_1 (by decide) (fun c1 => ?_) (fun c1 => ?_)
        · rw [if_pos c1] at h
          exact ih.2.1 L σ r h H locs ls hP hD hS (lv_sub hl [0, 1, 2] rfl)
        · rw [if_neg c1] at h
          refine lv_iload_n hx hb dX10_load_4 rfl (lv_at hl 1 rfl) ?_
          refine lv_iconst (v := 4) hx hb dX10_load_5 (by decide) ?_
          refine lv_ishl hx hb dX10_load_6 ?_
          refine lv_iconst (v := 4) hx hb dX10_load_7 (by decide) ?_
          refine lv_ishr hx hb dX10_load_8 ?_
          refine lv_istore_n (lv' := [(3, .int (((((L.1 1)) <<< ((4 : Int32) &&& 31))) >>> ((4 : Int32) &&& 31))), (0, .ref (a 4)), (1, .int (L.1 1)), (2, .ref (a 5))]) hx hb dX10_load_9 rfl hl (by decide) rfl (fun ls hl => ?_)
          refine lv_aload_n hx hb dX10_load_10 rfl (lv_at hl 3 rfl) ?_
          refine lv_iconst (v := 0) hx hb dX10_load_11 (by decide) ?_
          refine lv_iload_n hx hb dX10_load_12 rfl (lv_at hl 0 rfl) ?_
          refine lv_if_ge (tgt := 21) hx hb dX10_load_13 (by decide) (fun c2 => ?_) (fun c2 => ?_)
          · rw [if_pos c2] at h
            exact ih.2.2.1 (lI (lI L 3 ((((((L.1 1)) <<< ((4 : Int32) &&& 31))) >>> ((4 : Int32) &&& 31)))) 100 0) σ r h H locs ls hP hD hS (lv_sub hl [0] rfl)
          · rw [if_neg c2] at h
            refine lv_iload_n hx hb dX10_load_16 rfl (lv_at hl 0 rfl) ?_
            refine lv_ineg hx hb dX10_load_17 ?_
            refine lv_goto (tgt := 22) hx hb dX10_load_18 (by decide) ?_
            exact ih.2.2.2.1 (lI (lI (lI L 3 ((((((L.1 1)) <<< ((4 : Int32) &&& 31))) >>> ((4 : Int32) &&& 31)))) 100 ((- ((((((L.1 1)) <<< ((4 : Int32) &&& 31))) >>> ((4 : Int32) &&& 31)))))) 101 0) σ r h H locs ls hP hD hS (lv_sub hl [0] rfl)
      · intro L σ r h H locs ls hP hD hS hl
        rw [y_X10_load__a5] at h
        refine lv_aload_n hx hb dX10_load_33 rfl (lv_at hl 0 rfl) ?_
        refine hg_4_0 hx hb hts in_y_X10_load__a5_X10 hown hK hP (hts _ (List.mem_cons_of_mem _ (List.mem_append_left _ (List.mem_append_left _ (List.mem_of_getElem? (i := 0) rfl))))) dX10_load_34 ?_
        refine hg_0_0n hx hb hts in_y_X10_load__a5_X1 hown hK hP (va_Nw.use rfl (hG.1 _ (List.mem_of_getElem? (i := 0) rfl))) dX10_load_37 ?_
        refine lv_iload_n hx hb dX10_load_40 rfl (lv_at hl 1 rfl) ?_
        obtain ⟨q1, h⟩ := kb_ite1 h
        refine hl_3 hx hb hK hP q1 dX10_load_41 ?_
        refine lv_iconst (v := 4) hx hb dX10_load_42 (by decide) ?_
        refine lv_iushr (v := (((σ.2.2.1 3 ((L.1 1)).toNatClampNeg)).toUInt32 >>> ((4 : Int32).toUInt32 &&& Int32.toUInt32 31)).toInt32) hx hb dX10_load_43 rfl ?_
        refine lv_sipush (v := 4095) hx hb dX10_load_44 (by decide) ?_
        refine lv_iand hx hb dX10_load_47 ?_
        refine lv_istore_n (lv' := [(3, .int ((((((σ.2.2.1 3 ((L.1 1)).toNatClampNeg)).toUInt32 >>> ((4 : Int32).toUInt32 &&& Int32.toUInt32 31)).toInt32)) &&& 4095)), (0, .ref (a 4)), (1, .int (L.1 1)), (2, .ref (a 5))]) hx hb dX10_load_48 rfl hl (by decide) rfl (fun ls hl => ?_)
        refine lv_aload_n hx hb dX10_load_49 rfl (lv_at hl 1 rfl) ?_
        refine hg_4_0 hx hb hts in_y_X10_load__a5_X10 hown hK hP (hts _ (List.mem_cons_of_mem _ (List.mem_append_left _ (List.mem_append_left _ (List.mem_of_getElem? (i := 0) rfl))))) dX10_load_50 ?_
        refine hg_0_0n hx hb hts in_y_X10_load__a5_X1 hown hK hP (va_Nw.use rfl (hG.1 _ (List.mem_of_getElem? (i := 0) rfl))) dX10_load_53 ?_
        refine lv_iload_n hx hb dX10_load_56 rfl (lv_at hl 2 rfl) ?_
        refine lv_iconst (v := 1) hx hb dX10_load_57 (by decide) ?_
        refine lv_iadd hx hb dX10_load_58 ?_
        refine lv_aload_n hx hb dX10_load_59 rfl (lv_at hl 3 rfl) ?_
        refine lv_iconst (v := 0) hx hb dX10_load_60 (by decide) ?_
        refine lv_iload_n hx hb dX10_load_61 rfl (lv_at hl 0 rfl) ?_
        obtain ⟨q2, h⟩ := kb_ite1 h
        refine va_copyi (ty := .int) hx hb (hml.trans hl.1.symm) hown (hts _ (List.mem_cons_of_mem _ (List.mem_append_left _ (List.mem_append_left _ (List.mem_of_getElem? (i := 1) rfl))))) (hts _ (List.mem_cons_of_mem _ (List.mem_append_left _ (List.mem_append_left _ (List.mem_of_getElem? (i := 2) rfl))))) (hts _ (List.mem_cons_of_mem _ (List.mem_append_left _ (List.mem_append_left _ (List.mem_of_getElem? (i := 3) rfl))))) (hts _ (List.mem_cons_of_mem _ (List.mem_append_left _ (List.mem_append_left _ (List.mem_of_getElem? (i := 4) rfl))))) hK hP hD hS 3 5 1 1 rfl rfl rfl rfl rfl q2.1 q2.2.1 q2.2.2.1 q2.2.2.2.1 q2.2.2.2.2 (fun _ _ => rfl) (Nat.le_of_ble_eq_true rfl) (Nat.le_of_ble_eq_true rfl) dX10_load_62 (fun H locs hP hD hS => ?_)
        have hP : va_P (dC, dI) nCl (vC cy a z (uF σ 5 (va_cpy (σ.2.2.1 3) (σ.2.2.1 5) ((((L.1 1)) + 1)).toNatClampNeg (0 : Int32).toNatClampNeg (((((((σ.2.2.1 3 ((L.1 1)).toNatClampNeg)).toUInt32 >>> ((4 : Int32).toUInt32 &&& Int32.toUInt32 31)).toInt32)) &&& 4095)).toNatClampNeg))) H := hP
        have hD : va_D A (vC cy a z (uF σ 5 (va_cpy (σ.2.2.1 3) (σ.2.2.1 5) ((((L.1 1)) + 1)).toNatClampNeg (0 : Int32).toNatClampNeg (((((((σ.2.2.1 3 ((L.1 1)).toNatClampNeg)).toUInt32 >>> ((4 : Int32).toUInt32 &&& Int32.toUInt32 31)).toInt32)) &&& 4095)).toNatClampNeg))) := hD
        refine lv_iload_n hx hb dX10_load_65 rfl (lv_at hl 0 rfl) ?_
        obtain rfl := Option.some.inj h
        exact W.iret (v := ((((((σ.2.2.1 3 ((L.1 1)).toNatClampNeg)).toUInt32 >>> ((4 : Int32).toUInt32 &&& Int32.toUInt32 31)).toInt32)) &&& 4095)) hx hb hr (fun t ht hW => ⟨⟨((((((σ.2.2.1 3 ((L.1 1)).toNatClampNeg)).toUInt32 >>> ((4 : Int32).toUInt32 &&& Int32.toUInt32 31)).toInt32)) &&& 4095), (), rfl, rfl, by rw [ht]; exact hP, va_K.moved hW.alike hK, hD⟩, hS.F ht⟩) hS.2.2 dX10_load_66
      · intro L σ r h H locs ls hP hD hS hl
        rw [y_X10_load__a5] at h
        refine lv_iload_n hx hb dX10_load_21 rfl (lv_at hl 0 rfl) ?_
        exact ih.2.2.2.1 (lI (lI L 100 ((L.1 3))) 101 ((L.1 100))) σ r h H locs ls hP hD hS (lv_sub hl [0] rfl)
      · intro L σ r h H locs ls hP hD hS hl
        rw [y_X10_load__a5] at h
        obtain ⟨q1, h⟩ := kb_ite1 h
        refine hs_5 hx hb hK hP hD hS q1 dX10_load_22 (fun H locs hP hD hS => ?_)
        refine lv_iload_n hx hb dX10_load_23 rfl (lv_at hl 0 rfl) ?_
        refine lv_if_ne (tgt := 31) hx hb dX10_load_24 (by decide) (fun c2 => ?_) (fun c2 => ?_)
        · rw [if_neg c2] at h
          exact ih.2.2.2.2.1 L (uA σ 5 ((L.1 101)).toNatClampNeg ((L.1 100))) r h H locs ls hP hD hS (lv_sub hl [] rfl)
        · rw [if_pos c2] at h
          refine lv_iconst (v := 0) hx hb dX10_load_27 (by decide) ?_
          refine lv_goto (tgt := 32) hx hb dX10_load_28 (by decide) ?_
          exact ih.2.2.2.2.2 (lI L 100 0) (uA σ 5 ((L.1 101)).toNatClampNeg ((L.1 100))) r h H locs ls hP hD hS (lv_sub hl [] rfl)
      · intro L σ r h H locs ls hP hD hS hl
        rw [y_X10_load__a5] at h
        refine lv_iconst (v := 1) hx hb dX10_load_31 (by decide) ?_
        exact ih.2.2.2.2.2 (lI L 100 1) σ r h H locs ls hP hD hS (lv_sub hl [] rfl)
      · intro L σ r h H locs ls hP hD hS hl
        rw [y_X10_load__a5] at h
        obtain rfl := Option.some.inj h
        exact W.iret (v := (L.1 100)) hx hb hr (fun t ht hW => ⟨⟨(L.1 100), (), rfl, rfl, by rw [ht]; exact hP, va_K.moved hW.alike hK, hD⟩, hS.F ht⟩) hS.2.2 dX10_load_32
  exact (blk k0).1 L0 σ0 r0 h0 s.heap [] ls hP hD hS hl
/-! X10_load__a6 -/
def y_X10_load__a6 : Nat → Nat → LV → CS → Option (Int32 × CS)
  | 0, _, _, _ => none
  | k + 1, 0, L, σ => if 0 ≤ ((L.1 1)) then (y_X10_load__a6 k 1 L σ) else (if 0 ≤ ((((((L.1 1)) <<< ((4 : Int32) &&& 31))) >>> ((4 : Int32) &&& 31))) then (y_X10_load__a6 k 2 (lI (lI L 3 ((((((L.1 1)) <<< ((4 : Int32) &&& 31))) >>> ((4 : Int32) &&& 31)))) 100 0) σ) else (y_X10_load__a6 k 3 (lI (lI (lI L 3 ((((((L.1 1)) <<< ((4 : Int32) &&& 31))) >>> ((4 : Int32) &&& 31)))) 100 ((- ((((((L.1 1)) <<< ((4 : Int32) &&& 31))) >>> ((4 : Int32) &&& 31)))))) 101 0) σ))
  | k + 1, 1, L, σ => if ¬ (((L.1 1)) < 0 ∨ (sN σ 3) ≤ ((L.1 1)).toNatClampNeg) then (if ¬ ((((L.1 1)) + 1)) < 0 ∧ ¬ (0 : Int32) < 0 ∧ ¬ (((((((σ.2.2.1 3 ((L.1 1)).toNatClampNeg)).toUInt32 >>> ((4 : Int32).toUInt32 &&& Int32.toUInt32 31)).toInt32)) &&& 4095)) < 0 ∧ ((((L.1 1)) + 1)).toNatClampNeg + (((((((σ.2.2.1 3 ((L.1 1)).toNatClampNeg)).toUInt32 >>> ((4 : Int32).toUInt32 &&& Int32.toUInt32 31)).toInt32)) &&& 4095)).toNatClampNeg ≤ (sN σ 3) ∧ (0 : Int32).toNatClampNeg + (((((((σ.2.2.1 3 ((L.1 1)).toNatClampNeg)).toUInt32 >>> ((4 : Int32).toUInt32 &&& Int32.toUInt32 31)).toInt32)) &&& 4095)).toNatClampNeg ≤ 72 then (some (((((((σ.2.2.1 3 ((L.1 1)).toNatClampNeg)).toUInt32 >>> ((4 : Int32).toUInt32 &&& Int32.toUInt32 31)).toInt32)) &&& 4095), (uF σ 6 (va_cpy (σ.2.2.1 3) (σ.2.2.1 6) ((((L.1 1)) + 1)).toNatClampNeg (0 : Int32).toNatClampNeg (((((((σ.2.2.1 3 ((L.1 1)).toNatClampNeg)).toUInt32 >>> ((4 : Int32).toUInt32 &&& Int32.toUInt32 31)).toInt32)) &&& 4095)).toNatClampNeg)))) else none) else none
  | k + 1, 2, L, σ => y_X10_load__a6 k 3 (lI (lI L 100 ((L.1 3))) 101 ((L.1 100))) σ
  | k + 1, 3, L, σ => if ¬ (((L.1 101)) < 0 ∨ 72 ≤ ((L.1 101)).toNatClampNeg) then (if ((L.1 3)) = 0 then (y_X10_load__a6 k 5 (lI L 100 0) (uA σ 6 ((L.1 101)).toNatClampNeg ((L.1 100)))) else (y_X10_load__a6 k 4 L (uA σ 6 ((L.1 101)).toNatClampNeg ((L.1 100))))) else none
  | k + 1, 4, L, σ => y_X10_load__a6 k 5 (lI L 100 1) σ
  | k + 1, 5, L, σ => some ((L.1 100), σ)
  | _ + 1, _ + 6, _, _ => none
def o_y_X10_load__a6 : List Cond := [.fieldLink RX10 33 "SetHouse$Wholes" "heap" "LSetHouse$Heap;", .methodLink RX10 58 arraycopyName, .native arraycopyName, .static arraycopyName, .initialized "java/lang/System"]
theorem o_y_X10_load__a6_good : o_y_X10_load__a6.all goodWord = true := by decide +kernel
def p_y_X10_load__a6 : List Cond := o_y_X10_load__a6 ++ []
theorem p_y_X10_load__a6_good : p_y_X10_load__a6.all goodWord = true := nb_all2 o_y_X10_load__a6_good rfl
def w_y_X10_load__a6 : List Cond := .code yX10_load cX10_load 4 (some .int) :: (p_y_X10_load__a6 ++ fC)
theorem w_y_X10_load__a6_good : w_y_X10_load__a6.all goodWord = true := nb_allc (by decide +kernel) (nb_all2 p_y_X10_load__a6_good fC_good)
theorem in_y_X10_load__a6_X1 : ∀ w ∈ wsX10, w ∈ w_y_X10_load__a6 := fun _ h => List.mem_cons_of_mem _ (List.mem_append_right _ (List.mem_append_right _ (List.mem_append_left _ h)))
theorem in_y_X10_load__a6_X10 : ∀ w ∈ wsX100, w ∈ w_y_X10_load__a6 := fun _ h => List.mem_cons_of_mem _ (List.mem_append_right _ (List.mem_append_right _ (List.mem_append_right _ (List.mem_append_right _ (List.mem_append_right _ (List.mem_append_right _ (List.mem_append_right _ (List.mem_append_right _ (List.mem_append_right _ (List.mem_append_right _ (List.mem_append_left _ h)))))))))))
theorem hd_y_X10_load__a6 : yX10_load.cls = RX10 ∧ yX10_load.cls ≠ "java/lang/invoke/MethodHandle" ∧ yX10_load.cls ≠ "java/lang/invoke/VarHandle" ∧ (parseMethodDescriptor yX10_load.desc).map (fun d => d.parameters.length) = some 2 := by decide +kernel
set_option maxHeartbeats 40000000 in
set_option maxRecDepth 100000 in
theorem c_y_X10_load__a6 (l : Launch) (dC : Nat → ClassId) (dI : Nat → Nat → Nat) (cy : Nat → ClassId) (a z : Nat → Nat) (k0 : Nat) (L0 : LV) (σ0 : CS) (r0 : Int32 × CS) (h0 : y_X10_load__a6 k0 0 L0 σ0 = some r0) (sz : Nat) : Met l yX10_load w_y_X10_load__a6 ({ frames := 1, cells := 0, slots := 0, locals := 60 }) (va_Pc [.ref (a 4), .int (L0.1 1), .ref (a 6)] (nIn (dC, dI) cy sz (vC cy a z σ0))) (va_Qi (fun (x : Int32) (_ : Unit) => x = r0.1) (fun _ t => nOut (dC, dI) cy (va_A (vC cy a z σ0) sz) (vC cy a z r0.2) t) (va_A (vC cy a z σ0) sz)) 0 0 (va_A (vC cy a z σ0) sz) := by
  refine Met.ofW (cc := cX10_load) (maxL := 4) (ret := (some .int)) (by decide) rfl ?_
  intro p e s m args below meth c s₁ B hml hv
  obtain ⟨rfl, hsz, hP, hK, hD0, hG⟩ := hv
  have hx := B.exec
  have hb := B.bytes
  have hr := B.returns
  have hts := atoms_spec (ws := w_y_X10_load__a6) B.pre
  have hown : s.vm.findClass RX10 = some m.cls := findClass_of_methodNamed B.named
  have hlocks := B.notSynchronized
  subst hsz
  have hD := hD0.self (sz := s.heap.size)
  generalize hAe : va_A (vC cy a z σ0) s.heap.size = A at hD ⊢
  have hA : ∀ q : Nat, s.heap.size ≤ q → A q := fun q h => by rw [← hAe]; exact Or.inr h
  have hS : va_S A s.heap s.heap [] := va_S.rf
  have hl := lv_entry ([.ref (a 4), .int (L0.1 1), .ref (a 6)]) (n := 4) (Nat.le_of_ble_eq_true rfl)
  rw [lg_entry_eq]
  generalize (lg_sl ([.ref (a 4), .int (L0.1 1), .ref (a 6)]) ++ List.replicate (4 - (lg_sl ([.ref (a 4), .int (L0.1 1), .ref (a 6)])).length) Slot.unset).toArray = ls at hl ⊢
  have hl : lv_has ls 4 [(0, .ref (a 4)), (1, .int (L0.1 1)), (2, .ref (a 6))] := hl
  have blk : ∀ k : Nat, (bC p l e (headSpec w_y_X10_load__a6 ({ frames := 1, cells := 0, slots := 0, locals := 60 })).room s m #[.ref (a 4), .int (L0.1 1), .ref (a 6)] below meth c dC dI cy a z A (kI dC dI cy a z A below #[.ref (a 4), .int (L0.1 1), .ref (a 6)] s) 4 (y_X10_load__a6 k 0) (fun L => [(0, .ref (a 4)), (1, .int (L.1 1)), (2, .ref (a 6))]) 0 (fun L => [])) ∧ (bC p l e (headSpec w_y_X10_load__a6 ({ frames := 1, cells := 0, slots := 0, locals := 60 })).room s m #[.ref (a 4), .int (L0.1 1), .ref (a 6)] below meth c dC dI cy a z A (kI dC dI cy a z A below #[.ref (a 4), .int (L0.1 1), .ref (a 6)] s) 4 (y_X10_load__a6 k 1) (fun L => [(0, .ref (a 4)), (1, .int (L.1 1)), (2, .ref (a 6))]) 33 (fun L => [])) ∧ (bC p l e (headSpec w_y_X10_load__a6 ({ frames := 1, cells := 0, slots := 0, locals := 60 })).room s m #[.ref (a 4), .int (L0.1 1), .ref (a 6)] below meth c dC dI cy a z A (kI dC dI cy a z A below #[.ref (a 4), .int (L0.1 1), .ref (a 6)] s) 4 (y_X10_load__a6 k 2) (fun L => [(3, .int (L.1 3))]) 21 (fun L => [.int (L.1 100), .ref (a 6)])) ∧ (bC p l e (headSpec w_y_X10_load__a6 ({ frames := 1, cells := 0, slots := 0, locals := 60 })).room s m #[.ref (a 4), .int (L0.1 1), .ref (a 6)] below meth c dC dI cy a z A (kI dC dI cy a z A below #[.ref (a 4), .int (L0.1 1), .ref (a 6)] s) 4 (y_X10_load__a6 k 3) (fun L => [(3, .int (L.1 3))]) 22 (fun L => [.int (L.1 100), .int (L.1 101), .ref (a 6)])) ∧ (bC p l e (headSpec w_y_X10_load__a6 ({ frames := 1, cells := 0, slots := 0, locals := 60 })).room s m #[.ref (a 4), .int (L0.1 1), .ref (a 6)] below meth c dC dI cy a z A (kI dC dI cy a z A below #[.ref (a 4), .int (L0.1 1), .ref (a 6)] s) 4 (y_X10_load__a6 k 4) (fun L => []) 31 (fun L => [])) ∧ (bC p l e (headSpec w_y_X10_load__a6 ({ frames := 1, cells := 0, slots := 0, locals := 60 })).room s m #[.ref (a 4), .int (L0.1 1), .ref (a 6)] below meth c dC dI cy a z A (kI dC dI cy a z A below #[.ref (a 4), .int (L0.1 1), .ref (a 6)] s) 4 (y_X10_load__a6 k 5) (fun L => []) 32 (fun L => [.int (L.1 100)])) := by
    intro k
    induction k with
    | zero => exact ⟨fun L σ r h => (by cases h), fun L σ r h => (by cases h), fun L σ r h => (by cases h), fun L σ r h => (by cases h), fun L σ r h => (by cases h), fun L σ r h => (by cases h)⟩
    | succ k ih =>
      refine ⟨?_, ?_, ?_, ?_, ?_, ?_⟩
      · intro L σ r h H locs ls hP hD hS hl
        rw [y_X10_load__a6] at h
        refine lv_iload_n hx hb dX10_load_0 rfl (lv_at hl 1 rfl) ?_
        refine lv_if_ge (tgt := 33) hx hb dX10_load_1 (by decide) (fun c1 => ?_) (fun c1 => ?_)
        · rw [if_pos c1] at h
          exact ih.2.1 L σ r h H locs ls hP hD hS (lv_sub hl [0, 1, 2] rfl)
        · rw [if_neg c1] at h
          refine lv_iload_n hx hb dX10_load_4 rfl (lv_at hl 1 rfl) ?_
          refine lv_iconst (v := 4) hx hb dX10_load_5 (by decide) ?_
          refine lv_ishl hx hb dX10_load_6 ?_
          refine lv_iconst (v := 4) hx hb dX10_load_7 (by decide) ?_
          refine lv_ishr hx hb dX10_load_8 ?_
          refine lv_istore_n (lv' := [(3, .int (((((L.1 1)) <<< ((4 : Int32) &&& 31))) >>> ((4 : Int32) &&& 31))), (0, .ref (a 4)), (1, .int (L.1 1)), (2, .ref (a 6))]) hx hb dX10_load_9 rfl hl (by decide) rfl (fun ls hl => ?_)
          refine lv_aload_n hx hb dX10_load_10 rfl (lv_at hl 3 rfl) ?_
          refine lv_iconst (v := 0) hx hb dX10_load_11 (by decide) ?_
          refine lv_iload_n hx hb dX10_load_12 rfl (lv_at hl 0 rfl) ?_
          refine lv_if_ge (tgt := 21) hx hb dX10_load_13 (by decide) (fun c2 => ?_) (fun c2 => ?_)
          · rw [if_pos c2] at h
            exact ih.2.2.1 (lI (lI L 3 ((((((L.1 1)) <<< ((4 : Int32) &&& 31))) >>> ((4 : Int32) &&& 31)))) 100 0) σ r h H locs ls hP hD hS (lv_sub hl [0] rfl)
          · rw [if_neg c2] at h
            refine lv_iload_n hx hb dX10_load_16 rfl (lv_at hl 0 rfl) ?_
            refine lv_ineg hx hb dX10_load_17 ?_
            refine lv_goto (tgt := 22) hx hb dX10_load_18 (by decide) ?_
            exact ih.2.2.2.1 (lI (lI (lI L 3 ((((((L.1 1)) <<< ((4 : Int32) &&& 31))) >>> ((4 : Int32) &&& 31)))) 100 ((- ((((((L.1 1)) <<< ((4 : Int32) &&& 31))) >>> ((4 : Int32) &&& 31)))))) 101 0) σ r h H locs ls hP hD hS (lv_sub hl [0] rfl)
      · intro L σ r h H locs ls hP hD hS hl
        rw [y_X10_load__a6] at h
        refine lv_aload_n hx hb dX10_load_33 rfl (lv_at hl 0 rfl) ?_
        refine hg_4_0 hx hb hts in_y_X10_load__a6_X10 hown hK hP (hts _ (List.mem_cons_of_mem _ (List.mem_append_left _ (List.mem_append_left _ (List.mem_of_getElem? (i := 0) rfl))))) dX10_load_34 ?_
        refine hg_0_0n hx hb hts in_y_X10_load__a6_X1 hown hK hP (va_Nw.use rfl (hG.1 _ (List.mem_of_getElem? (i := 0) rfl))) dX10_load_37 ?_
        refine lv_iload_n hx hb dX10_load_40 rfl (lv_at hl 1 rfl) ?_
        obtain ⟨q1, h⟩ := kb_ite1 h
        refine hl_3 hx hb hK hP q1 dX10_load_41 ?_
        refine lv_iconst (v := 4) hx hb dX10_load_42 (by decide) ?_
        refine lv_iushr (v := (((σ.2.2.1 3 ((L.1 1)).toNatClampNeg)).toUInt32 >>> ((4 : Int32).toUInt32 &&& Int32.toUInt32 31)).toInt32) hx hb dX10_load_43 rfl ?_
        refine lv_sipush (v := 4095) hx hb dX10_load_44 (by decide) ?_
        refine lv_iand hx hb dX10_load_47 ?_
        refine lv_istore_n (lv' := [(3, .int ((((((σ.2.2.1 3 ((L.1 1)).toNatClampNeg)).toUInt32 >>> ((4 : Int32).toUInt32 &&& Int32.toUInt32 31)).toInt32)) &&& 4095)), (0, .ref (a 4)), (1, .int (L.1 1)), (2, .ref (a 6))]) hx hb dX10_load_48 rfl hl (by decide) rfl (fun ls hl => ?_)
        refine lv_aload_n hx hb dX10_load_49 rfl (lv_at hl 1 rfl) ?_
        refine hg_4_0 hx hb hts in_y_X10_load__a6_X10 hown hK hP (hts _ (List.mem_cons_of_mem _ (List.mem_append_left _ (List.mem_append_left _ (List.mem_of_getElem? (i := 0) rfl))))) dX10_load_50 ?_
        refine hg_0_0n hx hb hts in_y_X10_load__a6_X1 hown hK hP (va_Nw.use rfl (hG.1 _ (List.mem_of_getElem? (i := 0) rfl))) dX10_load_53 ?_
        refine lv_iload_n hx hb dX10_load_56 rfl (lv_at hl 2 rfl) ?_
        refine lv_iconst (v := 1) hx hb dX10_load_57 (by decide) ?_
        refine lv_iadd hx hb dX10_load_58 ?_
        refine lv_aload_n hx hb dX10_load_59 rfl (lv_at hl 3 rfl) ?_
        refine lv_iconst (v := 0) hx hb dX10_load_60 (by decide) ?_
        refine lv_iload_n hx hb dX10_load_61 rfl (lv_at hl 0 rfl) ?_
        obtain ⟨q2, h⟩ := kb_ite1 h
        refine va_copyi (ty := .int) hx hb (hml.trans hl.1.symm) hown (hts _ (List.mem_cons_of_mem _ (List.mem_append_left _ (List.mem_append_left _ (List.mem_of_getElem? (i := 1) rfl))))) (hts _ (List.mem_cons_of_mem _ (List.mem_append_left _ (List.mem_append_left _ (List.mem_of_getElem? (i := 2) rfl))))) (hts _ (List.mem_cons_of_mem _ (List.mem_append_left _ (List.mem_append_left _ (List.mem_of_getElem? (i := 3) rfl))))) (hts _ (List.mem_cons_of_mem _ (List.mem_append_left _ (List.mem_append_left _ (List.mem_of_getElem? (i := 4) rfl))))) hK hP hD hS 3 6 1 1 rfl rfl rfl rfl rfl q2.1 q2.2.1 q2.2.2.1 q2.2.2.2.1 q2.2.2.2.2 (fun _ _ => rfl) (Nat.le_of_ble_eq_true rfl) (Nat.le_of_ble_eq_true rfl) dX10_load_62 (fun H locs hP hD hS => ?_)
        have hP : va_P (dC, dI) nCl (vC cy a z (uF σ 6 (va_cpy (σ.2.2.1 3) (σ.2.2.1 6) ((((L.1 1)) + 1)).toNatClampNeg (0 : Int32).toNatClampNeg (((((((σ.2.2.1 3 ((L.1 1)).toNatClampNeg)).toUInt32 >>> ((4 : Int32).toUInt32 &&& Int32.toUInt32 31)).toInt32)) &&& 4095)).toNatClampNeg))) H := hP
        have hD : va_D A (vC cy a z (uF σ 6 (va_cpy (σ.2.2.1 3) (σ.2.2.1 6) ((((L.1 1)) + 1)).toNatClampNeg (0 : Int32).toNatClampNeg (((((((σ.2.2.1 3 ((L.1 1)).toNatClampNeg)).toUInt32 >>> ((4 : Int32).toUInt32 &&& Int32.toUInt32 31)).toInt32)) &&& 4095)).toNatClampNeg))) := hD
        refine lv_iload_n hx hb dX10_load_65 rfl (lv_at hl 0 rfl) ?_
        obtain rfl := Option.some.inj h
        exact W.iret (v := ((((((σ.2.2.1 3 ((L.1 1)).toNatClampNeg)).toUInt32 >>> ((4 : Int32).toUInt32 &&& Int32.toUInt32 31)).toInt32)) &&& 4095)) hx hb hr (fun t ht hW => ⟨⟨((((((σ.2.2.1 3 ((L.1 1)).toNatClampNeg)).toUInt32 >>> ((4 : Int32).toUInt32 &&& Int32.toUInt32 31)).toInt32)) &&& 4095), (), rfl, rfl, by rw [ht]; exact hP, va_K.moved hW.alike hK, hD⟩, hS.F ht⟩) hS.2.2 dX10_load_66
      · intro L σ r h H locs ls hP hD hS hl
        rw [y_X10_load__a6] at h
        refine lv_iload_n hx hb dX10_load_21 rfl (lv_at hl 0 rfl) ?_
        exact ih.2.2.2.1 (lI (lI L 100 ((L.1 3))) 101 ((L.1 100))) σ r h H locs ls hP hD hS (lv_sub hl [0] rfl)
      · intro L σ r h H locs ls hP hD hS hl
        rw [y_X10_load__a6] at h
        obtain ⟨q1, h⟩ := kb_ite1 h
        refine hs_6 hx hb hK hP hD hS q1 dX10_load_22 (fun H locs hP hD hS => ?_)
        refine lv_iload_n hx hb dX10_load_23 rfl (lv_at hl 0 rfl) ?_
        refine lv_if_ne (tgt := 31) hx hb dX10_load_24 (by decide) (fun c2 => ?_) (fun c2 => ?_)
        · rw [if_neg c2] at h
          exact ih.2.2.2.2.1 L (uA σ 6 ((L.1 101)).toNatClampNeg ((L.1 100))) r h H locs ls hP hD hS (lv_sub hl [] rfl)
        · rw [if_pos c2] at h
          refine lv_iconst (v := 0) hx hb dX10_load_27 (by decide) ?_
          refine lv_goto (tgt := 32) hx hb dX10_load_28 (by decide) ?_
          exact ih.2.2.2.2.2 (lI L 100 0) (uA σ 6 ((L.1 101)).toNatClampNeg ((L.1 100))) r h H locs ls hP hD hS (lv_sub hl [] rfl)
      · intro L σ r h H locs ls hP hD hS hl
        rw [y_X10_load__a6] at h
        refine lv_iconst (v := 1) hx hb dX10_load_31 (by decide) ?_
        exact ih.2.2.2.2.2 (lI L 100 1) σ r h H locs ls hP hD hS (lv_sub hl [] rfl)
      · intro L σ r h H locs ls hP hD hS hl
        rw [y_X10_load__a6] at h
        obtain rfl := Option.some.inj h
        exact W.iret (v := (L.1 100)) hx hb hr (fun t ht hW => ⟨⟨(L.1 100), (), rfl, rfl, by rw [ht]; exact hP, va_K.moved hW.alike hK, hD⟩, hS.F ht⟩) hS.2.2 dX10_load_32
  exact (blk k0).1 L0 σ0 r0 h0 s.heap [] ls hP hD hS hl
/-! X10_takeLimbs__a5__a6 -/
def y_X10_takeLimbs__a5__a6 : Nat → Nat → LV → CS → Option (Int32 × CS)
  | 0, _, _, _ => none
  | k + 1, 0, L, σ => y_X10_takeLimbs__a5__a6 k 1 (lI (lJ L 5 0) 7 0) σ
  | k + 1, 1, L, σ => if ((L.1 2)) ≤ ((L.1 7)) then (y_X10_takeLimbs__a5__a6 k 2 L σ) else (if ¬ (((L.1 7)) < 0 ∨ 72 ≤ ((L.1 7)).toNatClampNeg) then (if ((L.1 4)) ≤ ((L.1 7)) then (y_X10_takeLimbs__a5__a6 k 3 (lJ L 100 ((((L.2.1 5)) + ((((((σ.2.2.1 5 ((L.1 7)).toNatClampNeg)).toInt64)) &&& 4294967295))))) σ) else (if ¬ (((L.1 7)) < 0 ∨ 72 ≤ ((L.1 7)).toNatClampNeg) then (y_X10_takeLimbs__a5__a6 k 4 (lJ (lJ L 100 ((((((σ.2.2.1 6 ((L.1 7)).toNatClampNeg)).toInt64)) &&& 4294967295))) 101 ((((L.2.1 5)) + ((((((σ.2.2.1 5 ((L.1 7)).toNatClampNeg)).toInt64)) &&& 4294967295))))) σ) else none)) else none)
  | k + 1, 2, L, σ => some ((L.1 2), σ)
  | k + 1, 3, L, σ => y_X10_takeLimbs__a5__a6 k 4 (lJ (lJ L 100 0) 101 ((L.2.1 100))) σ
  | k + 1, 4, L, σ => if ¬ (((L.1 7)) < 0 ∨ 72 ≤ ((L.1 7)).toNatClampNeg) then (y_X10_takeLimbs__a5__a6 k 1 (lI (lJ L 5 ((((((L.2.1 101)) - ((L.2.1 100)))) >>> ((32 : Int32).toInt64 &&& 63)))) 7 ((((L.1 7)) + 1))) (uA σ 7 ((L.1 7)).toNatClampNeg ((((((L.2.1 101)) - ((L.2.1 100)))).toInt32)))) else none
  | _ + 1, _ + 5, _, _ => none
def o_y_X10_takeLimbs__a5__a6 : List Cond := [.constantLong RX10 105 (4294967295), .fieldLink RX10 18 "SetHouse$Wholes" "result" "[I"]
theorem o_y_X10_takeLimbs__a5__a6_good : o_y_X10_takeLimbs__a5__a6.all goodWord = true := by decide +kernel
def p_y_X10_takeLimbs__a5__a6 : List Cond := o_y_X10_takeLimbs__a5__a6 ++ []
theorem p_y_X10_takeLimbs__a5__a6_good : p_y_X10_takeLimbs__a5__a6.all goodWord = true := nb_all2 o_y_X10_takeLimbs__a5__a6_good rfl
def w_y_X10_takeLimbs__a5__a6 : List Cond := .code yX10_takeLimbs cX10_takeLimbs 8 (some .int) :: (p_y_X10_takeLimbs__a5__a6 ++ fC)
theorem w_y_X10_takeLimbs__a5__a6_good : w_y_X10_takeLimbs__a5__a6.all goodWord = true := nb_allc (by decide +kernel) (nb_all2 p_y_X10_takeLimbs__a5__a6_good fC_good)
theorem in_y_X10_takeLimbs__a5__a6_X10 : ∀ w ∈ wsX100, w ∈ w_y_X10_takeLimbs__a5__a6 := fun _ h => List.mem_cons_of_mem _ (List.mem_append_right _ (List.mem_append_right _ (List.mem_append_right _ (List.mem_append_right _ (List.mem_append_right _ (List.mem_append_right _ (List.mem_append_right _ (List.mem_append_right _ (List.mem_append_right _ (List.mem_append_right _ (List.mem_append_left _ h)))))))))))
theorem hd_y_X10_takeLimbs__a5__a6 : yX10_takeLimbs.cls = RX10 ∧ yX10_takeLimbs.cls ≠ "java/lang/invoke/MethodHandle" ∧ yX10_takeLimbs.cls ≠ "java/lang/invoke/VarHandle" ∧ (parseMethodDescriptor yX10_takeLimbs.desc).map (fun d => d.parameters.length) = some 4 := by decide +kernel
set_option maxHeartbeats 40000000 in
set_option maxRecDepth 100000 in
theorem c_y_X10_takeLimbs__a5__a6 (l : Launch) (dC : Nat → ClassId) (dI : Nat → Nat → Nat) (cy : Nat → ClassId) (a z : Nat → Nat) (k0 : Nat) (L0 : LV) (σ0 : CS) (r0 : Int32 × CS) (h0 : y_X10_takeLimbs__a5__a6 k0 0 L0 σ0 = some r0) (sz : Nat) : Met l yX10_takeLimbs w_y_X10_takeLimbs__a5__a6 ({ frames := 0, cells := 0, slots := 0, locals := 0 }) (va_Pc [.ref (a 4), .ref (a 5), .int (L0.1 2), .ref (a 6), .int (L0.1 4)] (nIn (dC, dI) cy sz (vC cy a z σ0))) (va_Qi (fun (x : Int32) (_ : Unit) => x = r0.1) (fun _ t => nOut (dC, dI) cy (va_A (vC cy a z σ0) sz) (vC cy a z r0.2) t) (va_A (vC cy a z σ0) sz)) 0 0 (va_A (vC cy a z σ0) sz) := by
  refine Met.ofW (cc := cX10_takeLimbs) (maxL := 8) (ret := (some .int)) (by decide) rfl ?_
  intro p e s m args below meth c s₁ B hml hv
  obtain ⟨rfl, hsz, hP, hK, hD0, hG⟩ := hv
  have hx := B.exec
  have hb := B.bytes
  have hr := B.returns
  have hts := atoms_spec (ws := w_y_X10_takeLimbs__a5__a6) B.pre
  have hown : s.vm.findClass RX10 = some m.cls := findClass_of_methodNamed B.named
  have hlocks := B.notSynchronized
  subst hsz
  have hD := hD0.self (sz := s.heap.size)
  generalize hAe : va_A (vC cy a z σ0) s.heap.size = A at hD ⊢
  have hA : ∀ q : Nat, s.heap.size ≤ q → A q := fun q h => by rw [← hAe]; exact Or.inr h
  have hS : va_S A s.heap s.heap [] := va_S.rf
  have hl := lv_entry ([.ref (a 4), .ref (a 5), .int (L0.1 2), .ref (a 6), .int (L0.1 4)]) (n := 8) (Nat.le_of_ble_eq_true rfl)
  rw [lg_entry_eq]
  generalize (lg_sl ([.ref (a 4), .ref (a 5), .int (L0.1 2), .ref (a 6), .int (L0.1 4)]) ++ List.replicate (8 - (lg_sl ([.ref (a 4), .ref (a 5), .int (L0.1 2), .ref (a 6), .int (L0.1 4)])).length) Slot.unset).toArray = ls at hl ⊢
  have hl : lv_has ls 8 [(0, .ref (a 4)), (1, .ref (a 5)), (2, .int (L0.1 2)), (3, .ref (a 6)), (4, .int (L0.1 4))] := hl
  have blk : ∀ k : Nat, (bC p l e (headSpec w_y_X10_takeLimbs__a5__a6 ({ frames := 0, cells := 0, slots := 0, locals := 0 })).room s m #[.ref (a 4), .ref (a 5), .int (L0.1 2), .ref (a 6), .int (L0.1 4)] below meth c dC dI cy a z A (kI dC dI cy a z A below #[.ref (a 4), .ref (a 5), .int (L0.1 2), .ref (a 6), .int (L0.1 4)] s) 8 (y_X10_takeLimbs__a5__a6 k 0) (fun L => [(0, .ref (a 4)), (1, .ref (a 5)), (2, .int (L.1 2)), (3, .ref (a 6)), (4, .int (L.1 4))]) 0 (fun L => [])) ∧ (bC p l e (headSpec w_y_X10_takeLimbs__a5__a6 ({ frames := 0, cells := 0, slots := 0, locals := 0 })).room s m #[.ref (a 4), .ref (a 5), .int (L0.1 2), .ref (a 6), .int (L0.1 4)] below meth c dC dI cy a z A (kI dC dI cy a z A below #[.ref (a 4), .ref (a 5), .int (L0.1 2), .ref (a 6), .int (L0.1 4)] s) 8 (y_X10_takeLimbs__a5__a6 k 1) (fun L => [(0, .ref (a 4)), (1, .ref (a 5)), (2, .int (L.1 2)), (3, .ref (a 6)), (4, .int (L.1 4)), (5, .long (L.2.1 5)), (7, .int (L.1 7))]) 6 (fun L => [])) ∧ (bC p l e (headSpec w_y_X10_takeLimbs__a5__a6 ({ frames := 0, cells := 0, slots := 0, locals := 0 })).room s m #[.ref (a 4), .ref (a 5), .int (L0.1 2), .ref (a 6), .int (L0.1 4)] below meth c dC dI cy a z A (kI dC dI cy a z A below #[.ref (a 4), .ref (a 5), .int (L0.1 2), .ref (a 6), .int (L0.1 4)] s) 8 (y_X10_takeLimbs__a5__a6 k 2) (fun L => [(2, .int (L.1 2))]) 70 (fun L => [])) ∧ (bC p l e (headSpec w_y_X10_takeLimbs__a5__a6 ({ frames := 0, cells := 0, slots := 0, locals := 0 })).room s m #[.ref (a 4), .ref (a 5), .int (L0.1 2), .ref (a 6), .int (L0.1 4)] below meth c dC dI cy a z A (kI dC dI cy a z A below #[.ref (a 4), .ref (a 5), .int (L0.1 2), .ref (a 6), .int (L0.1 4)] s) 8 (y_X10_takeLimbs__a5__a6 k 3) (fun L => [(0, .ref (a 4)), (1, .ref (a 5)), (2, .int (L.1 2)), (3, .ref (a 6)), (4, .int (L.1 4)), (7, .int (L.1 7))]) 43 (fun L => [.long (L.2.1 100)])) ∧ (bC p l e (headSpec w_y_X10_takeLimbs__a5__a6 ({ frames := 0, cells := 0, slots := 0, locals := 0 })).room s m #[.ref (a 4), .ref (a 5), .int (L0.1 2), .ref (a 6), .int (L0.1 4)] below meth c dC dI cy a z A (kI dC dI cy a z A below #[.ref (a 4), .ref (a 5), .int (L0.1 2), .ref (a 6), .int (L0.1 4)] s) 8 (y_X10_takeLimbs__a5__a6 k 4) (fun L => [(0, .ref (a 4)), (1, .ref (a 5)), (2, .int (L.1 2)), (3, .ref (a 6)), (4, .int (L.1 4)), (7, .int (L.1 7))]) 44 (fun L => [.long (L.2.1 100), .long (L.2.1 101)])) := by
    intro k
    induction k with
    | zero => exact ⟨fun L σ r h => (by cases h), fun L σ r h => (by cases h), fun L σ r h => (by cases h), fun L σ r h => (by cases h), fun L σ r h => (by cases h)⟩
    | succ k ih =>
      refine ⟨?_, ?_, ?_, ?_, ?_⟩
      · intro L σ r h H locs ls hP hD hS hl
        rw [y_X10_takeLimbs__a5__a6] at h
        refine lv_lconst (v := 0) hx hb dX10_takeLimbs_0 (by decide) ?_
        refine lv_lstore (lv' := [(5, .long 0), (0, .ref (a 4)), (1, .ref (a 5)), (2, .int (L.1 2)), (3, .ref (a 6)), (4, .int (L.1 4))]) hx hb dX10_takeLimbs_1 hl (by decide) rfl (fun ls hl => ?_)
        refine lv_iconst (v := 0) hx hb dX10_takeLimbs_3 (by decide) ?_
        refine lv_istore (lv' := [(7, .int 0), (5, .long 0), (0, .ref (a 4)), (1, .ref (a 5)), (2, .int (L.1 2)), (3, .ref (a 6)), (4, .int (L.1 4))]) hx hb dX10_takeLimbs_4 hl (by decide) rfl (fun ls hl => ?_)
        exact ih.2.1 (lI (lJ L 5 0) 7 0) σ r h H locs ls hP hD hS (lv_sub hl [2, 3, 4, 5, 6, 1, 0] rfl)
      · intro L σ r h H locs ls hP hD hS hl
        rw [y_X10_takeLimbs__a5__a6] at h
        refine lv_iload hx hb dX10_takeLimbs_6 (lv_at hl 6 rfl) ?_
        refine lv_iload_n hx hb dX10_takeLimbs_8 rfl (lv_at hl 2 rfl) ?_
        refine lv_icmp_ge (tgt := 70) hx hb dX10_takeLimbs_9 (by decide) (fun c1 => ?_) (fun c1 => ?_)
        · rw [if_pos c1] at h
          exact ih.2.2.1 L σ r h H locs ls hP hD hS (lv_sub hl [2] rfl)
        · rw [if_neg c1] at h
          refine lv_lload hx hb dX10_takeLimbs_12 (lv_at hl 5 rfl) ?_
          refine lv_aload_n hx hb dX10_takeLimbs_14 rfl (lv_at hl 1 rfl) ?_
          refine lv_iload hx hb dX10_takeLimbs_15 (lv_at hl 6 rfl) ?_
          obtain ⟨q2, h⟩ := kb_ite1 h
          refine hl_5 hx hb hK hP q2 dX10_takeLimbs_17 ?_
          refine lv_i2l (v := ((σ.2.2.1 5 ((L.1 7)).toNatClampNeg)).toInt64) hx hb dX10_takeLimbs_18 rfl ?_
          refine lv_ldc2 (v := 4294967295) hx hb hown (hts _ (List.mem_cons_of_mem _ (List.mem_append_left _ (List.mem_append_left _ (List.mem_of_getElem? (i := 0) rfl))))) dX10_takeLimbs_19 ?_
          refine lv_land hx hb dX10_takeLimbs_22 ?_
          refine lv_ladd hx hb dX10_takeLimbs_23 ?_
          refine lv_iload hx hb dX10_takeLimbs_24 (lv_at hl 6 rfl) ?_
          refine lv_iload hx hb dX10_takeLimbs_26 (lv_at hl 4 rfl) ?_
          refine lv_icmp_ge (tgt := 43) hx hb dX10_takeLimbs_28 (by decide) (fun c3 => ?_) (fun c3 => ?_)
          · rw [if_pos c3] at h
            exact ih.2.2.2.1 (lJ L 100 ((((L.2.1 5)) + ((((((σ.2.2.1 5 ((L.1 7)).toNatClampNeg)).toInt64)) &&& 4294967295))))) σ r h H locs ls hP hD hS (lv_sub hl [0, 1, 2, 3, 4, 6] rfl)
          · rw [if_neg c3] at h
            refine lv_aload_n hx hb dX10_takeLimbs_31 rfl (lv_at hl 3 rfl) ?_
            refine lv_iload hx hb dX10_takeLimbs_32 (lv_at hl 6 rfl) ?_
            obtain ⟨q4, h⟩ := kb_ite1 h
            refine hl_6 hx hb hK hP q4 dX10_takeLimbs_34 ?_
            refine lv_i2l (v := ((σ.2.2.1 6 ((L.1 7)).toNatClampNeg)).toInt64) hx hb dX10_takeLimbs_35 rfl ?_
            refine lv_ldc2 (v := 4294967295) hx hb hown (hts _ (List.mem_cons_of_mem _ (List.mem_append_left _ (List.mem_append_left _ (List.mem_of_getElem? (i := 0) rfl))))) dX10_takeLimbs_36 ?_
            refine lv_land hx hb dX10_takeLimbs_39 ?_
            refine lv_goto (tgt := 44) hx hb dX10_takeLimbs_40 (by decide) ?_
            exact ih.2.2.2.2 (lJ (lJ L 100 ((((((σ.2.2.1 6 ((L.1 7)).toNatClampNeg)).toInt64)) &&& 4294967295))) 101 ((((L.2.1 5)) + ((((((σ.2.2.1 5 ((L.1 7)).toNatClampNeg)).toInt64)) &&& 4294967295))))) σ r h H locs ls hP hD hS (lv_sub hl [0, 1, 2, 3, 4, 6] rfl)
      · intro L σ r h H locs ls hP hD hS hl
        rw [y_X10_takeLimbs__a5__a6] at h
        refine lv_iload_n hx hb dX10_takeLimbs_70 rfl (lv_at hl 0 rfl) ?_
        obtain rfl := Option.some.inj h
        exact W.iret (v := (L.1 2)) hx hb hr (fun t ht hW => ⟨⟨(L.1 2), (), rfl, rfl, by rw [ht]; exact hP, va_K.moved hW.alike hK, hD⟩, hS.F ht⟩) hS.2.2 dX10_takeLimbs_71
      · intro L σ r h H locs ls hP hD hS hl
        rw [y_X10_takeLimbs__a5__a6] at h
        refine lv_lconst (v := 0) hx hb dX10_takeLimbs_43 (by decide) ?_
        exact ih.2.2.2.2 (lJ (lJ L 100 0) 101 ((L.2.1 100))) σ r h H locs ls hP hD hS (lv_sub hl [0, 1, 2, 3, 4, 5] rfl)
      · intro L σ r h H locs ls hP hD hS hl
        rw [y_X10_takeLimbs__a5__a6] at h
        refine lv_lsub hx hb dX10_takeLimbs_44 ?_
        refine lv_lstore (lv' := [(5, .long (((L.2.1 101)) - ((L.2.1 100)))), (0, .ref (a 4)), (1, .ref (a 5)), (2, .int (L.1 2)), (3, .ref (a 6)), (4, .int (L.1 4)), (7, .int (L.1 7))]) hx hb dX10_takeLimbs_45 hl (by decide) rfl (fun ls hl => ?_)
        refine lv_aload_n hx hb dX10_takeLimbs_47 rfl (lv_at hl 1 rfl) ?_
        refine hg_4_3 hx hb hts in_y_X10_takeLimbs__a5__a6_X10 hown hK hP (hts _ (List.mem_cons_of_mem _ (List.mem_append_left _ (List.mem_append_left _ (List.mem_of_getElem? (i := 1) rfl))))) dX10_takeLimbs_48 ?_
        refine lv_iload hx hb dX10_takeLimbs_51 (lv_at hl 6 rfl) ?_
        refine lv_lload hx hb dX10_takeLimbs_53 (lv_at hl 0 rfl) ?_
        refine lv_l2i (v := ((((L.2.1 101)) - ((L.2.1 100)))).toInt32) hx hb dX10_takeLimbs_55 rfl ?_
        obtain ⟨q1, h⟩ := kb_ite1 h
        refine hs_7 hx hb hK hP hD hS q1 dX10_takeLimbs_56 (fun H locs hP hD hS => ?_)
        refine lv_lload hx hb dX10_takeLimbs_57 (lv_at hl 0 rfl) ?_
        refine lv_bipush (v := 32) hx hb dX10_takeLimbs_59 (by decide) ?_
        refine lv_lshr (v := ((((L.2.1 101)) - ((L.2.1 100)))) >>> ((32 : Int32).toInt64 &&& 63)) hx hb dX10_takeLimbs_61 rfl ?_
        refine lv_lstore (lv' := [(5, .long (((((L.2.1 101)) - ((L.2.1 100)))) >>> ((32 : Int32).toInt64 &&& 63))), (0, .ref (a 4)), (1, .ref (a 5)), (2, .int (L.1 2)), (3, .ref (a 6)), (4, .int (L.1 4)), (7, .int (L.1 7))]) hx hb dX10_takeLimbs_62 hl (by decide) rfl (fun ls hl => ?_)
        refine lv_iinc (v := ((L.1 7)) + 1) (lv' := [(7, .int (((L.1 7)) + 1)), (5, .long (((((L.2.1 101)) - ((L.2.1 100)))) >>> ((32 : Int32).toInt64 &&& 63))), (0, .ref (a 4)), (1, .ref (a 5)), (2, .int (L.1 2)), (3, .ref (a 6)), (4, .int (L.1 4))]) hx hb dX10_takeLimbs_64 hl (k := 6) rfl rfl (by decide) rfl (fun ls hl => ?_)
        refine lv_goto (tgt := 6) hx hb dX10_takeLimbs_67 (by decide) ?_
        exact ih.2.1 (lI (lJ L 5 ((((((L.2.1 101)) - ((L.2.1 100)))) >>> ((32 : Int32).toInt64 &&& 63)))) 7 ((((L.1 7)) + 1))) (uA σ 7 ((L.1 7)).toNatClampNeg ((((((L.2.1 101)) - ((L.2.1 100)))).toInt32))) r h H locs ls hP hD hS (lv_sub hl [2, 3, 4, 5, 6, 1, 0] rfl)
  exact (blk k0).1 L0 σ0 r0 h0 s.heap [] ls hP hD hS hl

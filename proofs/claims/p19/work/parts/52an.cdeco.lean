/-! X1_placeOf -/
def y_X1_placeOf : Nat → Nat → LV → CS → Option (Int32 × CS)
  | 0, _, _, _ => none
  | k + 1, 0, L, σ => if ¬ (((((L.1 1)) >>> ((5 : Int32) &&& 31))) < 0 ∨ (sN σ 2) ≤ ((((L.1 1)) >>> ((5 : Int32) &&& 31))).toNatClampNeg) then (if ¬ (((((L.1 1)) >>> ((5 : Int32) &&& 31))) < 0 ∨ (sN σ 1) ≤ ((((L.1 1)) >>> ((5 : Int32) &&& 31))).toNatClampNeg) then (oc (y_J6_bitCount_0f7a4 k 0 (lI lZ 0 ((((σ.2.2.1 1 ((((L.1 1)) >>> ((5 : Int32) &&& 31))).toNatClampNeg)) &&& (((((1 : Int32) <<< (((((L.1 1)) &&& 31)) &&& 31))) - 1))))) σ) (fun r3 => some ((((σ.2.2.1 2 ((((L.1 1)) >>> ((5 : Int32) &&& 31))).toNatClampNeg)) + r3.1), r3.2))) else none) else none
  | _ + 1, _ + 1, _, _ => none
def o_y_X1_placeOf : List Cond := [.fieldLink RX1 22 "SetHouse$Heap" "before" "[I", .fieldLink RX1 19 "SetHouse$Heap" "used" "[I", .methodLink RX1 89 yJ6_bitCount_0f7a4, .static yJ6_bitCount_0f7a4, .initialized RJ6]
theorem o_y_X1_placeOf_good : o_y_X1_placeOf.all goodWord = true := by decide +kernel
def p_y_X1_placeOf : List Cond := o_y_X1_placeOf ++ ((.code yJ6_bitCount_0f7a4 cJ6_bitCount_0f7a4 1 (some .int) :: p_y_J6_bitCount_0f7a4) ++ [])
theorem p_y_X1_placeOf_good : p_y_X1_placeOf.all goodWord = true := nb_all2 o_y_X1_placeOf_good (nb_all2 (nb_allc (by decide +kernel) p_y_J6_bitCount_0f7a4_good) rfl)
def w_y_X1_placeOf : List Cond := .code yX1_placeOf cX1_placeOf 2 (some .int) :: (p_y_X1_placeOf ++ fC)
theorem w_y_X1_placeOf_good : w_y_X1_placeOf.all goodWord = true := nb_allc (by decide +kernel) (nb_all2 p_y_X1_placeOf_good fC_good)
theorem in_y_X1_placeOf_X1 : ∀ w ∈ wsX10, w ∈ w_y_X1_placeOf := fun _ h => List.mem_cons_of_mem _ (List.mem_append_right _ (List.mem_append_right _ (List.mem_append_left _ h)))
theorem hd_y_X1_placeOf : yX1_placeOf.cls = RX1 ∧ yX1_placeOf.cls ≠ "java/lang/invoke/MethodHandle" ∧ yX1_placeOf.cls ≠ "java/lang/invoke/VarHandle" ∧ (parseMethodDescriptor yX1_placeOf.desc).map (fun d => d.parameters.length) = some 1 := by decide +kernel
theorem gg_y_X1_placeOf_J6_bitCount_0f7a4 : GoodIn w_y_X1_placeOf w_y_J6_bitCount_0f7a4 := goodIn_sub (fun w h => (List.mem_cons.mp h).elim (fun e => (List.mem_cons_of_mem _ (List.mem_append_left _ (List.mem_append_right _ (List.mem_append_left _ (List.mem_cons.mpr (Or.inl e))))))) (fun h => (List.mem_append.mp h).elim (fun h => (List.mem_cons_of_mem _ (List.mem_append_left _ (List.mem_append_right _ (List.mem_append_left _ (List.mem_cons_of_mem _ h)))))) (fun h => List.mem_cons_of_mem _ (List.mem_append_right _ h)))) w_y_J6_bitCount_0f7a4_good
theorem g_y_X1_placeOf_J6_bitCount_0f7a4_S89 : GoodIn w_y_X1_placeOf (va_wsS RX1 89 yJ6_bitCount_0f7a4 w_y_J6_bitCount_0f7a4) := goodIn_app (nb_g3 (List.mem_cons_of_mem _ (List.mem_append_left _ (List.mem_append_left _ (List.mem_of_getElem? (i := 2) rfl)))) (List.mem_cons_of_mem _ (List.mem_append_left _ (List.mem_append_left _ (List.mem_of_getElem? (i := 3) rfl)))) (List.mem_cons_of_mem _ (List.mem_append_left _ (List.mem_append_left _ (List.mem_of_getElem? (i := 4) rfl)))) (by decide +kernel)) gg_y_X1_placeOf_J6_bitCount_0f7a4
set_option maxHeartbeats 40000000 in
set_option maxRecDepth 100000 in
theorem c_y_X1_placeOf (l : Launch) (dC : Nat → ClassId) (dI : Nat → Nat → Nat) (cy : Nat → ClassId) (a z : Nat → Nat) (k0 : Nat) (L0 : LV) (σ0 : CS) (r0 : Int32 × CS) (h0 : y_X1_placeOf k0 0 L0 σ0 = some r0) (sz : Nat) : Met l yX1_placeOf w_y_X1_placeOf ({ frames := 1, cells := 0, slots := 0, locals := 20 }) (va_Pc [.ref (a 0), .int (L0.1 1)] (nIn (dC, dI) cy sz (vC cy a z σ0))) (va_Qi (fun (x : Int32) (_ : Unit) => x = r0.1) (fun _ t => nOut (dC, dI) cy (va_A (vC cy a z σ0) sz) (vC cy a z r0.2) t) (va_A (vC cy a z σ0) sz)) 0 0 (va_A (vC cy a z σ0) sz) := by
  refine Met.ofW (cc := cX1_placeOf) (maxL := 2) (ret := (some .int)) (by decide) rfl ?_
  intro p e s m args below meth c s₁ B hml hv
  obtain ⟨rfl, hsz, hP, hK, hD0, hG⟩ := hv
  have hx := B.exec
  have hb := B.bytes
  have hr := B.returns
  have hts := atoms_spec (ws := w_y_X1_placeOf) B.pre
  have hown : s.vm.findClass RX1 = some m.cls := findClass_of_methodNamed B.named
  have hlocks := B.notSynchronized
  subst hsz
  have hD := hD0.self (sz := s.heap.size)
  generalize hAe : va_A (vC cy a z σ0) s.heap.size = A at hD ⊢
  have hA : ∀ q : Nat, s.heap.size ≤ q → A q := fun q h => by rw [← hAe]; exact Or.inr h
  have hS : va_S A s.heap s.heap [] := va_S.rf
  have hl := lv_entry ([.ref (a 0), .int (L0.1 1)]) (n := 2) (Nat.le_of_ble_eq_true rfl)
  rw [lg_entry_eq]
  generalize (lg_sl ([.ref (a 0), .int (L0.1 1)]) ++ List.replicate (2 - (lg_sl ([.ref (a 0), .int (L0.1 1)])).length) Slot.unset).toArray = ls at hl ⊢
  have hl : lv_has ls 2 [(0, .ref (a 0)), (1, .int (L0.1 1))] := hl
  have blk : ∀ k : Nat, (bC p l e (headSpec w_y_X1_placeOf ({ frames := 1, cells := 0, slots := 0, locals := 20 })).room s m #[.ref (a 0), .int (L0.1 1)] below meth c dC dI cy a z A (kI dC dI cy a z A below #[.ref (a 0), .int (L0.1 1)] s) 2 (y_X1_placeOf k 0) (fun L => [(0, .ref (a 0)), (1, .int (L.1 1))]) 0 (fun L => [])) := by
    intro k
    induction k with
    | zero => exact fun L σ r h => (by cases h)
    | succ k ih =>
      skip
      · intro L σ r h H locs ls hP hD hS hl
        rw [y_X1_placeOf] at h
        refine lv_aload_n hx hb dX1_placeOf_0 rfl (lv_at hl 0 rfl) ?_
        refine hg_0_3 hx hb hts in_y_X1_placeOf_X1 hown hK hP (hts _ (List.mem_cons_of_mem _ (List.mem_append_left _ (List.mem_append_left _ (List.mem_of_getElem? (i := 0) rfl))))) dX1_placeOf_1 ?_
        refine lv_iload_n hx hb dX1_placeOf_4 rfl (lv_at hl 1 rfl) ?_
        refine lv_iconst (v := 5) hx hb dX1_placeOf_5 (by decide) ?_
        refine lv_ishr hx hb dX1_placeOf_6 ?_
        obtain ⟨q1, h⟩ := kb_ite1 h
        refine hl_2 hx hb hK hP q1 dX1_placeOf_7 ?_
        refine lv_aload_n hx hb dX1_placeOf_8 rfl (lv_at hl 0 rfl) ?_
        refine hg_0_2 hx hb hts in_y_X1_placeOf_X1 hown hK hP (hts _ (List.mem_cons_of_mem _ (List.mem_append_left _ (List.mem_append_left _ (List.mem_of_getElem? (i := 1) rfl))))) dX1_placeOf_9 ?_
        refine lv_iload_n hx hb dX1_placeOf_12 rfl (lv_at hl 1 rfl) ?_
        refine lv_iconst (v := 5) hx hb dX1_placeOf_13 (by decide) ?_
        refine lv_ishr hx hb dX1_placeOf_14 ?_
        obtain ⟨q2, h⟩ := kb_ite1 h
        refine hl_1 hx hb hK hP q2 dX1_placeOf_15 ?_
        refine lv_iconst (v := 1) hx hb dX1_placeOf_16 (by decide) ?_
        refine lv_iload_n hx hb dX1_placeOf_17 rfl (lv_at hl 1 rfl) ?_
        refine lv_bipush (v := 31) hx hb dX1_placeOf_18 (by decide) ?_
        refine lv_iand hx hb dX1_placeOf_20 ?_
        refine lv_ishl hx hb dX1_placeOf_21 ?_
        refine lv_iconst (v := 1) hx hb dX1_placeOf_22 (by decide) ?_
        refine lv_isub hx hb dX1_placeOf_23 ?_
        refine lv_iand hx hb dX1_placeOf_24 ?_
        obtain ⟨r3, hc3, h⟩ := oc_ex h
        refine kc_i (va_runS (As := [.int (((σ.2.2.1 1 ((((L.1 1)) >>> ((5 : Int32) &&& 31))).toNatClampNeg)) &&& (((((1 : Int32) <<< (((((L.1 1)) &&& 31)) &&& 31))) - 1)))]) (rest := [.int (σ.2.2.1 2 ((((L.1 1)) >>> ((5 : Int32) &&& 31))).toNatClampNeg)]) ⟨hx, hb, hml, hown, hts⟩ (c_y_J6_bitCount_0f7a4 l dC dI cy a z k (lI lZ 0 ((((σ.2.2.1 1 ((((L.1 1)) >>> ((5 : Int32) &&& 31))).toNatClampNeg)) &&& (((((1 : Int32) <<< (((((L.1 1)) &&& 31)) &&& 31))) - 1))))) σ r3 hc3 H.size) (va_cwS 1 hts g_y_X1_placeOf_J6_bitCount_0f7a4_S89 rfl rfl rfl hd_y_J6_bitCount_0f7a4 ⟨Nat.le_of_ble_eq_true rfl, Nat.le_of_ble_eq_true rfl⟩) ⟨nb_blind, (kb_pre hK hG hP hD)⟩ rfl rfl hl.1 rfl (lv_room (Nat.le_of_ble_eq_true rfl)) dX1_placeOf_25 ⟨Nat.le_refl _, Nat.le_refl _⟩) hA hP hD hS (fun H locs hP hD hS => ?_)
        refine lv_iadd hx hb dX1_placeOf_28 ?_
        obtain rfl := Option.some.inj h
        exact W.iret (v := (((σ.2.2.1 2 ((((L.1 1)) >>> ((5 : Int32) &&& 31))).toNatClampNeg)) + r3.1)) hx hb hr (fun t ht hW => ⟨⟨(((σ.2.2.1 2 ((((L.1 1)) >>> ((5 : Int32) &&& 31))).toNatClampNeg)) + r3.1), (), rfl, rfl, by rw [ht]; exact hP, va_K.moved hW.alike hK, hD⟩, hS.F ht⟩) hS.2.2 dX1_placeOf_29
  exact (blk k0) L0 σ0 r0 h0 s.heap [] ls hP hD hS hl
/-! X1_moveCells -/
def y_X1_moveCells : Nat → Nat → LV → CS → Option (Int32 × CS)
  | 0, _, _, _ => none
  | k + 1, 0, L, σ => y_X1_moveCells k 1 (lI (lI L 1 3) 3 3) σ
  | k + 1, 1, L, σ => if ((σ.1 1)) ≤ ((L.1 3)) then (y_X1_moveCells k 2 L σ) else (if ¬ (((L.1 3)) < 0 ∨ (sN σ 3) ≤ ((L.1 3)).toNatClampNeg) then (oc (y_X1_wordsBehind k 0 (lI lZ 0 ((σ.2.2.1 3 ((L.1 3)).toNatClampNeg))) σ) (fun r3 => if ¬ (((((L.1 3)) >>> ((5 : Int32) &&& 31))) < 0 ∨ (sN r3.2 1) ≤ ((((L.1 3)) >>> ((5 : Int32) &&& 31))).toNatClampNeg) then (if (((((((r3.2.2.2.1 1 ((((L.1 3)) >>> ((5 : Int32) &&& 31))).toNatClampNeg)).toUInt32 >>> (((((L.1 3)) &&& 31)).toUInt32 &&& Int32.toUInt32 31)).toInt32)) &&& 1)) = 0 then (y_X1_moveCells k 3 (lI L 2 ((1 + r3.1))) r3.2) else (y_X1_moveCells k 4 (lI (lI (lI L 2 ((1 + r3.1))) 4 ((σ.2.2.1 3 ((L.1 3)).toNatClampNeg))) 5 ((((L.1 3)) + 1))) r3.2)) else none)) else none)
  | k + 1, 2, L, σ => some (0, (uI σ 1 ((L.1 1))))
  | k + 1, 3, L, σ => y_X1_moveCells k 1 (lI L 3 ((((L.1 3)) + ((L.1 2))))) σ
  | k + 1, 4, L, σ => if ((((L.1 3)) + ((L.1 2)))) ≤ ((L.1 5)) then (y_X1_moveCells k 5 L σ) else (if ((((L.1 4)) &&& 7)) < 5 then (y_X1_moveCells k 5 L σ) else (if ¬ (((L.1 5)) < 0 ∨ (sN σ 3) ≤ ((L.1 5)).toNatClampNeg) then (if ((σ.2.2.1 3 ((L.1 5)).toNatClampNeg)) < 3 then (y_X1_moveCells k 6 (lI L 100 ((L.1 5))) σ) else (if ¬ (((L.1 5)) < 0 ∨ (sN σ 3) ≤ ((L.1 5)).toNatClampNeg) then (oc (y_X1_placeOf k 0 (lI lZ 1 ((σ.2.2.1 3 ((L.1 5)).toNatClampNeg))) σ) (fun r6 => y_X1_moveCells k 7 (lI (lI L 100 r6.1) 101 ((L.1 5))) r6.2)) else none)) else none))
  | k + 1, 5, L, σ => if ¬ ((L.1 3)) < 0 ∧ ¬ ((L.1 1)) < 0 ∧ ¬ ((L.1 2)) < 0 ∧ ((L.1 3)).toNatClampNeg + ((L.1 2)).toNatClampNeg ≤ (sN σ 3) ∧ ((L.1 1)).toNatClampNeg + ((L.1 2)).toNatClampNeg ≤ (sN σ 3) then (y_X1_moveCells k 3 (lI L 1 ((((L.1 1)) + ((L.1 2))))) (uF σ 3 (va_cpy (σ.2.2.1 3) (σ.2.2.1 3) ((L.1 3)).toNatClampNeg ((L.1 1)).toNatClampNeg ((L.1 2)).toNatClampNeg))) else none
  | k + 1, 6, L, σ => if ¬ (((L.1 5)) < 0 ∨ (sN σ 3) ≤ ((L.1 5)).toNatClampNeg) then (y_X1_moveCells k 7 (lI (lI L 100 ((σ.2.2.1 3 ((L.1 5)).toNatClampNeg))) 101 ((L.1 100))) σ) else none
  | k + 1, 7, L, σ => if ¬ (((L.1 101)) < 0 ∨ (sN σ 3) ≤ ((L.1 101)).toNatClampNeg) then (y_X1_moveCells k 4 (lI L 5 ((((L.1 5)) + 1))) (uA σ 3 ((L.1 101)).toNatClampNeg ((L.1 100)))) else none
  | _ + 1, _ + 8, _, _ => none
def o_y_X1_moveCells : List Cond := [.fieldLink RX1 15 "SetHouse$Heap" "top" "I", .fieldLink RX1 11 "SetHouse$Heap" "mem" "[I", .methodLink RX1 97 yX1_wordsBehind, .static yX1_wordsBehind, .initialized RX1, .fieldLink RX1 19 "SetHouse$Heap" "used" "[I", .methodLink RX1 94 yX1_placeOf, .instanceMethod yX1_placeOf, .selects RX1 yX1_placeOf yX1_placeOf, .methodLink RX1 54 arraycopyName, .native arraycopyName, .static arraycopyName, .initialized "java/lang/System"]
theorem o_y_X1_moveCells_good : o_y_X1_moveCells.all goodWord = true := by decide +kernel
def p_y_X1_moveCells : List Cond := o_y_X1_moveCells ++ ((.code yX1_wordsBehind cX1_wordsBehind 2 (some .int) :: p_y_X1_wordsBehind) ++ ((.code yX1_placeOf cX1_placeOf 2 (some .int) :: p_y_X1_placeOf) ++ []))
theorem p_y_X1_moveCells_good : p_y_X1_moveCells.all goodWord = true := nb_all2 o_y_X1_moveCells_good (nb_all2 (nb_allc (by decide +kernel) p_y_X1_wordsBehind_good) (nb_all2 (nb_allc (by decide +kernel) p_y_X1_placeOf_good) rfl))
def w_y_X1_moveCells : List Cond := .code yX1_moveCells cX1_moveCells 6 none :: (p_y_X1_moveCells ++ fC)
theorem w_y_X1_moveCells_good : w_y_X1_moveCells.all goodWord = true := nb_allc (by decide +kernel) (nb_all2 p_y_X1_moveCells_good fC_good)
theorem in_y_X1_moveCells_X1 : ∀ w ∈ wsX10, w ∈ w_y_X1_moveCells := fun _ h => List.mem_cons_of_mem _ (List.mem_append_right _ (List.mem_append_right _ (List.mem_append_left _ h)))
theorem hd_y_X1_moveCells : yX1_moveCells.cls = RX1 ∧ yX1_moveCells.cls ≠ "java/lang/invoke/MethodHandle" ∧ yX1_moveCells.cls ≠ "java/lang/invoke/VarHandle" ∧ (parseMethodDescriptor yX1_moveCells.desc).map (fun d => d.parameters.length) = some 0 := by decide +kernel
theorem gg_y_X1_moveCells_X1_placeOf : GoodIn w_y_X1_moveCells w_y_X1_placeOf := goodIn_sub (fun w h => (List.mem_cons.mp h).elim (fun e => (List.mem_cons_of_mem _ (List.mem_append_left _ (List.mem_append_right _ (List.mem_append_right _ (List.mem_append_left _ (List.mem_cons.mpr (Or.inl e)))))))) (fun h => (List.mem_append.mp h).elim (fun h => (List.mem_cons_of_mem _ (List.mem_append_left _ (List.mem_append_right _ (List.mem_append_right _ (List.mem_append_left _ (List.mem_cons_of_mem _ h))))))) (fun h => List.mem_cons_of_mem _ (List.mem_append_right _ h)))) w_y_X1_placeOf_good
theorem g_y_X1_moveCells_X1_placeOf_V94 : GoodIn w_y_X1_moveCells (wsV RX1 94 RX1 yX1_placeOf w_y_X1_placeOf) := goodIn_app (nb_g4 (List.mem_cons_of_mem _ (List.mem_append_left _ (List.mem_append_left _ (List.mem_of_getElem? (i := 6) rfl)))) (List.mem_cons_of_mem _ (List.mem_append_left _ (List.mem_append_left _ (List.mem_of_getElem? (i := 7) rfl)))) (List.mem_cons_of_mem _ (List.mem_append_left _ (List.mem_append_left _ (List.mem_of_getElem? (i := 8) rfl)))) (List.mem_cons_of_mem _ (List.mem_append_left _ (List.mem_append_left _ (List.mem_of_getElem? (i := 4) rfl)))) (by decide +kernel)) gg_y_X1_moveCells_X1_placeOf
theorem gg_y_X1_moveCells_X1_wordsBehind : GoodIn w_y_X1_moveCells w_y_X1_wordsBehind := goodIn_sub (fun w h => (List.mem_cons.mp h).elim (fun e => (List.mem_cons_of_mem _ (List.mem_append_left _ (List.mem_append_right _ (List.mem_append_left _ (List.mem_cons.mpr (Or.inl e))))))) (fun h => (List.mem_append.mp h).elim (fun h => (List.mem_cons_of_mem _ (List.mem_append_left _ (List.mem_append_right _ (List.mem_append_left _ (List.mem_cons_of_mem _ h)))))) (fun h => List.mem_cons_of_mem _ (List.mem_append_right _ h)))) w_y_X1_wordsBehind_good
theorem g_y_X1_moveCells_X1_wordsBehind_S97 : GoodIn w_y_X1_moveCells (va_wsS RX1 97 yX1_wordsBehind w_y_X1_wordsBehind) := goodIn_app (nb_g3 (List.mem_cons_of_mem _ (List.mem_append_left _ (List.mem_append_left _ (List.mem_of_getElem? (i := 2) rfl)))) (List.mem_cons_of_mem _ (List.mem_append_left _ (List.mem_append_left _ (List.mem_of_getElem? (i := 3) rfl)))) (List.mem_cons_of_mem _ (List.mem_append_left _ (List.mem_append_left _ (List.mem_of_getElem? (i := 4) rfl)))) (by decide +kernel)) gg_y_X1_moveCells_X1_wordsBehind
set_option maxHeartbeats 40000000 in
set_option maxRecDepth 100000 in
theorem c_y_X1_moveCells (l : Launch) (dC : Nat → ClassId) (dI : Nat → Nat → Nat) (cy : Nat → ClassId) (a z : Nat → Nat) (k0 : Nat) (L0 : LV) (σ0 : CS) (r0 : Int32 × CS) (h0 : y_X1_moveCells k0 0 L0 σ0 = some r0) (sz : Nat) : Met l yX1_moveCells w_y_X1_moveCells ({ frames := 2, cells := 0, slots := 0, locals := 60 }) (va_Pc [.ref (a 0)] (nIn (dC, dI) cy sz (vC cy a z σ0))) (va_Qv (fun _ : Unit => True) (fun _ t => nOut (dC, dI) cy (va_A (vC cy a z σ0) sz) (vC cy a z r0.2) t) (va_A (vC cy a z σ0) sz)) 0 0 (va_A (vC cy a z σ0) sz) := by
  refine Met.ofW (cc := cX1_moveCells) (maxL := 6) (ret := none) (by decide) rfl ?_
  intro p e s m args below meth c s₁ B hml hv
  obtain ⟨rfl, hsz, hP, hK, hD0, hG⟩ := hv
  have hx := B.exec
  have hb := B.bytes
  have hr := B.returns
  have hts := atoms_spec (ws := w_y_X1_moveCells) B.pre
  have hown : s.vm.findClass RX1 = some m.cls := findClass_of_methodNamed B.named
  have hlocks := B.notSynchronized
  subst hsz
  have hD := hD0.self (sz := s.heap.size)
  generalize hAe : va_A (vC cy a z σ0) s.heap.size = A at hD ⊢
  have hA : ∀ q : Nat, s.heap.size ≤ q → A q := fun q h => by rw [← hAe]; exact Or.inr h
  have hS : va_S A s.heap s.heap [] := va_S.rf
  have hl := lv_entry ([.ref (a 0)]) (n := 6) (Nat.le_of_ble_eq_true rfl)
  rw [lg_entry_eq]
  generalize (lg_sl ([.ref (a 0)]) ++ List.replicate (6 - (lg_sl ([.ref (a 0)])).length) Slot.unset).toArray = ls at hl ⊢
  have hl : lv_has ls 6 [(0, .ref (a 0))] := hl
  have blk : ∀ k : Nat, (bC p l e (headSpec w_y_X1_moveCells ({ frames := 2, cells := 0, slots := 0, locals := 60 })).room s m #[.ref (a 0)] below meth c dC dI cy a z A (kV dC dI cy a z A below #[.ref (a 0)] s) 6 (y_X1_moveCells k 0) (fun L => [(0, .ref (a 0))]) 0 (fun L => [])) ∧ (bC p l e (headSpec w_y_X1_moveCells ({ frames := 2, cells := 0, slots := 0, locals := 60 })).room s m #[.ref (a 0)] below meth c dC dI cy a z A (kV dC dI cy a z A below #[.ref (a 0)] s) 6 (y_X1_moveCells k 1) (fun L => [(0, .ref (a 0)), (1, .int (L.1 1)), (3, .int (L.1 3))]) 6 (fun L => [])) ∧ (bC p l e (headSpec w_y_X1_moveCells ({ frames := 2, cells := 0, slots := 0, locals := 60 })).room s m #[.ref (a 0)] below meth c dC dI cy a z A (kV dC dI cy a z A below #[.ref (a 0)] s) 6 (y_X1_moveCells k 2) (fun L => [(0, .ref (a 0)), (1, .int (L.1 1))]) 140 (fun L => [])) ∧ (bC p l e (headSpec w_y_X1_moveCells ({ frames := 2, cells := 0, slots := 0, locals := 60 })).room s m #[.ref (a 0)] below meth c dC dI cy a z A (kV dC dI cy a z A below #[.ref (a 0)] s) 6 (y_X1_moveCells k 3) (fun L => [(0, .ref (a 0)), (1, .int (L.1 1)), (2, .int (L.1 2)), (3, .int (L.1 3))]) 133 (fun L => [])) ∧ (bC p l e (headSpec w_y_X1_moveCells ({ frames := 2, cells := 0, slots := 0, locals := 60 })).room s m #[.ref (a 0)] below meth c dC dI cy a z A (kV dC dI cy a z A below #[.ref (a 0)] s) 6 (y_X1_moveCells k 4) (fun L => [(0, .ref (a 0)), (1, .int (L.1 1)), (2, .int (L.1 2)), (3, .int (L.1 3)), (4, .int (L.1 4)), (5, .int (L.1 5))]) 53 (fun L => [])) ∧ (bC p l e (headSpec w_y_X1_moveCells ({ frames := 2, cells := 0, slots := 0, locals := 60 })).room s m #[.ref (a 0)] below meth c dC dI cy a z A (kV dC dI cy a z A below #[.ref (a 0)] s) 6 (y_X1_moveCells k 5) (fun L => [(0, .ref (a 0)), (1, .int (L.1 1)), (2, .int (L.1 2)), (3, .int (L.1 3))]) 115 (fun L => [])) ∧ (bC p l e (headSpec w_y_X1_moveCells ({ frames := 2, cells := 0, slots := 0, locals := 60 })).room s m #[.ref (a 0)] below meth c dC dI cy a z A (kV dC dI cy a z A below #[.ref (a 0)] s) 6 (y_X1_moveCells k 6) (fun L => [(0, .ref (a 0)), (1, .int (L.1 1)), (2, .int (L.1 2)), (3, .int (L.1 3)), (4, .int (L.1 4)), (5, .int (L.1 5))]) 101 (fun L => [.int (L.1 100), .ref (z 3)])) ∧ (bC p l e (headSpec w_y_X1_moveCells ({ frames := 2, cells := 0, slots := 0, locals := 60 })).room s m #[.ref (a 0)] below meth c dC dI cy a z A (kV dC dI cy a z A below #[.ref (a 0)] s) 6 (y_X1_moveCells k 7) (fun L => [(0, .ref (a 0)), (1, .int (L.1 1)), (2, .int (L.1 2)), (3, .int (L.1 3)), (4, .int (L.1 4)), (5, .int (L.1 5))]) 108 (fun L => [.int (L.1 100), .int (L.1 101), .ref (z 3)])) := by
    intro k
    induction k with
    | zero => exact ⟨fun L σ r h => (by cases h), fun L σ r h => (by cases h), fun L σ r h => (by cases h), fun L σ r h => (by cases h), fun L σ r h => (by cases h), fun L σ r h => (by cases h), fun L σ r h => (by cases h), fun L σ r h => (by cases h)⟩
    | succ k ih =>
      refine ⟨?_, ?_, ?_, ?_, ?_, ?_, ?_, ?_⟩
      · intro L σ r h H locs ls hP hD hS hl
        rw [y_X1_moveCells] at h
        refine lv_iconst (v := 3) hx hb dX1_moveCells_0 (by decide) ?_
        refine lv_istore_n (lv' := [(1, .int 3), (0, .ref (a 0))]) hx hb dX1_moveCells_1 rfl hl (by decide) rfl (fun ls hl => ?_)
        refine lv_iconst (v := 0) hx hb dX1_moveCells_2 (by decide) ?_
        refine lv_istore_n (lv' := [(2, .int 0), (1, .int 3), (0, .ref (a 0))]) hx hb dX1_moveCells_3 rfl hl (by decide) rfl (fun ls hl => ?_)
        refine lv_iconst (v := 3) hx hb dX1_moveCells_4 (by decide) ?_
        refine lv_istore_n (lv' := [(3, .int 3), (2, .int 0), (1, .int 3), (0, .ref (a 0))]) hx hb dX1_moveCells_5 rfl hl (by decide) rfl (fun ls hl => ?_)
        exact ih.2.1 (lI (lI L 1 3) 3 3) σ r h H locs ls hP hD hS (lv_sub hl [3, 2, 0] rfl)
      · intro L σ r h H locs ls hP hD hS hl
        rw [y_X1_moveCells] at h
        refine lv_iload_n hx hb dX1_moveCells_6 rfl (lv_at hl 2 rfl) ?_
        refine lv_aload_n hx hb dX1_moveCells_7 rfl (lv_at hl 0 rfl) ?_
        refine hg_0_1 hx hb hts in_y_X1_moveCells_X1 hown hK hP (hts _ (List.mem_cons_of_mem _ (List.mem_append_left _ (List.mem_append_left _ (List.mem_of_getElem? (i := 0) rfl))))) dX1_moveCells_8 ?_
        refine lv_icmp_ge (tgt := 140) hx hb dX1_moveCells_11 (by decide) (fun c1 => ?_) (fun c1 => ?_)
        · rw [if_pos c1] at h
          exact ih.2.2.1 L σ r h H locs ls hP hD hS (lv_sub hl [0, 1] rfl)
        · rw [if_neg c1] at h
          refine lv_aload_n hx hb dX1_moveCells_14 rfl (lv_at hl 0 rfl) ?_
          refine hg_0_0 hx hb hts in_y_X1_moveCells_X1 hown hK hP (hts _ (List.mem_cons_of_mem _ (List.mem_append_left _ (List.mem_append_left _ (List.mem_of_getElem? (i := 1) rfl))))) dX1_moveCells_15 ?_
          refine lv_iload_n hx hb dX1_moveCells_18 rfl (lv_at hl 2 rfl) ?_
          obtain ⟨q2, h⟩ := kb_ite1 h
          refine hl_3 hx hb hK hP q2 dX1_moveCells_19 ?_
          refine lv_istore (lv' := [(4, .int (σ.2.2.1 3 ((L.1 3)).toNatClampNeg)), (0, .ref (a 0)), (1, .int (L.1 1)), (3, .int (L.1 3))]) hx hb dX1_moveCells_20 hl (by decide) rfl (fun ls hl => ?_)
          refine lv_iconst (v := 1) hx hb dX1_moveCells_22 (by decide) ?_
          refine lv_iload hx hb dX1_moveCells_23 (lv_at hl 0 rfl) ?_
          obtain ⟨r3, hc3, h⟩ := oc_ex h
          refine kc_i (va_runS (As := [.int (σ.2.2.1 3 ((L.1 3)).toNatClampNeg)]) (rest := [.int 1]) ⟨hx, hb, hml, hown, hts⟩ (c_y_X1_wordsBehind l dC dI cy a z k (lI lZ 0 ((σ.2.2.1 3 ((L.1 3)).toNatClampNeg))) σ r3 hc3 H.size) (va_cwS 1 hts g_y_X1_moveCells_X1_wordsBehind_S97 rfl rfl rfl hd_y_X1_wordsBehind ⟨Nat.le_of_ble_eq_true rfl, Nat.le_of_ble_eq_true rfl⟩) ⟨nb_blind, (kb_pre hK hG hP hD)⟩ rfl rfl hl.1 rfl (lv_room (Nat.le_of_ble_eq_true rfl)) dX1_moveCells_25 ⟨Nat.le_refl _, Nat.le_refl _⟩) hA hP hD hS (fun H locs hP hD hS => ?_)
          refine lv_iadd hx hb dX1_moveCells_28 ?_
          refine lv_istore_n (lv' := [(2, .int (1 + r3.1)), (4, .int (σ.2.2.1 3 ((L.1 3)).toNatClampNeg)), (0, .ref (a 0)), (1, .int (L.1 1)), (3, .int (L.1 3))]) hx hb dX1_moveCells_29 rfl hl (by decide) rfl (fun ls hl => ?_)
          refine lv_aload_n hx hb dX1_moveCells_30 rfl (lv_at hl 2 rfl) ?_
          refine hg_0_2 hx hb hts in_y_X1_moveCells_X1 hown hK hP (hts _ (List.mem_cons_of_mem _ (List.mem_append_left _ (List.mem_append_left _ (List.mem_of_getElem? (i := 5) rfl))))) dX1_moveCells_31 ?_
          refine lv_iload_n hx hb dX1_moveCells_34 rfl (lv_at hl 4 rfl) ?_
          refine lv_iconst (v := 5) hx hb dX1_moveCells_35 (by decide) ?_
          refine lv_ishr hx hb dX1_moveCells_36 ?_
          obtain ⟨q4, h⟩ := kb_ite1 h
          refine hl_1 hx hb hK hP q4 dX1_moveCells_37 ?_
          refine lv_iload_n hx hb dX1_moveCells_38 rfl (lv_at hl 4 rfl) ?_
          refine lv_bipush (v := 31) hx hb dX1_moveCells_39 (by decide) ?_
          refine lv_iand hx hb dX1_moveCells_41 ?_
          refine lv_iushr (v := (((r3.2.2.2.1 1 ((((L.1 3)) >>> ((5 : Int32) &&& 31))).toNatClampNeg)).toUInt32 >>> (((((L.1 3)) &&& 31)).toUInt32 &&& Int32.toUInt32 31)).toInt32) hx hb dX1_moveCells_42 rfl ?_
          refine lv_iconst (v := 1) hx hb dX1_moveCells_43 (by decide) ?_
          refine lv_iand hx hb dX1_moveCells_44 ?_
          refine lv_if_eq (tgt := 133) hx hb dX1_moveCells_45 (by decide) (fun c5 => ?_) (fun c5 => ?_)
          · rw [if_pos c5] at h
            exact ih.2.2.2.1 (lI L 2 ((1 + r3.1))) r3.2 r h H locs ls hP hD hS (lv_sub hl [2, 3, 0, 4] rfl)
          · rw [if_neg c5] at h
            refine lv_iload_n hx hb dX1_moveCells_48 rfl (lv_at hl 4 rfl) ?_
            refine lv_iconst (v := 1) hx hb dX1_moveCells_49 (by decide) ?_
            refine lv_iadd hx hb dX1_moveCells_50 ?_
            refine lv_istore (lv' := [(5, .int (((L.1 3)) + 1)), (2, .int (1 + r3.1)), (4, .int (σ.2.2.1 3 ((L.1 3)).toNatClampNeg)), (0, .ref (a 0)), (1, .int (L.1 1)), (3, .int (L.1 3))]) hx hb dX1_moveCells_51 hl (by decide) rfl (fun ls hl => ?_)
            exact ih.2.2.2.2.1 (lI (lI (lI L 2 ((1 + r3.1))) 4 ((σ.2.2.1 3 ((L.1 3)).toNatClampNeg))) 5 ((((L.1 3)) + 1))) r3.2 r h H locs ls hP hD hS (lv_sub hl [3, 4, 1, 5, 2, 0] rfl)
      · intro L σ r h H locs ls hP hD hS hl
        rw [y_X1_moveCells] at h
        refine lv_aload_n hx hb dX1_moveCells_140 rfl (lv_at hl 0 rfl) ?_
        refine lv_iload_n hx hb dX1_moveCells_141 rfl (lv_at hl 1 rfl) ?_
        refine hp_0_1 hx hb hts in_y_X1_moveCells_X1 hown hK hP hD hS (hts _ (List.mem_cons_of_mem _ (List.mem_append_left _ (List.mem_append_left _ (List.mem_of_getElem? (i := 0) rfl))))) dX1_moveCells_142 (fun H locs hP hD hS => ?_)
        obtain rfl := Option.some.inj h
        exact W.vret hx hb hr (fun t ht hW => ⟨⟨(), rfl, trivial, by rw [ht]; exact hP, va_K.moved hW.alike hK, hD⟩, hS.F ht⟩) hS.2.2 dX1_moveCells_145
      · intro L σ r h H locs ls hP hD hS hl
        rw [y_X1_moveCells] at h
        refine lv_iload_n hx hb dX1_moveCells_133 rfl (lv_at hl 3 rfl) ?_
        refine lv_iload_n hx hb dX1_moveCells_134 rfl (lv_at hl 2 rfl) ?_
        refine lv_iadd hx hb dX1_moveCells_135 ?_
        refine lv_istore_n (lv' := [(3, .int (((L.1 3)) + ((L.1 2)))), (0, .ref (a 0)), (1, .int (L.1 1)), (2, .int (L.1 2))]) hx hb dX1_moveCells_136 rfl hl (by decide) rfl (fun ls hl => ?_)
        refine lv_goto (tgt := 6) hx hb dX1_moveCells_137 (by decide) ?_
        exact ih.2.1 (lI L 3 ((((L.1 3)) + ((L.1 2))))) σ r h H locs ls hP hD hS (lv_sub hl [1, 2, 0] rfl)
      · intro L σ r h H locs ls hP hD hS hl
        rw [y_X1_moveCells] at h
        refine lv_iload hx hb dX1_moveCells_53 (lv_at hl 5 rfl) ?_
        refine lv_iload_n hx hb dX1_moveCells_55 rfl (lv_at hl 3 rfl) ?_
        refine lv_iload_n hx hb dX1_moveCells_56 rfl (lv_at hl 2 rfl) ?_
        refine lv_iadd hx hb dX1_moveCells_57 ?_
        refine lv_icmp_ge (tgt := 115) hx hb dX1_moveCells_58 (by decide) (fun c1 => ?_) (fun c1 => ?_)
        · rw [if_pos c1] at h
          exact ih.2.2.2.2.2.1 L σ r h H locs ls hP hD hS (lv_sub hl [0, 1, 2, 3] rfl)
        · rw [if_neg c1] at h
          refine lv_iload hx hb dX1_moveCells_61 (lv_at hl 4 rfl) ?_
          refine lv_bipush (v := 7) hx hb dX1_moveCells_63 (by decide) ?_
          refine lv_iand hx hb dX1_moveCells_65 ?_
          refine lv_iconst (v := 5) hx hb dX1_moveCells_66 (by decide) ?_
          refine lv_icmp_lt (tgt := 115) hx hb dX1_moveCells_67 (by decide) (fun c2 => ?_) (fun c2 => ?_)
          · rw [if_pos c2] at h
            exact ih.2.2.2.2.2.1 L σ r h H locs ls hP hD hS (lv_sub hl [0, 1, 2, 3] rfl)
          · rw [if_neg c2] at h
            refine lv_aload_n hx hb dX1_moveCells_70 rfl (lv_at hl 0 rfl) ?_
            refine hg_0_0 hx hb hts in_y_X1_moveCells_X1 hown hK hP (hts _ (List.mem_cons_of_mem _ (List.mem_append_left _ (List.mem_append_left _ (List.mem_of_getElem? (i := 1) rfl))))) dX1_moveCells_71 ?_
            refine lv_iload hx hb dX1_moveCells_74 (lv_at hl 5 rfl) ?_
            refine lv_aload_n hx hb dX1_moveCells_76 rfl (lv_at hl 0 rfl) ?_
            refine hg_0_0 hx hb hts in_y_X1_moveCells_X1 hown hK hP (hts _ (List.mem_cons_of_mem _ (List.mem_append_left _ (List.mem_append_left _ (List.mem_of_getElem? (i := 1) rfl))))) dX1_moveCells_77 ?_
            refine lv_iload hx hb dX1_moveCells_80 (lv_at hl 5 rfl) ?_
            obtain ⟨q3, h⟩ := kb_ite1 h
            refine hl_3 hx hb hK hP q3 dX1_moveCells_82 ?_
            refine lv_iconst (v := 3) hx hb dX1_moveCells_83 (by decide) ?_
            refine lv_icmp_lt (tgt := 101) hx hb dX1_moveCells_84 (by decide) (fun c4 => ?_) (fun c4 => ?_)
            · rw [if_pos c4] at h
              exact ih.2.2.2.2.2.2.1 (lI L 100 ((L.1 5))) σ r h H locs ls hP hD hS (lv_sub hl [0, 1, 2, 3, 4, 5] rfl)
            · rw [if_neg c4] at h
              refine lv_aload_n hx hb dX1_moveCells_87 rfl (lv_at hl 0 rfl) ?_
              refine lv_aload_n hx hb dX1_moveCells_88 rfl (lv_at hl 0 rfl) ?_
              refine hg_0_0 hx hb hts in_y_X1_moveCells_X1 hown hK hP (hts _ (List.mem_cons_of_mem _ (List.mem_append_left _ (List.mem_append_left _ (List.mem_of_getElem? (i := 1) rfl))))) dX1_moveCells_89 ?_
              refine lv_iload hx hb dX1_moveCells_92 (lv_at hl 5 rfl) ?_
              obtain ⟨q5, h⟩ := kb_ite1 h
              refine hl_3 hx hb hK hP q5 dX1_moveCells_94 ?_
              obtain ⟨r6, hc6, h⟩ := oc_ex h
              refine kc_i (va_runV (As := [.int (σ.2.2.1 3 ((L.1 5)).toNatClampNeg)]) (rest := [.int (L.1 5), .ref (z 3)]) ⟨hx, hb, hml, hown, hts⟩ (c_y_X1_placeOf l dC dI cy a z k (lI lZ 1 ((σ.2.2.1 3 ((L.1 5)).toNatClampNeg))) σ r6 hc6 H.size) (cwV 1 hts g_y_X1_moveCells_X1_placeOf_V94 rfl rfl rfl hd_y_X1_placeOf ⟨Nat.le_of_ble_eq_true rfl, Nat.le_of_ble_eq_true rfl⟩) ⟨nb_blind, va_recv hK hP (ci := 1) (q0 := 0) rfl rfl, (kb_pre hK hG hP hD)⟩ rfl rfl hl.1 rfl (lv_room (Nat.le_of_ble_eq_true rfl)) dX1_moveCells_95 ⟨Nat.le_refl _, Nat.le_refl _⟩) hA hP hD hS (fun H locs hP hD hS => ?_)
              refine lv_goto (tgt := 108) hx hb dX1_moveCells_98 (by decide) ?_
              exact ih.2.2.2.2.2.2.2 (lI (lI L 100 r6.1) 101 ((L.1 5))) r6.2 r h H locs ls hP hD hS (lv_sub hl [0, 1, 2, 3, 4, 5] rfl)
      · intro L σ r h H locs ls hP hD hS hl
        rw [y_X1_moveCells] at h
        refine lv_aload_n hx hb dX1_moveCells_115 rfl (lv_at hl 0 rfl) ?_
        refine hg_0_0 hx hb hts in_y_X1_moveCells_X1 hown hK hP (hts _ (List.mem_cons_of_mem _ (List.mem_append_left _ (List.mem_append_left _ (List.mem_of_getElem? (i := 1) rfl))))) dX1_moveCells_116 ?_
        refine lv_iload_n hx hb dX1_moveCells_119 rfl (lv_at hl 3 rfl) ?_
        refine lv_aload_n hx hb dX1_moveCells_120 rfl (lv_at hl 0 rfl) ?_
        refine hg_0_0 hx hb hts in_y_X1_moveCells_X1 hown hK hP (hts _ (List.mem_cons_of_mem _ (List.mem_append_left _ (List.mem_append_left _ (List.mem_of_getElem? (i := 1) rfl))))) dX1_moveCells_121 ?_
        refine lv_iload_n hx hb dX1_moveCells_124 rfl (lv_at hl 1 rfl) ?_
        refine lv_iload_n hx hb dX1_moveCells_125 rfl (lv_at hl 2 rfl) ?_
        obtain ⟨q1, h⟩ := kb_ite1 h
        refine va_copyi (ty := .int) hx hb (hml.trans hl.1.symm) hown (hts _ (List.mem_cons_of_mem _ (List.mem_append_left _ (List.mem_append_left _ (List.mem_of_getElem? (i := 9) rfl))))) (hts _ (List.mem_cons_of_mem _ (List.mem_append_left _ (List.mem_append_left _ (List.mem_of_getElem? (i := 10) rfl))))) (hts _ (List.mem_cons_of_mem _ (List.mem_append_left _ (List.mem_append_left _ (List.mem_of_getElem? (i := 11) rfl))))) (hts _ (List.mem_cons_of_mem _ (List.mem_append_left _ (List.mem_append_left _ (List.mem_of_getElem? (i := 12) rfl))))) hK hP hD hS 3 3 1 1 rfl rfl rfl rfl rfl q1.1 q1.2.1 q1.2.2.1 q1.2.2.2.1 q1.2.2.2.2 (fun _ _ => rfl) (Nat.le_of_ble_eq_true rfl) (Nat.le_of_ble_eq_true rfl) dX1_moveCells_126 (fun H locs hP hD hS => ?_)
        have hP : va_P (dC, dI) nCl (vC cy a z (uF σ 3 (va_cpy (σ.2.2.1 3) (σ.2.2.1 3) ((L.1 3)).toNatClampNeg ((L.1 1)).toNatClampNeg ((L.1 2)).toNatClampNeg))) H := hP
        have hD : va_D A (vC cy a z (uF σ 3 (va_cpy (σ.2.2.1 3) (σ.2.2.1 3) ((L.1 3)).toNatClampNeg ((L.1 1)).toNatClampNeg ((L.1 2)).toNatClampNeg))) := hD
        refine lv_iload_n hx hb dX1_moveCells_129 rfl (lv_at hl 1 rfl) ?_
        refine lv_iload_n hx hb dX1_moveCells_130 rfl (lv_at hl 2 rfl) ?_
        refine lv_iadd hx hb dX1_moveCells_131 ?_
        refine lv_istore_n (lv' := [(1, .int (((L.1 1)) + ((L.1 2)))), (0, .ref (a 0)), (2, .int (L.1 2)), (3, .int (L.1 3))]) hx hb dX1_moveCells_132 rfl hl (by decide) rfl (fun ls hl => ?_)
        exact ih.2.2.2.1 (lI L 1 ((((L.1 1)) + ((L.1 2))))) (uF σ 3 (va_cpy (σ.2.2.1 3) (σ.2.2.1 3) ((L.1 3)).toNatClampNeg ((L.1 1)).toNatClampNeg ((L.1 2)).toNatClampNeg)) r h H locs ls hP hD hS (lv_sub hl [1, 0, 2, 3] rfl)
      · intro L σ r h H locs ls hP hD hS hl
        rw [y_X1_moveCells] at h
        refine lv_aload_n hx hb dX1_moveCells_101 rfl (lv_at hl 0 rfl) ?_
        refine hg_0_0 hx hb hts in_y_X1_moveCells_X1 hown hK hP (hts _ (List.mem_cons_of_mem _ (List.mem_append_left _ (List.mem_append_left _ (List.mem_of_getElem? (i := 1) rfl))))) dX1_moveCells_102 ?_
        refine lv_iload hx hb dX1_moveCells_105 (lv_at hl 5 rfl) ?_
        obtain ⟨q1, h⟩ := kb_ite1 h
        refine hl_3 hx hb hK hP q1 dX1_moveCells_107 ?_
        exact ih.2.2.2.2.2.2.2 (lI (lI L 100 ((σ.2.2.1 3 ((L.1 5)).toNatClampNeg))) 101 ((L.1 100))) σ r h H locs ls hP hD hS (lv_sub hl [0, 1, 2, 3, 4, 5] rfl)
      · intro L σ r h H locs ls hP hD hS hl
        rw [y_X1_moveCells] at h
        obtain ⟨q1, h⟩ := kb_ite1 h
        refine hs_3 hx hb hK hP hD hS q1 dX1_moveCells_108 (fun H locs hP hD hS => ?_)
        refine lv_iinc (v := ((L.1 5)) + 1) (lv' := [(5, .int (((L.1 5)) + 1)), (0, .ref (a 0)), (1, .int (L.1 1)), (2, .int (L.1 2)), (3, .int (L.1 3)), (4, .int (L.1 4))]) hx hb dX1_moveCells_109 hl (k := 5) rfl rfl (by decide) rfl (fun ls hl => ?_)
        refine lv_goto (tgt := 53) hx hb dX1_moveCells_112 (by decide) ?_
        exact ih.2.2.2.2.1 (lI L 5 ((((L.1 5)) + 1))) (uA σ 3 ((L.1 101)).toNatClampNeg ((L.1 100))) r h H locs ls hP hD hS (lv_sub hl [1, 2, 3, 4, 5, 0] rfl)
  exact (blk k0).1 L0 σ0 r0 h0 s.heap [] ls hP hD hS hl
/-! X3_global -/
def y_X3_global : Nat → Nat → LV → CS → Option (Int32 × CS)
  | 0, _, _, _ => none
  | k + 1, 0, L, σ => if ¬ (((4 + ((L.1 1)))) < 0 ∨ (sN σ 20) ≤ ((4 + ((L.1 1)))).toNatClampNeg) then (some ((σ.2.2.1 20 ((4 + ((L.1 1)))).toNatClampNeg), σ)) else none
  | _ + 1, _ + 1, _, _ => none
def o_y_X3_global : List Cond := [.fieldLink RX3 18 "SetHouse$Machine" "stack" "[I"]
theorem o_y_X3_global_good : o_y_X3_global.all goodWord = true := by decide +kernel
def p_y_X3_global : List Cond := o_y_X3_global ++ []
theorem p_y_X3_global_good : p_y_X3_global.all goodWord = true := nb_all2 o_y_X3_global_good rfl
def w_y_X3_global : List Cond := .code yX3_global cX3_global 2 (some .int) :: (p_y_X3_global ++ fC)
theorem w_y_X3_global_good : w_y_X3_global.all goodWord = true := nb_allc (by decide +kernel) (nb_all2 p_y_X3_global_good fC_good)
theorem in_y_X3_global_X3 : ∀ w ∈ wsX30, w ∈ w_y_X3_global := fun _ h => List.mem_cons_of_mem _ (List.mem_append_right _ (List.mem_append_right _ (List.mem_append_right _ (List.mem_append_right _ (List.mem_append_left _ h)))))
theorem hd_y_X3_global : yX3_global.cls = RX3 ∧ yX3_global.cls ≠ "java/lang/invoke/MethodHandle" ∧ yX3_global.cls ≠ "java/lang/invoke/VarHandle" ∧ (parseMethodDescriptor yX3_global.desc).map (fun d => d.parameters.length) = some 1 := by decide +kernel
set_option maxHeartbeats 40000000 in
set_option maxRecDepth 100000 in
theorem c_y_X3_global (l : Launch) (dC : Nat → ClassId) (dI : Nat → Nat → Nat) (cy : Nat → ClassId) (a z : Nat → Nat) (k0 : Nat) (L0 : LV) (σ0 : CS) (r0 : Int32 × CS) (h0 : y_X3_global k0 0 L0 σ0 = some r0) (sz : Nat) : Met l yX3_global w_y_X3_global ({ frames := 0, cells := 0, slots := 0, locals := 0 }) (va_Pc [.ref (a 18), .int (L0.1 1)] (nIn (dC, dI) cy sz (vC cy a z σ0))) (va_Qi (fun (x : Int32) (_ : Unit) => x = r0.1) (fun _ t => nOut (dC, dI) cy (va_A (vC cy a z σ0) sz) (vC cy a z r0.2) t) (va_A (vC cy a z σ0) sz)) 0 0 (va_A (vC cy a z σ0) sz) := by
  refine Met.ofW (cc := cX3_global) (maxL := 2) (ret := (some .int)) (by decide) rfl ?_
  intro p e s m args below meth c s₁ B hml hv
  obtain ⟨rfl, hsz, hP, hK, hD0, hG⟩ := hv
  have hx := B.exec
  have hb := B.bytes
  have hr := B.returns
  have hts := atoms_spec (ws := w_y_X3_global) B.pre
  have hown : s.vm.findClass RX3 = some m.cls := findClass_of_methodNamed B.named
  have hlocks := B.notSynchronized
  subst hsz
  have hD := hD0.self (sz := s.heap.size)
  generalize hAe : va_A (vC cy a z σ0) s.heap.size = A at hD ⊢
  have hA : ∀ q : Nat, s.heap.size ≤ q → A q := fun q h => by rw [← hAe]; exact Or.inr h
  have hS : va_S A s.heap s.heap [] := va_S.rf
  have hl := lv_entry ([.ref (a 18), .int (L0.1 1)]) (n := 2) (Nat.le_of_ble_eq_true rfl)
  rw [lg_entry_eq]
  generalize (lg_sl ([.ref (a 18), .int (L0.1 1)]) ++ List.replicate (2 - (lg_sl ([.ref (a 18), .int (L0.1 1)])).length) Slot.unset).toArray = ls at hl ⊢
  have hl : lv_has ls 2 [(0, .ref (a 18)), (1, .int (L0.1 1))] := hl
  have blk : ∀ k : Nat, (bC p l e (headSpec w_y_X3_global ({ frames := 0, cells := 0, slots := 0, locals := 0 })).room s m #[.ref (a 18), .int (L0.1 1)] below meth c dC dI cy a z A (kI dC dI cy a z A below #[.ref (a 18), .int (L0.1 1)] s) 2 (y_X3_global k 0) (fun L => [(0, .ref (a 18)), (1, .int (L.1 1))]) 0 (fun L => [])) := by
    intro k
    induction k with
    | zero => exact fun L σ r h => (by cases h)
    | succ k ih =>
      skip
      · intro L σ r h H locs ls hP hD hS hl
        rw [y_X3_global] at h
        refine lv_aload_n hx hb dX3_global_0 rfl (lv_at hl 0 rfl) ?_
        refine hg_18_7 hx hb hts in_y_X3_global_X3 hown hK hP (hts _ (List.mem_cons_of_mem _ (List.mem_append_left _ (List.mem_append_left _ (List.mem_of_getElem? (i := 0) rfl))))) dX3_global_1 ?_
        refine lv_iconst (v := 4) hx hb dX3_global_4 (by decide) ?_
        refine lv_iload_n hx hb dX3_global_5 rfl (lv_at hl 1 rfl) ?_
        refine lv_iadd hx hb dX3_global_6 ?_
        obtain ⟨q1, h⟩ := kb_ite1 h
        refine hl_20 hx hb hK hP q1 dX3_global_7 ?_
        obtain rfl := Option.some.inj h
        exact W.iret (v := (σ.2.2.1 20 ((4 + ((L.1 1)))).toNatClampNeg)) hx hb hr (fun t ht hW => ⟨⟨(σ.2.2.1 20 ((4 + ((L.1 1)))).toNatClampNeg), (), rfl, rfl, by rw [ht]; exact hP, va_K.moved hW.alike hK, hD⟩, hS.F ht⟩) hS.2.2 dX3_global_8
  exact (blk k0) L0 σ0 r0 h0 s.heap [] ls hP hD hS hl
/-! X9_used -/
def y_X9_used : Nat → Nat → LV → CS → Option (Int32 × CS)
  | 0, _, _, _ => none
  | k + 1, 0, L, σ => if ((σ.1 2405)) = 0 then (y_X9_used k 1 L σ) else (if ¬ ((8 : Int32) < 0 ∨ 9 ≤ (8 : Int32).toNatClampNeg) then (if ((sPi σ (8 : Int32).toNatClampNeg)) < 9 then (if ¬ ((8 : Int32) < 0 ∨ 9 ≤ (8 : Int32).toNatClampNeg) then (if ((sPi σ (8 : Int32).toNatClampNeg)) < 9 then (y_X9_used k 2 (lI L 100 ((((((σ.1 2403)) + ((σ.1 (100 * (28 + ((sPi σ (8 : Int32).toNatClampNeg))) + 2))))) + ((σ.1 (100 * (28 + ((sPi σ (8 : Int32).toNatClampNeg))) + 13)))))) σ) else none) else none) else none) else none)
  | k + 1, 1, L, σ => y_X9_used k 2 (lI L 100 ((σ.1 2403))) σ
  | k + 1, 2, L, σ => some ((L.1 100), σ)
  | _ + 1, _ + 3, _, _ => none
def o_y_X9_used : List Cond := [.fieldLink RX9 44 "SetHouse$Saves" "near" "Z", .fieldLink RX9 38 "SetHouse$Saves" "filled" "I", .fieldLink RX9 13 "SetHouse$Saves" "runs" "[LSetHouse$Run;"]
theorem o_y_X9_used_good : o_y_X9_used.all goodWord = true := by decide +kernel
def p_y_X9_used : List Cond := o_y_X9_used ++ []
theorem p_y_X9_used_good : p_y_X9_used.all goodWord = true := nb_all2 o_y_X9_used_good rfl
def w_y_X9_used : List Cond := .code yX9_used cX9_used 1 (some .int) :: (p_y_X9_used ++ fC)
theorem w_y_X9_used_good : w_y_X9_used.all goodWord = true := nb_allc (by decide +kernel) (nb_all2 p_y_X9_used_good fC_good)
theorem in_y_X9_used_X8 : ∀ w ∈ wsX80, w ∈ w_y_X9_used := fun _ h => List.mem_cons_of_mem _ (List.mem_append_right _ (List.mem_append_right _ (List.mem_append_right _ (List.mem_append_right _ (List.mem_append_right _ (List.mem_append_right _ (List.mem_append_right _ (List.mem_append_right _ (List.mem_append_left _ h)))))))))
theorem in_y_X9_used_X9 : ∀ w ∈ wsX90, w ∈ w_y_X9_used := fun _ h => List.mem_cons_of_mem _ (List.mem_append_right _ (List.mem_append_right _ (List.mem_append_right _ (List.mem_append_right _ (List.mem_append_right _ (List.mem_append_right _ (List.mem_append_right _ (List.mem_append_right _ (List.mem_append_right _ (List.mem_append_left _ h))))))))))
theorem hd_y_X9_used : yX9_used.cls = RX9 ∧ yX9_used.cls ≠ "java/lang/invoke/MethodHandle" ∧ yX9_used.cls ≠ "java/lang/invoke/VarHandle" ∧ (parseMethodDescriptor yX9_used.desc).map (fun d => d.parameters.length) = some 0 := by decide +kernel
set_option maxHeartbeats 40000000 in
set_option maxRecDepth 100000 in
theorem c_y_X9_used (l : Launch) (dC : Nat → ClassId) (dI : Nat → Nat → Nat) (cy : Nat → ClassId) (a z : Nat → Nat) (k0 : Nat) (L0 : LV) (σ0 : CS) (r0 : Int32 × CS) (h0 : y_X9_used k0 0 L0 σ0 = some r0) (sz : Nat) : Met l yX9_used w_y_X9_used ({ frames := 0, cells := 0, slots := 0, locals := 0 }) (va_Pc [.ref (a 24)] (nIn (dC, dI) cy sz (vC cy a z σ0))) (va_Qi (fun (x : Int32) (_ : Unit) => x = r0.1) (fun _ t => nOut (dC, dI) cy (va_A (vC cy a z σ0) sz) (vC cy a z r0.2) t) (va_A (vC cy a z σ0) sz)) 0 0 (va_A (vC cy a z σ0) sz) := by
  refine Met.ofW (cc := cX9_used) (maxL := 1) (ret := (some .int)) (by decide) rfl ?_
  intro p e s m args below meth c s₁ B hml hv
  obtain ⟨rfl, hsz, hP, hK, hD0, hG⟩ := hv
  have hx := B.exec
  have hb := B.bytes
  have hr := B.returns
  have hts := atoms_spec (ws := w_y_X9_used) B.pre
  have hown : s.vm.findClass RX9 = some m.cls := findClass_of_methodNamed B.named
  have hlocks := B.notSynchronized
  subst hsz
  have hD := hD0.self (sz := s.heap.size)
  generalize hAe : va_A (vC cy a z σ0) s.heap.size = A at hD ⊢
  have hA : ∀ q : Nat, s.heap.size ≤ q → A q := fun q h => by rw [← hAe]; exact Or.inr h
  have hS : va_S A s.heap s.heap [] := va_S.rf
  have hl := lv_entry ([.ref (a 24)]) (n := 1) (Nat.le_of_ble_eq_true rfl)
  rw [lg_entry_eq]
  generalize (lg_sl ([.ref (a 24)]) ++ List.replicate (1 - (lg_sl ([.ref (a 24)])).length) Slot.unset).toArray = ls at hl ⊢
  have hl : lv_has ls 1 [(0, .ref (a 24))] := hl
  have blk : ∀ k : Nat, (bC p l e (headSpec w_y_X9_used ({ frames := 0, cells := 0, slots := 0, locals := 0 })).room s m #[.ref (a 24)] below meth c dC dI cy a z A (kI dC dI cy a z A below #[.ref (a 24)] s) 1 (y_X9_used k 0) (fun L => [(0, .ref (a 24))]) 0 (fun L => [])) ∧ (bC p l e (headSpec w_y_X9_used ({ frames := 0, cells := 0, slots := 0, locals := 0 })).room s m #[.ref (a 24)] below meth c dC dI cy a z A (kI dC dI cy a z A below #[.ref (a 24)] s) 1 (y_X9_used k 1) (fun L => [(0, .ref (a 24))]) 36 (fun L => [])) ∧ (bC p l e (headSpec w_y_X9_used ({ frames := 0, cells := 0, slots := 0, locals := 0 })).room s m #[.ref (a 24)] below meth c dC dI cy a z A (kI dC dI cy a z A below #[.ref (a 24)] s) 1 (y_X9_used k 2) (fun L => []) 40 (fun L => [.int (L.1 100)])) := by
    intro k
    induction k with
    | zero => exact ⟨fun L σ r h => (by cases h), fun L σ r h => (by cases h), fun L σ r h => (by cases h)⟩
    | succ k ih =>
      refine ⟨?_, ?_, ?_⟩
      · intro L σ r h H locs ls hP hD hS hl
        rw [y_X9_used] at h
        refine lv_aload_n hx hb dX9_used_0 rfl (lv_at hl 0 rfl) ?_
        refine hg_24_5 hx hb hts in_y_X9_used_X9 hown hK hP (hts _ (List.mem_cons_of_mem _ (List.mem_append_left _ (List.mem_append_left _ (List.mem_of_getElem? (i := 0) rfl))))) dX9_used_1 ?_
        refine lv_if_eq (tgt := 36) hx hb dX9_used_4 (by decide) (fun c1 => ?_) (fun c1 => ?_)
        · rw [if_pos c1] at h
          exact ih.2.1 L σ r h H locs ls hP hD hS (lv_sub hl [0] rfl)
        · rw [if_neg c1] at h
          refine lv_aload_n hx hb dX9_used_7 rfl (lv_at hl 0 rfl) ?_
          refine hg_24_3 hx hb hts in_y_X9_used_X9 hown hK hP (hts _ (List.mem_cons_of_mem _ (List.mem_append_left _ (List.mem_append_left _ (List.mem_of_getElem? (i := 1) rfl))))) dX9_used_8 ?_
          refine lv_aload_n hx hb dX9_used_11 rfl (lv_at hl 0 rfl) ?_
          refine hg_24_0 hx hb hts in_y_X9_used_X9 hown hK hP (hts _ (List.mem_cons_of_mem _ (List.mem_append_left _ (List.mem_append_left _ (List.mem_of_getElem? (i := 2) rfl))))) dX9_used_12 ?_
          refine lv_bipush (v := 8) hx hb dX9_used_15 (by decide) ?_
          obtain ⟨q2, h⟩ := kb_ite1 h
          refine hl_25 hx hb hK hP q2 dX9_used_17 ?_
          obtain ⟨q3, h⟩ := kb_ite1 h
          refine hg_R_2n ((sPi σ (8 : Int32).toNatClampNeg)) q3 hx hb hts in_y_X9_used_X8 hown hK hP (va_Nw.use rfl (hG.1 _ (List.mem_of_getElem? (i := 11) rfl))) dX9_used_18 ?_
          refine lv_iadd hx hb dX9_used_21 ?_
          refine lv_aload_n hx hb dX9_used_22 rfl (lv_at hl 0 rfl) ?_
          refine hg_24_0 hx hb hts in_y_X9_used_X9 hown hK hP (hts _ (List.mem_cons_of_mem _ (List.mem_append_left _ (List.mem_append_left _ (List.mem_of_getElem? (i := 2) rfl))))) dX9_used_23 ?_
          refine lv_bipush (v := 8) hx hb dX9_used_26 (by decide) ?_
          obtain ⟨q4, h⟩ := kb_ite1 h
          refine hl_25 hx hb hK hP q4 dX9_used_28 ?_
          obtain ⟨q5, h⟩ := kb_ite1 h
          refine hg_R_13n ((sPi σ (8 : Int32).toNatClampNeg)) q5 hx hb hts in_y_X9_used_X8 hown hK hP (va_Nw.use rfl (hG.1 _ (List.mem_of_getElem? (i := 35) rfl))) dX9_used_29 ?_
          refine lv_iadd hx hb dX9_used_32 ?_
          refine lv_goto (tgt := 40) hx hb dX9_used_33 (by decide) ?_
          exact ih.2.2 (lI L 100 ((((((σ.1 2403)) + ((σ.1 (100 * (28 + ((sPi σ (8 : Int32).toNatClampNeg))) + 2))))) + ((σ.1 (100 * (28 + ((sPi σ (8 : Int32).toNatClampNeg))) + 13)))))) σ r h H locs ls hP hD hS (lv_sub hl [] rfl)
      · intro L σ r h H locs ls hP hD hS hl
        rw [y_X9_used] at h
        refine lv_aload_n hx hb dX9_used_36 rfl (lv_at hl 0 rfl) ?_
        refine hg_24_3 hx hb hts in_y_X9_used_X9 hown hK hP (hts _ (List.mem_cons_of_mem _ (List.mem_append_left _ (List.mem_append_left _ (List.mem_of_getElem? (i := 1) rfl))))) dX9_used_37 ?_
        exact ih.2.2 (lI L 100 ((σ.1 2403))) σ r h H locs ls hP hD hS (lv_sub hl [] rfl)
      · intro L σ r h H locs ls hP hD hS hl
        rw [y_X9_used] at h
        obtain rfl := Option.some.inj h
        exact W.iret (v := (L.1 100)) hx hb hr (fun t ht hW => ⟨⟨(L.1 100), (), rfl, rfl, by rw [ht]; exact hP, va_K.moved hW.alike hK, hD⟩, hS.F ht⟩) hS.2.2 dX9_used_40
  exact (blk k0).1 L0 σ0 r0 h0 s.heap [] ls hP hD hS hl
/-! X1_markRow__z20 -/
def y_X1_markRow__z20 : Nat → Nat → LV → CS → Option (Int32 × CS)
  | 0, _, _, _ => none
  | k + 1, 0, L, σ => y_X1_markRow__z20 k 1 (lI L 3 0) σ
  | k + 1, 1, L, σ => if ((L.1 2)) ≤ ((L.1 3)) then (y_X1_markRow__z20 k 2 L σ) else (if ¬ (((L.1 3)) < 0 ∨ (sN σ 20) ≤ ((L.1 3)).toNatClampNeg) then (if ((σ.2.2.1 20 ((L.1 3)).toNatClampNeg)) < 3 then (y_X1_markRow__z20 k 3 L σ) else (if ¬ (((L.1 3)) < 0 ∨ (sN σ 20) ≤ ((L.1 3)).toNatClampNeg) then (oc (y_X1_markCell k 0 (lI lZ 1 ((σ.2.2.1 20 ((L.1 3)).toNatClampNeg))) σ) (fun r5 => y_X1_markRow__z20 k 3 L r5.2)) else none)) else none)
  | k + 1, 2, L, σ => some (0, σ)
  | k + 1, 3, L, σ => y_X1_markRow__z20 k 1 (lI L 3 ((((L.1 3)) + 1))) σ
  | _ + 1, _ + 4, _, _ => none
def o_y_X1_markRow__z20 : List Cond := [.methodLink RX1 85 yX1_markCell, .instanceMethod yX1_markCell, .selects RX1 yX1_markCell yX1_markCell, .initialized RX1]
theorem o_y_X1_markRow__z20_good : o_y_X1_markRow__z20.all goodWord = true := by decide +kernel
def p_y_X1_markRow__z20 : List Cond := o_y_X1_markRow__z20 ++ ((.code yX1_markCell cX1_markCell 6 none :: p_y_H2) ++ [])
theorem p_y_X1_markRow__z20_good : p_y_X1_markRow__z20.all goodWord = true := nb_all2 o_y_X1_markRow__z20_good (nb_all2 (nb_allc (by decide +kernel) p_y_H2_good) rfl)
def w_y_X1_markRow__z20 : List Cond := .code yX1_markRow cX1_markRow 4 none :: (p_y_X1_markRow__z20 ++ fC)
theorem w_y_X1_markRow__z20_good : w_y_X1_markRow__z20.all goodWord = true := nb_allc (by decide +kernel) (nb_all2 p_y_X1_markRow__z20_good fC_good)
theorem hd_y_X1_markRow__z20 : yX1_markRow.cls = RX1 ∧ yX1_markRow.cls ≠ "java/lang/invoke/MethodHandle" ∧ yX1_markRow.cls ≠ "java/lang/invoke/VarHandle" ∧ (parseMethodDescriptor yX1_markRow.desc).map (fun d => d.parameters.length) = some 2 := by decide +kernel
theorem gg_y_X1_markRow__z20_X1_markCell : GoodIn w_y_X1_markRow__z20 w_y_X1_markCell := goodIn_sub (fun w h => (List.mem_cons.mp h).elim (fun e => (List.mem_cons_of_mem _ (List.mem_append_left _ (List.mem_append_right _ (List.mem_append_left _ (List.mem_cons.mpr (Or.inl e))))))) (fun h => (List.mem_append.mp h).elim (fun h => (List.mem_cons_of_mem _ (List.mem_append_left _ (List.mem_append_right _ (List.mem_append_left _ (List.mem_cons_of_mem _ h)))))) (fun h => List.mem_cons_of_mem _ (List.mem_append_right _ h)))) w_y_X1_markCell_good
theorem g_y_X1_markRow__z20_X1_markCell_V85 : GoodIn w_y_X1_markRow__z20 (wsV RX1 85 RX1 yX1_markCell w_y_X1_markCell) := goodIn_app (nb_g4 (List.mem_cons_of_mem _ (List.mem_append_left _ (List.mem_append_left _ (List.mem_of_getElem? (i := 0) rfl)))) (List.mem_cons_of_mem _ (List.mem_append_left _ (List.mem_append_left _ (List.mem_of_getElem? (i := 1) rfl)))) (List.mem_cons_of_mem _ (List.mem_append_left _ (List.mem_append_left _ (List.mem_of_getElem? (i := 2) rfl)))) (List.mem_cons_of_mem _ (List.mem_append_left _ (List.mem_append_left _ (List.mem_of_getElem? (i := 3) rfl)))) (by decide +kernel)) gg_y_X1_markRow__z20_X1_markCell
set_option maxHeartbeats 40000000 in
set_option maxRecDepth 100000 in
theorem c_y_X1_markRow__z20 (l : Launch) (dC : Nat → ClassId) (dI : Nat → Nat → Nat) (cy : Nat → ClassId) (a z : Nat → Nat) (k0 : Nat) (L0 : LV) (σ0 : CS) (r0 : Int32 × CS) (h0 : y_X1_markRow__z20 k0 0 L0 σ0 = some r0) (sz : Nat) : Met l yX1_markRow w_y_X1_markRow__z20 ({ frames := 61, cells := 0, slots := 0, locals := 1525 }) (va_Pc [.ref (a 0), .ref (z 20), .int (L0.1 2)] (nIn (dC, dI) cy sz (vC cy a z σ0))) (va_Qv (fun _ : Unit => True) (fun _ t => nOut (dC, dI) cy (va_A (vC cy a z σ0) sz) (vC cy a z r0.2) t) (va_A (vC cy a z σ0) sz)) 0 0 (va_A (vC cy a z σ0) sz) := by
  refine Met.ofW (cc := cX1_markRow) (maxL := 4) (ret := none) (by decide) rfl ?_
  intro p e s m args below meth c s₁ B hml hv
  obtain ⟨rfl, hsz, hP, hK, hD0, hG⟩ := hv
  have hx := B.exec
  have hb := B.bytes
  have hr := B.returns
  have hts := atoms_spec (ws := w_y_X1_markRow__z20) B.pre
  have hown : s.vm.findClass RX1 = some m.cls := findClass_of_methodNamed B.named
  have hlocks := B.notSynchronized
  subst hsz
  have hD := hD0.self (sz := s.heap.size)
  generalize hAe : va_A (vC cy a z σ0) s.heap.size = A at hD ⊢
  have hA : ∀ q : Nat, s.heap.size ≤ q → A q := fun q h => by rw [← hAe]; exact Or.inr h
  have hS : va_S A s.heap s.heap [] := va_S.rf
  have hl := lv_entry ([.ref (a 0), .ref (z 20), .int (L0.1 2)]) (n := 4) (Nat.le_of_ble_eq_true rfl)
  rw [lg_entry_eq]
  generalize (lg_sl ([.ref (a 0), .ref (z 20), .int (L0.1 2)]) ++ List.replicate (4 - (lg_sl ([.ref (a 0), .ref (z 20), .int (L0.1 2)])).length) Slot.unset).toArray = ls at hl ⊢
  have hl : lv_has ls 4 [(0, .ref (a 0)), (1, .ref (z 20)), (2, .int (L0.1 2))] := hl
  have blk : ∀ k : Nat, (bC p l e (headSpec w_y_X1_markRow__z20 ({ frames := 61, cells := 0, slots := 0, locals := 1525 })).room s m #[.ref (a 0), .ref (z 20), .int (L0.1 2)] below meth c dC dI cy a z A (kV dC dI cy a z A below #[.ref (a 0), .ref (z 20), .int (L0.1 2)] s) 4 (y_X1_markRow__z20 k 0) (fun L => [(0, .ref (a 0)), (1, .ref (z 20)), (2, .int (L.1 2))]) 0 (fun L => [])) ∧ (bC p l e (headSpec w_y_X1_markRow__z20 ({ frames := 61, cells := 0, slots := 0, locals := 1525 })).room s m #[.ref (a 0), .ref (z 20), .int (L0.1 2)] below meth c dC dI cy a z A (kV dC dI cy a z A below #[.ref (a 0), .ref (z 20), .int (L0.1 2)] s) 4 (y_X1_markRow__z20 k 1) (fun L => [(0, .ref (a 0)), (1, .ref (z 20)), (2, .int (L.1 2)), (3, .int (L.1 3))]) 2 (fun L => [])) ∧ (bC p l e (headSpec w_y_X1_markRow__z20 ({ frames := 61, cells := 0, slots := 0, locals := 1525 })).room s m #[.ref (a 0), .ref (z 20), .int (L0.1 2)] below meth c dC dI cy a z A (kV dC dI cy a z A below #[.ref (a 0), .ref (z 20), .int (L0.1 2)] s) 4 (y_X1_markRow__z20 k 2) (fun L => []) 27 (fun L => [])) ∧ (bC p l e (headSpec w_y_X1_markRow__z20 ({ frames := 61, cells := 0, slots := 0, locals := 1525 })).room s m #[.ref (a 0), .ref (z 20), .int (L0.1 2)] below meth c dC dI cy a z A (kV dC dI cy a z A below #[.ref (a 0), .ref (z 20), .int (L0.1 2)] s) 4 (y_X1_markRow__z20 k 3) (fun L => [(0, .ref (a 0)), (1, .ref (z 20)), (2, .int (L.1 2)), (3, .int (L.1 3))]) 21 (fun L => [])) := by
    intro k
    induction k with
    | zero => exact ⟨fun L σ r h => (by cases h), fun L σ r h => (by cases h), fun L σ r h => (by cases h), fun L σ r h => (by cases h)⟩
    | succ k ih =>
      refine ⟨?_, ?_, ?_, ?_⟩
      · intro L σ r h H locs ls hP hD hS hl
        rw [y_X1_markRow__z20] at h
        refine lv_iconst (v := 0) hx hb dX1_markRow_0 (by decide) ?_
        refine lv_istore_n (lv' := [(3, .int 0), (0, .ref (a 0)), (1, .ref (z 20)), (2, .int (L.1 2))]) hx hb dX1_markRow_1 rfl hl (by decide) rfl (fun ls hl => ?_)
        exact ih.2.1 (lI L 3 0) σ r h H locs ls hP hD hS (lv_sub hl [1, 2, 3, 0] rfl)
      · intro L σ r h H locs ls hP hD hS hl
        rw [y_X1_markRow__z20] at h
        refine lv_iload_n hx hb dX1_markRow_2 rfl (lv_at hl 3 rfl) ?_
        refine lv_iload_n hx hb dX1_markRow_3 rfl (lv_at hl 2 rfl) ?_
        refine lv_icmp_ge (tgt := 27) hx hb dX1_markRow_4 (by decide) (fun c1 => ?_) (fun c1 => ?_)
        · rw [if_pos c1] at h
          exact ih.2.2.1 L σ r h H locs ls hP hD hS (lv_sub hl [] rfl)
        · rw [if_neg c1] at h
          refine lv_aload_n hx hb dX1_markRow_7 rfl (lv_at hl 1 rfl) ?_
          refine lv_iload_n hx hb dX1_markRow_8 rfl (lv_at hl 3 rfl) ?_
          obtain ⟨q2, h⟩ := kb_ite1 h
          refine hl_20 hx hb hK hP q2 dX1_markRow_9 ?_
          refine lv_iconst (v := 3) hx hb dX1_markRow_10 (by decide) ?_
          refine lv_icmp_lt (tgt := 21) hx hb dX1_markRow_11 (by decide) (fun c3 => ?_) (fun c3 => ?_)
          · rw [if_pos c3] at h
            exact ih.2.2.2 L σ r h H locs ls hP hD hS (lv_sub hl [0, 1, 2, 3] rfl)
          · rw [if_neg c3] at h
            refine lv_aload_n hx hb dX1_markRow_14 rfl (lv_at hl 0 rfl) ?_
            refine lv_aload_n hx hb dX1_markRow_15 rfl (lv_at hl 1 rfl) ?_
            refine lv_iload_n hx hb dX1_markRow_16 rfl (lv_at hl 3 rfl) ?_
            obtain ⟨q4, h⟩ := kb_ite1 h
            refine hl_20 hx hb hK hP q4 dX1_markRow_17 ?_
            obtain ⟨r5, hc5, h⟩ := oc_ex h
            refine kc_v (va_runV (As := [.int (σ.2.2.1 20 ((L.1 3)).toNatClampNeg)]) (rest := []) ⟨hx, hb, hml, hown, hts⟩ (c_y_X1_markCell l dC dI cy a z k (lI lZ 1 ((σ.2.2.1 20 ((L.1 3)).toNatClampNeg))) σ r5 hc5 H.size) (cwV 1 hts g_y_X1_markRow__z20_X1_markCell_V85 rfl rfl rfl hd_y_X1_markCell ⟨Nat.le_of_ble_eq_true rfl, Nat.le_of_ble_eq_true rfl⟩) ⟨nb_blind, va_recv hK hP (ci := 1) (q0 := 0) rfl rfl, (kb_pre hK hG hP hD)⟩ rfl rfl hl.1 rfl (lv_room (Nat.le_of_ble_eq_true rfl)) dX1_markRow_18 ⟨Nat.le_refl _, Nat.le_refl _⟩) hA hP hD hS (fun H locs hP hD hS => ?_)
            exact ih.2.2.2 L r5.2 r h H locs ls hP hD hS (lv_sub hl [0, 1, 2, 3] rfl)
      · intro L σ r h H locs ls hP hD hS hl
        rw [y_X1_markRow__z20] at h
        obtain rfl := Option.some.inj h
        exact W.vret hx hb hr (fun t ht hW => ⟨⟨(), rfl, trivial, by rw [ht]; exact hP, va_K.moved hW.alike hK, hD⟩, hS.F ht⟩) hS.2.2 dX1_markRow_27
      · intro L σ r h H locs ls hP hD hS hl
        rw [y_X1_markRow__z20] at h
        refine lv_iinc (v := ((L.1 3)) + 1) (lv' := [(3, .int (((L.1 3)) + 1)), (0, .ref (a 0)), (1, .ref (z 20)), (2, .int (L.1 2))]) hx hb dX1_markRow_21 hl (k := 3) rfl rfl (by decide) rfl (fun ls hl => ?_)
        refine lv_goto (tgt := 2) hx hb dX1_markRow_24 (by decide) ?_
        exact ih.2.1 (lI L 3 ((((L.1 3)) + 1))) σ r h H locs ls hP hD hS (lv_sub hl [1, 2, 3, 0] rfl)
  exact (blk k0).1 L0 σ0 r0 h0 s.heap [] ls hP hD hS hl
/-! X1_markRow__a23 -/
def y_X1_markRow__a23 : Nat → Nat → LV → CS → Option (Int32 × CS)
  | 0, _, _, _ => none
  | k + 1, 0, L, σ => y_X1_markRow__a23 k 1 (lI L 3 0) σ
  | k + 1, 1, L, σ => if ((L.1 2)) ≤ ((L.1 3)) then (y_X1_markRow__a23 k 2 L σ) else (if ¬ (((L.1 3)) < 0 ∨ 3780 ≤ ((L.1 3)).toNatClampNeg) then (if ((σ.2.2.1 23 ((L.1 3)).toNatClampNeg)) < 3 then (y_X1_markRow__a23 k 3 L σ) else (if ¬ (((L.1 3)) < 0 ∨ 3780 ≤ ((L.1 3)).toNatClampNeg) then (oc (y_X1_markCell k 0 (lI lZ 1 ((σ.2.2.1 23 ((L.1 3)).toNatClampNeg))) σ) (fun r5 => y_X1_markRow__a23 k 3 L r5.2)) else none)) else none)
  | k + 1, 2, L, σ => some (0, σ)
  | k + 1, 3, L, σ => y_X1_markRow__a23 k 1 (lI L 3 ((((L.1 3)) + 1))) σ
  | _ + 1, _ + 4, _, _ => none
def o_y_X1_markRow__a23 : List Cond := [.methodLink RX1 85 yX1_markCell, .instanceMethod yX1_markCell, .selects RX1 yX1_markCell yX1_markCell, .initialized RX1]
theorem o_y_X1_markRow__a23_good : o_y_X1_markRow__a23.all goodWord = true := by decide +kernel
def p_y_X1_markRow__a23 : List Cond := o_y_X1_markRow__a23 ++ ((.code yX1_markCell cX1_markCell 6 none :: p_y_H2) ++ [])
theorem p_y_X1_markRow__a23_good : p_y_X1_markRow__a23.all goodWord = true := nb_all2 o_y_X1_markRow__a23_good (nb_all2 (nb_allc (by decide +kernel) p_y_H2_good) rfl)
def w_y_X1_markRow__a23 : List Cond := .code yX1_markRow cX1_markRow 4 none :: (p_y_X1_markRow__a23 ++ fC)
theorem w_y_X1_markRow__a23_good : w_y_X1_markRow__a23.all goodWord = true := nb_allc (by decide +kernel) (nb_all2 p_y_X1_markRow__a23_good fC_good)
theorem hd_y_X1_markRow__a23 : yX1_markRow.cls = RX1 ∧ yX1_markRow.cls ≠ "java/lang/invoke/MethodHandle" ∧ yX1_markRow.cls ≠ "java/lang/invoke/VarHandle" ∧ (parseMethodDescriptor yX1_markRow.desc).map (fun d => d.parameters.length) = some 2 := by decide +kernel
theorem gg_y_X1_markRow__a23_X1_markCell : GoodIn w_y_X1_markRow__a23 w_y_X1_markCell := goodIn_sub (fun w h => (List.mem_cons.mp h).elim (fun e => (List.mem_cons_of_mem _ (List.mem_append_left _ (List.mem_append_right _ (List.mem_append_left _ (List.mem_cons.mpr (Or.inl e))))))) (fun h => (List.mem_append.mp h).elim (fun h => (List.mem_cons_of_mem _ (List.mem_append_left _ (List.mem_append_right _ (List.mem_append_left _ (List.mem_cons_of_mem _ h)))))) (fun h => List.mem_cons_of_mem _ (List.mem_append_right _ h)))) w_y_X1_markCell_good
theorem g_y_X1_markRow__a23_X1_markCell_V85 : GoodIn w_y_X1_markRow__a23 (wsV RX1 85 RX1 yX1_markCell w_y_X1_markCell) := goodIn_app (nb_g4 (List.mem_cons_of_mem _ (List.mem_append_left _ (List.mem_append_left _ (List.mem_of_getElem? (i := 0) rfl)))) (List.mem_cons_of_mem _ (List.mem_append_left _ (List.mem_append_left _ (List.mem_of_getElem? (i := 1) rfl)))) (List.mem_cons_of_mem _ (List.mem_append_left _ (List.mem_append_left _ (List.mem_of_getElem? (i := 2) rfl)))) (List.mem_cons_of_mem _ (List.mem_append_left _ (List.mem_append_left _ (List.mem_of_getElem? (i := 3) rfl)))) (by decide +kernel)) gg_y_X1_markRow__a23_X1_markCell
set_option maxHeartbeats 40000000 in
set_option maxRecDepth 100000 in
theorem c_y_X1_markRow__a23 (l : Launch) (dC : Nat → ClassId) (dI : Nat → Nat → Nat) (cy : Nat → ClassId) (a z : Nat → Nat) (k0 : Nat) (L0 : LV) (σ0 : CS) (r0 : Int32 × CS) (h0 : y_X1_markRow__a23 k0 0 L0 σ0 = some r0) (sz : Nat) : Met l yX1_markRow w_y_X1_markRow__a23 ({ frames := 61, cells := 0, slots := 0, locals := 1525 }) (va_Pc [.ref (a 0), .ref (a 23), .int (L0.1 2)] (nIn (dC, dI) cy sz (vC cy a z σ0))) (va_Qv (fun _ : Unit => True) (fun _ t => nOut (dC, dI) cy (va_A (vC cy a z σ0) sz) (vC cy a z r0.2) t) (va_A (vC cy a z σ0) sz)) 0 0 (va_A (vC cy a z σ0) sz) := by
  refine Met.ofW (cc := cX1_markRow) (maxL := 4) (ret := none) (by decide) rfl ?_
  intro p e s m args below meth c s₁ B hml hv
  obtain ⟨rfl, hsz, hP, hK, hD0, hG⟩ := hv
  have hx := B.exec
  have hb := B.bytes
  have hr := B.returns
  have hts := atoms_spec (ws := w_y_X1_markRow__a23) B.pre
  have hown : s.vm.findClass RX1 = some m.cls := findClass_of_methodNamed B.named
  have hlocks := B.notSynchronized
  subst hsz
  have hD := hD0.self (sz := s.heap.size)
  generalize hAe : va_A (vC cy a z σ0) s.heap.size = A at hD ⊢
  have hA : ∀ q : Nat, s.heap.size ≤ q → A q := fun q h => by rw [← hAe]; exact Or.inr h
  have hS : va_S A s.heap s.heap [] := va_S.rf
  have hl := lv_entry ([.ref (a 0), .ref (a 23), .int (L0.1 2)]) (n := 4) (Nat.le_of_ble_eq_true rfl)
  rw [lg_entry_eq]
  generalize (lg_sl ([.ref (a 0), .ref (a 23), .int (L0.1 2)]) ++ List.replicate (4 - (lg_sl ([.ref (a 0), .ref (a 23), .int (L0.1 2)])).length) Slot.unset).toArray = ls at hl ⊢
  have hl : lv_has ls 4 [(0, .ref (a 0)), (1, .ref (a 23)), (2, .int (L0.1 2))] := hl
  have blk : ∀ k : Nat, (bC p l e (headSpec w_y_X1_markRow__a23 ({ frames := 61, cells := 0, slots := 0, locals := 1525 })).room s m #[.ref (a 0), .ref (a 23), .int (L0.1 2)] below meth c dC dI cy a z A (kV dC dI cy a z A below #[.ref (a 0), .ref (a 23), .int (L0.1 2)] s) 4 (y_X1_markRow__a23 k 0) (fun L => [(0, .ref (a 0)), (1, .ref (a 23)), (2, .int (L.1 2))]) 0 (fun L => [])) ∧ (bC p l e (headSpec w_y_X1_markRow__a23 ({ frames := 61, cells := 0, slots := 0, locals := 1525 })).room s m #[.ref (a 0), .ref (a 23), .int (L0.1 2)] below meth c dC dI cy a z A (kV dC dI cy a z A below #[.ref (a 0), .ref (a 23), .int (L0.1 2)] s) 4 (y_X1_markRow__a23 k 1) (fun L => [(0, .ref (a 0)), (1, .ref (a 23)), (2, .int (L.1 2)), (3, .int (L.1 3))]) 2 (fun L => [])) ∧ (bC p l e (headSpec w_y_X1_markRow__a23 ({ frames := 61, cells := 0, slots := 0, locals := 1525 })).room s m #[.ref (a 0), .ref (a 23), .int (L0.1 2)] below meth c dC dI cy a z A (kV dC dI cy a z A below #[.ref (a 0), .ref (a 23), .int (L0.1 2)] s) 4 (y_X1_markRow__a23 k 2) (fun L => []) 27 (fun L => [])) ∧ (bC p l e (headSpec w_y_X1_markRow__a23 ({ frames := 61, cells := 0, slots := 0, locals := 1525 })).room s m #[.ref (a 0), .ref (a 23), .int (L0.1 2)] below meth c dC dI cy a z A (kV dC dI cy a z A below #[.ref (a 0), .ref (a 23), .int (L0.1 2)] s) 4 (y_X1_markRow__a23 k 3) (fun L => [(0, .ref (a 0)), (1, .ref (a 23)), (2, .int (L.1 2)), (3, .int (L.1 3))]) 21 (fun L => [])) := by
    intro k
    induction k with
    | zero => exact ⟨fun L σ r h => (by cases h), fun L σ r h => (by cases h), fun L σ r h => (by cases h), fun L σ r h => (by cases h)⟩
    | succ k ih =>
      refine ⟨?_, ?_, ?_, ?_⟩
      · intro L σ r h H locs ls hP hD hS hl
        rw [y_X1_markRow__a23] at h
        refine lv_iconst (v := 0) hx hb dX1_markRow_0 (by decide) ?_
        refine lv_istore_n (lv' := [(3, .int 0), (0, .ref (a 0)), (1, .ref (a 23)), (2, .int (L.1 2))]) hx hb dX1_markRow_1 rfl hl (by decide) rfl (fun ls hl => ?_)
        exact ih.2.1 (lI L 3 0) σ r h H locs ls hP hD hS (lv_sub hl [1, 2, 3, 0] rfl)
      · intro L σ r h H locs ls hP hD hS hl
        rw [y_X1_markRow__a23] at h
        refine lv_iload_n hx hb dX1_markRow_2 rfl (lv_at hl 3 rfl) ?_
        refine lv_iload_n hx hb dX1_markRow_3 rfl (lv_at hl 2 rfl) ?_
        refine lv_icmp_ge (tgt := 27) hx hb dX1_markRow_4 (by decide) (fun c1 => ?_) (fun c1 => ?_)
        · rw [if_pos c1] at h
          exact ih.2.2.1 L σ r h H locs ls hP hD hS (lv_sub hl [] rfl)
        · rw [if_neg c1] at h
          refine lv_aload_n hx hb dX1_markRow_7 rfl (lv_at hl 1 rfl) ?_
          refine lv_iload_n hx hb dX1_markRow_8 rfl (lv_at hl 3 rfl) ?_
          obtain ⟨q2, h⟩ := kb_ite1 h
          refine hl_23 hx hb hK hP q2 dX1_markRow_9 ?_
          refine lv_iconst (v := 3) hx hb dX1_markRow_10 (by decide) ?_
          refine lv_icmp_lt (tgt := 21) hx hb dX1_markRow_11 (by decide) (fun c3 => ?_) (fun c3 => ?_)
          · rw [if_pos c3] at h
            exact ih.2.2.2 L σ r h H locs ls hP hD hS (lv_sub hl [0, 1, 2, 3] rfl)
          · rw [if_neg c3] at h
            refine lv_aload_n hx hb dX1_markRow_14 rfl (lv_at hl 0 rfl) ?_
            refine lv_aload_n hx hb dX1_markRow_15 rfl (lv_at hl 1 rfl) ?_
            refine lv_iload_n hx hb dX1_markRow_16 rfl (lv_at hl 3 rfl) ?_
            obtain ⟨q4, h⟩ := kb_ite1 h
            refine hl_23 hx hb hK hP q4 dX1_markRow_17 ?_
            obtain ⟨r5, hc5, h⟩ := oc_ex h
            refine kc_v (va_runV (As := [.int (σ.2.2.1 23 ((L.1 3)).toNatClampNeg)]) (rest := []) ⟨hx, hb, hml, hown, hts⟩ (c_y_X1_markCell l dC dI cy a z k (lI lZ 1 ((σ.2.2.1 23 ((L.1 3)).toNatClampNeg))) σ r5 hc5 H.size) (cwV 1 hts g_y_X1_markRow__a23_X1_markCell_V85 rfl rfl rfl hd_y_X1_markCell ⟨Nat.le_of_ble_eq_true rfl, Nat.le_of_ble_eq_true rfl⟩) ⟨nb_blind, va_recv hK hP (ci := 1) (q0 := 0) rfl rfl, (kb_pre hK hG hP hD)⟩ rfl rfl hl.1 rfl (lv_room (Nat.le_of_ble_eq_true rfl)) dX1_markRow_18 ⟨Nat.le_refl _, Nat.le_refl _⟩) hA hP hD hS (fun H locs hP hD hS => ?_)
            exact ih.2.2.2 L r5.2 r h H locs ls hP hD hS (lv_sub hl [0, 1, 2, 3] rfl)
      · intro L σ r h H locs ls hP hD hS hl
        rw [y_X1_markRow__a23] at h
        obtain rfl := Option.some.inj h
        exact W.vret hx hb hr (fun t ht hW => ⟨⟨(), rfl, trivial, by rw [ht]; exact hP, va_K.moved hW.alike hK, hD⟩, hS.F ht⟩) hS.2.2 dX1_markRow_27
      · intro L σ r h H locs ls hP hD hS hl
        rw [y_X1_markRow__a23] at h
        refine lv_iinc (v := ((L.1 3)) + 1) (lv' := [(3, .int (((L.1 3)) + 1)), (0, .ref (a 0)), (1, .ref (a 23)), (2, .int (L.1 2))]) hx hb dX1_markRow_21 hl (k := 3) rfl rfl (by decide) rfl (fun ls hl => ?_)
        refine lv_goto (tgt := 2) hx hb dX1_markRow_24 (by decide) ?_
        exact ih.2.1 (lI L 3 ((((L.1 3)) + 1))) σ r h H locs ls hP hD hS (lv_sub hl [1, 2, 3, 0] rfl)
  exact (blk k0).1 L0 σ0 r0 h0 s.heap [] ls hP hD hS hl
/-! X1_markRow__z21 -/
def y_X1_markRow__z21 : Nat → Nat → LV → CS → Option (Int32 × CS)
  | 0, _, _, _ => none
  | k + 1, 0, L, σ => y_X1_markRow__z21 k 1 (lI L 3 0) σ
  | k + 1, 1, L, σ => if ((L.1 2)) ≤ ((L.1 3)) then (y_X1_markRow__z21 k 2 L σ) else (if ¬ (((L.1 3)) < 0 ∨ (sN σ 21) ≤ ((L.1 3)).toNatClampNeg) then (if ((σ.2.2.1 21 ((L.1 3)).toNatClampNeg)) < 3 then (y_X1_markRow__z21 k 3 L σ) else (if ¬ (((L.1 3)) < 0 ∨ (sN σ 21) ≤ ((L.1 3)).toNatClampNeg) then (oc (y_X1_markCell k 0 (lI lZ 1 ((σ.2.2.1 21 ((L.1 3)).toNatClampNeg))) σ) (fun r5 => y_X1_markRow__z21 k 3 L r5.2)) else none)) else none)
  | k + 1, 2, L, σ => some (0, σ)
  | k + 1, 3, L, σ => y_X1_markRow__z21 k 1 (lI L 3 ((((L.1 3)) + 1))) σ
  | _ + 1, _ + 4, _, _ => none
def o_y_X1_markRow__z21 : List Cond := [.methodLink RX1 85 yX1_markCell, .instanceMethod yX1_markCell, .selects RX1 yX1_markCell yX1_markCell, .initialized RX1]
theorem o_y_X1_markRow__z21_good : o_y_X1_markRow__z21.all goodWord = true := by decide +kernel
def p_y_X1_markRow__z21 : List Cond := o_y_X1_markRow__z21 ++ ((.code yX1_markCell cX1_markCell 6 none :: p_y_H2) ++ [])
theorem p_y_X1_markRow__z21_good : p_y_X1_markRow__z21.all goodWord = true := nb_all2 o_y_X1_markRow__z21_good (nb_all2 (nb_allc (by decide +kernel) p_y_H2_good) rfl)
def w_y_X1_markRow__z21 : List Cond := .code yX1_markRow cX1_markRow 4 none :: (p_y_X1_markRow__z21 ++ fC)
theorem w_y_X1_markRow__z21_good : w_y_X1_markRow__z21.all goodWord = true := nb_allc (by decide +kernel) (nb_all2 p_y_X1_markRow__z21_good fC_good)
theorem hd_y_X1_markRow__z21 : yX1_markRow.cls = RX1 ∧ yX1_markRow.cls ≠ "java/lang/invoke/MethodHandle" ∧ yX1_markRow.cls ≠ "java/lang/invoke/VarHandle" ∧ (parseMethodDescriptor yX1_markRow.desc).map (fun d => d.parameters.length) = some 2 := by decide +kernel
theorem gg_y_X1_markRow__z21_X1_markCell : GoodIn w_y_X1_markRow__z21 w_y_X1_markCell := goodIn_sub (fun w h => (List.mem_cons.mp h).elim (fun e => (List.mem_cons_of_mem _ (List.mem_append_left _ (List.mem_append_right _ (List.mem_append_left _ (List.mem_cons.mpr (Or.inl e))))))) (fun h => (List.mem_append.mp h).elim (fun h => (List.mem_cons_of_mem _ (List.mem_append_left _ (List.mem_append_right _ (List.mem_append_left _ (List.mem_cons_of_mem _ h)))))) (fun h => List.mem_cons_of_mem _ (List.mem_append_right _ h)))) w_y_X1_markCell_good
theorem g_y_X1_markRow__z21_X1_markCell_V85 : GoodIn w_y_X1_markRow__z21 (wsV RX1 85 RX1 yX1_markCell w_y_X1_markCell) := goodIn_app (nb_g4 (List.mem_cons_of_mem _ (List.mem_append_left _ (List.mem_append_left _ (List.mem_of_getElem? (i := 0) rfl)))) (List.mem_cons_of_mem _ (List.mem_append_left _ (List.mem_append_left _ (List.mem_of_getElem? (i := 1) rfl)))) (List.mem_cons_of_mem _ (List.mem_append_left _ (List.mem_append_left _ (List.mem_of_getElem? (i := 2) rfl)))) (List.mem_cons_of_mem _ (List.mem_append_left _ (List.mem_append_left _ (List.mem_of_getElem? (i := 3) rfl)))) (by decide +kernel)) gg_y_X1_markRow__z21_X1_markCell
set_option maxHeartbeats 40000000 in
set_option maxRecDepth 100000 in
theorem c_y_X1_markRow__z21 (l : Launch) (dC : Nat → ClassId) (dI : Nat → Nat → Nat) (cy : Nat → ClassId) (a z : Nat → Nat) (k0 : Nat) (L0 : LV) (σ0 : CS) (r0 : Int32 × CS) (h0 : y_X1_markRow__z21 k0 0 L0 σ0 = some r0) (sz : Nat) : Met l yX1_markRow w_y_X1_markRow__z21 ({ frames := 61, cells := 0, slots := 0, locals := 1525 }) (va_Pc [.ref (a 0), .ref (z 21), .int (L0.1 2)] (nIn (dC, dI) cy sz (vC cy a z σ0))) (va_Qv (fun _ : Unit => True) (fun _ t => nOut (dC, dI) cy (va_A (vC cy a z σ0) sz) (vC cy a z r0.2) t) (va_A (vC cy a z σ0) sz)) 0 0 (va_A (vC cy a z σ0) sz) := by
  refine Met.ofW (cc := cX1_markRow) (maxL := 4) (ret := none) (by decide) rfl ?_
  intro p e s m args below meth c s₁ B hml hv
  obtain ⟨rfl, hsz, hP, hK, hD0, hG⟩ := hv
  have hx := B.exec
  have hb := B.bytes
  have hr := B.returns
  have hts := atoms_spec (ws := w_y_X1_markRow__z21) B.pre
  have hown : s.vm.findClass RX1 = some m.cls := findClass_of_methodNamed B.named
  have hlocks := B.notSynchronized
  subst hsz
  have hD := hD0.self (sz := s.heap.size)
  generalize hAe : va_A (vC cy a z σ0) s.heap.size = A at hD ⊢
  have hA : ∀ q : Nat, s.heap.size ≤ q → A q := fun q h => by rw [← hAe]; exact Or.inr h
  have hS : va_S A s.heap s.heap [] := va_S.rf
  have hl := lv_entry ([.ref (a 0), .ref (z 21), .int (L0.1 2)]) (n := 4) (Nat.le_of_ble_eq_true rfl)
  rw [lg_entry_eq]
  generalize (lg_sl ([.ref (a 0), .ref (z 21), .int (L0.1 2)]) ++ List.replicate (4 - (lg_sl ([.ref (a 0), .ref (z 21), .int (L0.1 2)])).length) Slot.unset).toArray = ls at hl ⊢
  have hl : lv_has ls 4 [(0, .ref (a 0)), (1, .ref (z 21)), (2, .int (L0.1 2))] := hl
  have blk : ∀ k : Nat, (bC p l e (headSpec w_y_X1_markRow__z21 ({ frames := 61, cells := 0, slots := 0, locals := 1525 })).room s m #[.ref (a 0), .ref (z 21), .int (L0.1 2)] below meth c dC dI cy a z A (kV dC dI cy a z A below #[.ref (a 0), .ref (z 21), .int (L0.1 2)] s) 4 (y_X1_markRow__z21 k 0) (fun L => [(0, .ref (a 0)), (1, .ref (z 21)), (2, .int (L.1 2))]) 0 (fun L => [])) ∧ (bC p l e (headSpec w_y_X1_markRow__z21 ({ frames := 61, cells := 0, slots := 0, locals := 1525 })).room s m #[.ref (a 0), .ref (z 21), .int (L0.1 2)] below meth c dC dI cy a z A (kV dC dI cy a z A below #[.ref (a 0), .ref (z 21), .int (L0.1 2)] s) 4 (y_X1_markRow__z21 k 1) (fun L => [(0, .ref (a 0)), (1, .ref (z 21)), (2, .int (L.1 2)), (3, .int (L.1 3))]) 2 (fun L => [])) ∧ (bC p l e (headSpec w_y_X1_markRow__z21 ({ frames := 61, cells := 0, slots := 0, locals := 1525 })).room s m #[.ref (a 0), .ref (z 21), .int (L0.1 2)] below meth c dC dI cy a z A (kV dC dI cy a z A below #[.ref (a 0), .ref (z 21), .int (L0.1 2)] s) 4 (y_X1_markRow__z21 k 2) (fun L => []) 27 (fun L => [])) ∧ (bC p l e (headSpec w_y_X1_markRow__z21 ({ frames := 61, cells := 0, slots := 0, locals := 1525 })).room s m #[.ref (a 0), .ref (z 21), .int (L0.1 2)] below meth c dC dI cy a z A (kV dC dI cy a z A below #[.ref (a 0), .ref (z 21), .int (L0.1 2)] s) 4 (y_X1_markRow__z21 k 3) (fun L => [(0, .ref (a 0)), (1, .ref (z 21)), (2, .int (L.1 2)), (3, .int (L.1 3))]) 21 (fun L => [])) := by
    intro k
    induction k with
    | zero => exact ⟨fun L σ r h => (by cases h), fun L σ r h => (by cases h), fun L σ r h => (by cases h), fun L σ r h => (by cases h)⟩
    | succ k ih =>
      refine ⟨?_, ?_, ?_, ?_⟩
      · intro L σ r h H locs ls hP hD hS hl
        rw [y_X1_markRow__z21] at h
        refine lv_iconst (v := 0) hx hb dX1_markRow_0 (by decide) ?_
        refine lv_istore_n (lv' := [(3, .int 0), (0, .ref (a 0)), (1, .ref (z 21)), (2, .int (L.1 2))]) hx hb dX1_markRow_1 rfl hl (by decide) rfl (fun ls hl => ?_)
        exact ih.2.1 (lI L 3 0) σ r h H locs ls hP hD hS (lv_sub hl [1, 2, 3, 0] rfl)
      · intro L σ r h H locs ls hP hD hS hl
        rw [y_X1_markRow__z21] at h
        refine lv_iload_n hx hb dX1_markRow_2 rfl (lv_at hl 3 rfl) ?_
        refine lv_iload_n hx hb dX1_markRow_3 rfl (lv_at hl 2 rfl) ?_
        refine lv_icmp_ge (tgt := 27) hx hb dX1_markRow_4 (by decide) (fun c1 => ?_) (fun c1 => ?_)
        · rw [if_pos c1] at h
          exact ih.2.2.1 L σ r h H locs ls hP hD hS (lv_sub hl [] rfl)
        · rw [if_neg c1] at h
          refine lv_aload_n hx hb dX1_markRow_7 rfl (lv_at hl 1 rfl) ?_
          refine lv_iload_n hx hb dX1_markRow_8 rfl (lv_at hl 3 rfl) ?_
          obtain ⟨q2, h⟩ := kb_ite1 h
          refine hl_21 hx hb hK hP q2 dX1_markRow_9 ?_
          refine lv_iconst (v := 3) hx hb dX1_markRow_10 (by decide) ?_
          refine lv_icmp_lt (tgt := 21) hx hb dX1_markRow_11 (by decide) (fun c3 => ?_) (fun c3 => ?_)
          · rw [if_pos c3] at h
            exact ih.2.2.2 L σ r h H locs ls hP hD hS (lv_sub hl [0, 1, 2, 3] rfl)
          · rw [if_neg c3] at h
            refine lv_aload_n hx hb dX1_markRow_14 rfl (lv_at hl 0 rfl) ?_
            refine lv_aload_n hx hb dX1_markRow_15 rfl (lv_at hl 1 rfl) ?_
            refine lv_iload_n hx hb dX1_markRow_16 rfl (lv_at hl 3 rfl) ?_
            obtain ⟨q4, h⟩ := kb_ite1 h
            refine hl_21 hx hb hK hP q4 dX1_markRow_17 ?_
            obtain ⟨r5, hc5, h⟩ := oc_ex h
            refine kc_v (va_runV (As := [.int (σ.2.2.1 21 ((L.1 3)).toNatClampNeg)]) (rest := []) ⟨hx, hb, hml, hown, hts⟩ (c_y_X1_markCell l dC dI cy a z k (lI lZ 1 ((σ.2.2.1 21 ((L.1 3)).toNatClampNeg))) σ r5 hc5 H.size) (cwV 1 hts g_y_X1_markRow__z21_X1_markCell_V85 rfl rfl rfl hd_y_X1_markCell ⟨Nat.le_of_ble_eq_true rfl, Nat.le_of_ble_eq_true rfl⟩) ⟨nb_blind, va_recv hK hP (ci := 1) (q0 := 0) rfl rfl, (kb_pre hK hG hP hD)⟩ rfl rfl hl.1 rfl (lv_room (Nat.le_of_ble_eq_true rfl)) dX1_markRow_18 ⟨Nat.le_refl _, Nat.le_refl _⟩) hA hP hD hS (fun H locs hP hD hS => ?_)
            exact ih.2.2.2 L r5.2 r h H locs ls hP hD hS (lv_sub hl [0, 1, 2, 3] rfl)
      · intro L σ r h H locs ls hP hD hS hl
        rw [y_X1_markRow__z21] at h
        obtain rfl := Option.some.inj h
        exact W.vret hx hb hr (fun t ht hW => ⟨⟨(), rfl, trivial, by rw [ht]; exact hP, va_K.moved hW.alike hK, hD⟩, hS.F ht⟩) hS.2.2 dX1_markRow_27
      · intro L σ r h H locs ls hP hD hS hl
        rw [y_X1_markRow__z21] at h
        refine lv_iinc (v := ((L.1 3)) + 1) (lv' := [(3, .int (((L.1 3)) + 1)), (0, .ref (a 0)), (1, .ref (z 21)), (2, .int (L.1 2))]) hx hb dX1_markRow_21 hl (k := 3) rfl rfl (by decide) rfl (fun ls hl => ?_)
        refine lv_goto (tgt := 2) hx hb dX1_markRow_24 (by decide) ?_
        exact ih.2.1 (lI L 3 ((((L.1 3)) + 1))) σ r h H locs ls hP hD hS (lv_sub hl [1, 2, 3, 0] rfl)
  exact (blk k0).1 L0 σ0 r0 h0 s.heap [] ls hP hD hS hl
/-! X1_markRow__a67 -/
def y_X1_markRow__a67 : Nat → Nat → LV → CS → Option (Int32 × CS)
  | 0, _, _, _ => none
  | k + 1, 0, L, σ => y_X1_markRow__a67 k 1 (lI L 3 0) σ
  | k + 1, 1, L, σ => if ((L.1 2)) ≤ ((L.1 3)) then (y_X1_markRow__a67 k 2 L σ) else (if ¬ (((L.1 3)) < 0 ∨ 27 ≤ ((L.1 3)).toNatClampNeg) then (if ((σ.2.2.1 67 ((L.1 3)).toNatClampNeg)) < 3 then (y_X1_markRow__a67 k 3 L σ) else (if ¬ (((L.1 3)) < 0 ∨ 27 ≤ ((L.1 3)).toNatClampNeg) then (oc (y_X1_markCell k 0 (lI lZ 1 ((σ.2.2.1 67 ((L.1 3)).toNatClampNeg))) σ) (fun r5 => y_X1_markRow__a67 k 3 L r5.2)) else none)) else none)
  | k + 1, 2, L, σ => some (0, σ)
  | k + 1, 3, L, σ => y_X1_markRow__a67 k 1 (lI L 3 ((((L.1 3)) + 1))) σ
  | _ + 1, _ + 4, _, _ => none
def o_y_X1_markRow__a67 : List Cond := [.methodLink RX1 85 yX1_markCell, .instanceMethod yX1_markCell, .selects RX1 yX1_markCell yX1_markCell, .initialized RX1]
theorem o_y_X1_markRow__a67_good : o_y_X1_markRow__a67.all goodWord = true := by decide +kernel
def p_y_X1_markRow__a67 : List Cond := o_y_X1_markRow__a67 ++ ((.code yX1_markCell cX1_markCell 6 none :: p_y_H2) ++ [])
theorem p_y_X1_markRow__a67_good : p_y_X1_markRow__a67.all goodWord = true := nb_all2 o_y_X1_markRow__a67_good (nb_all2 (nb_allc (by decide +kernel) p_y_H2_good) rfl)
def w_y_X1_markRow__a67 : List Cond := .code yX1_markRow cX1_markRow 4 none :: (p_y_X1_markRow__a67 ++ fC)
theorem w_y_X1_markRow__a67_good : w_y_X1_markRow__a67.all goodWord = true := nb_allc (by decide +kernel) (nb_all2 p_y_X1_markRow__a67_good fC_good)
theorem hd_y_X1_markRow__a67 : yX1_markRow.cls = RX1 ∧ yX1_markRow.cls ≠ "java/lang/invoke/MethodHandle" ∧ yX1_markRow.cls ≠ "java/lang/invoke/VarHandle" ∧ (parseMethodDescriptor yX1_markRow.desc).map (fun d => d.parameters.length) = some 2 := by decide +kernel
theorem gg_y_X1_markRow__a67_X1_markCell : GoodIn w_y_X1_markRow__a67 w_y_X1_markCell := goodIn_sub (fun w h => (List.mem_cons.mp h).elim (fun e => (List.mem_cons_of_mem _ (List.mem_append_left _ (List.mem_append_right _ (List.mem_append_left _ (List.mem_cons.mpr (Or.inl e))))))) (fun h => (List.mem_append.mp h).elim (fun h => (List.mem_cons_of_mem _ (List.mem_append_left _ (List.mem_append_right _ (List.mem_append_left _ (List.mem_cons_of_mem _ h)))))) (fun h => List.mem_cons_of_mem _ (List.mem_append_right _ h)))) w_y_X1_markCell_good
theorem g_y_X1_markRow__a67_X1_markCell_V85 : GoodIn w_y_X1_markRow__a67 (wsV RX1 85 RX1 yX1_markCell w_y_X1_markCell) := goodIn_app (nb_g4 (List.mem_cons_of_mem _ (List.mem_append_left _ (List.mem_append_left _ (List.mem_of_getElem? (i := 0) rfl)))) (List.mem_cons_of_mem _ (List.mem_append_left _ (List.mem_append_left _ (List.mem_of_getElem? (i := 1) rfl)))) (List.mem_cons_of_mem _ (List.mem_append_left _ (List.mem_append_left _ (List.mem_of_getElem? (i := 2) rfl)))) (List.mem_cons_of_mem _ (List.mem_append_left _ (List.mem_append_left _ (List.mem_of_getElem? (i := 3) rfl)))) (by decide +kernel)) gg_y_X1_markRow__a67_X1_markCell
set_option maxHeartbeats 40000000 in
set_option maxRecDepth 100000 in
theorem c_y_X1_markRow__a67 (l : Launch) (dC : Nat → ClassId) (dI : Nat → Nat → Nat) (cy : Nat → ClassId) (a z : Nat → Nat) (k0 : Nat) (L0 : LV) (σ0 : CS) (r0 : Int32 × CS) (h0 : y_X1_markRow__a67 k0 0 L0 σ0 = some r0) (sz : Nat) : Met l yX1_markRow w_y_X1_markRow__a67 ({ frames := 61, cells := 0, slots := 0, locals := 1525 }) (va_Pc [.ref (a 0), .ref (a 67), .int (L0.1 2)] (nIn (dC, dI) cy sz (vC cy a z σ0))) (va_Qv (fun _ : Unit => True) (fun _ t => nOut (dC, dI) cy (va_A (vC cy a z σ0) sz) (vC cy a z r0.2) t) (va_A (vC cy a z σ0) sz)) 0 0 (va_A (vC cy a z σ0) sz) := by
  refine Met.ofW (cc := cX1_markRow) (maxL := 4) (ret := none) (by decide) rfl ?_
  intro p e s m args below meth c s₁ B hml hv
  obtain ⟨rfl, hsz, hP, hK, hD0, hG⟩ := hv
  have hx := B.exec
  have hb := B.bytes
  have hr := B.returns
  have hts := atoms_spec (ws := w_y_X1_markRow__a67) B.pre
  have hown : s.vm.findClass RX1 = some m.cls := findClass_of_methodNamed B.named
  have hlocks := B.notSynchronized
  subst hsz
  have hD := hD0.self (sz := s.heap.size)
  generalize hAe : va_A (vC cy a z σ0) s.heap.size = A at hD ⊢
  have hA : ∀ q : Nat, s.heap.size ≤ q → A q := fun q h => by rw [← hAe]; exact Or.inr h
  have hS : va_S A s.heap s.heap [] := va_S.rf
  have hl := lv_entry ([.ref (a 0), .ref (a 67), .int (L0.1 2)]) (n := 4) (Nat.le_of_ble_eq_true rfl)
  rw [lg_entry_eq]
  generalize (lg_sl ([.ref (a 0), .ref (a 67), .int (L0.1 2)]) ++ List.replicate (4 - (lg_sl ([.ref (a 0), .ref (a 67), .int (L0.1 2)])).length) Slot.unset).toArray = ls at hl ⊢
  have hl : lv_has ls 4 [(0, .ref (a 0)), (1, .ref (a 67)), (2, .int (L0.1 2))] := hl
  have blk : ∀ k : Nat, (bC p l e (headSpec w_y_X1_markRow__a67 ({ frames := 61, cells := 0, slots := 0, locals := 1525 })).room s m #[.ref (a 0), .ref (a 67), .int (L0.1 2)] below meth c dC dI cy a z A (kV dC dI cy a z A below #[.ref (a 0), .ref (a 67), .int (L0.1 2)] s) 4 (y_X1_markRow__a67 k 0) (fun L => [(0, .ref (a 0)), (1, .ref (a 67)), (2, .int (L.1 2))]) 0 (fun L => [])) ∧ (bC p l e (headSpec w_y_X1_markRow__a67 ({ frames := 61, cells := 0, slots := 0, locals := 1525 })).room s m #[.ref (a 0), .ref (a 67), .int (L0.1 2)] below meth c dC dI cy a z A (kV dC dI cy a z A below #[.ref (a 0), .ref (a 67), .int (L0.1 2)] s) 4 (y_X1_markRow__a67 k 1) (fun L => [(0, .ref (a 0)), (1, .ref (a 67)), (2, .int (L.1 2)), (3, .int (L.1 3))]) 2 (fun L => [])) ∧ (bC p l e (headSpec w_y_X1_markRow__a67 ({ frames := 61, cells := 0, slots := 0, locals := 1525 })).room s m #[.ref (a 0), .ref (a 67), .int (L0.1 2)] below meth c dC dI cy a z A (kV dC dI cy a z A below #[.ref (a 0), .ref (a 67), .int (L0.1 2)] s) 4 (y_X1_markRow__a67 k 2) (fun L => []) 27 (fun L => [])) ∧ (bC p l e (headSpec w_y_X1_markRow__a67 ({ frames := 61, cells := 0, slots := 0, locals := 1525 })).room s m #[.ref (a 0), .ref (a 67), .int (L0.1 2)] below meth c dC dI cy a z A (kV dC dI cy a z A below #[.ref (a 0), .ref (a 67), .int (L0.1 2)] s) 4 (y_X1_markRow__a67 k 3) (fun L => [(0, .ref (a 0)), (1, .ref (a 67)), (2, .int (L.1 2)), (3, .int (L.1 3))]) 21 (fun L => [])) := by
    intro k
    induction k with
    | zero => exact ⟨fun L σ r h => (by cases h), fun L σ r h => (by cases h), fun L σ r h => (by cases h), fun L σ r h => (by cases h)⟩
    | succ k ih =>
      refine ⟨?_, ?_, ?_, ?_⟩
      · intro L σ r h H locs ls hP hD hS hl
        rw [y_X1_markRow__a67] at h
        refine lv_iconst (v := 0) hx hb dX1_markRow_0 (by decide) ?_
        refine lv_istore_n (lv' := [(3, .int 0), (0, .ref (a 0)), (1, .ref (a 67)), (2, .int (L.1 2))]) hx hb dX1_markRow_1 rfl hl (by decide) rfl (fun ls hl => ?_)
        exact ih.2.1 (lI L 3 0) σ r h H locs ls hP hD hS (lv_sub hl [1, 2, 3, 0] rfl)
      · intro L σ r h H locs ls hP hD hS hl
        rw [y_X1_markRow__a67] at h
        refine lv_iload_n hx hb dX1_markRow_2 rfl (lv_at hl 3 rfl) ?_
        refine lv_iload_n hx hb dX1_markRow_3 rfl (lv_at hl 2 rfl) ?_
        refine lv_icmp_ge (tgt := 27) hx hb dX1_markRow_4 (by decide) (fun c1 => ?_) (fun c1 => ?_)
        · rw [if_pos c1] at h
          exact ih.2.2.1 L σ r h H locs ls hP hD hS (lv_sub hl [] rfl)
        · rw [if_neg c1] at h
          refine lv_aload_n hx hb dX1_markRow_7 rfl (lv_at hl 1 rfl) ?_
          refine lv_iload_n hx hb dX1_markRow_8 rfl (lv_at hl 3 rfl) ?_
          obtain ⟨q2, h⟩ := kb_ite1 h
          refine hl_67 hx hb hK hP q2 dX1_markRow_9 ?_
          refine lv_iconst (v := 3) hx hb dX1_markRow_10 (by decide) ?_
          refine lv_icmp_lt (tgt := 21) hx hb dX1_markRow_11 (by decide) (fun c3 => ?_) (fun c3 => ?_)
          · rw [if_pos c3] at h
            exact ih.2.2.2 L σ r h H locs ls hP hD hS (lv_sub hl [0, 1, 2, 3] rfl)
          · rw [if_neg c3] at h
            refine lv_aload_n hx hb dX1_markRow_14 rfl (lv_at hl 0 rfl) ?_
            refine lv_aload_n hx hb dX1_markRow_15 rfl (lv_at hl 1 rfl) ?_
            refine lv_iload_n hx hb dX1_markRow_16 rfl (lv_at hl 3 rfl) ?_
            obtain ⟨q4, h⟩ := kb_ite1 h
            refine hl_67 hx hb hK hP q4 dX1_markRow_17 ?_
            obtain ⟨r5, hc5, h⟩ := oc_ex h
            refine kc_v (va_runV (As := [.int (σ.2.2.1 67 ((L.1 3)).toNatClampNeg)]) (rest := []) ⟨hx, hb, hml, hown, hts⟩ (c_y_X1_markCell l dC dI cy a z k (lI lZ 1 ((σ.2.2.1 67 ((L.1 3)).toNatClampNeg))) σ r5 hc5 H.size) (cwV 1 hts g_y_X1_markRow__a67_X1_markCell_V85 rfl rfl rfl hd_y_X1_markCell ⟨Nat.le_of_ble_eq_true rfl, Nat.le_of_ble_eq_true rfl⟩) ⟨nb_blind, va_recv hK hP (ci := 1) (q0 := 0) rfl rfl, (kb_pre hK hG hP hD)⟩ rfl rfl hl.1 rfl (lv_room (Nat.le_of_ble_eq_true rfl)) dX1_markRow_18 ⟨Nat.le_refl _, Nat.le_refl _⟩) hA hP hD hS (fun H locs hP hD hS => ?_)
            exact ih.2.2.2 L r5.2 r h H locs ls hP hD hS (lv_sub hl [0, 1, 2, 3] rfl)
      · intro L σ r h H locs ls hP hD hS hl
        rw [y_X1_markRow__a67] at h
        obtain rfl := Option.some.inj h
        exact W.vret hx hb hr (fun t ht hW => ⟨⟨(), rfl, trivial, by rw [ht]; exact hP, va_K.moved hW.alike hK, hD⟩, hS.F ht⟩) hS.2.2 dX1_markRow_27
      · intro L σ r h H locs ls hP hD hS hl
        rw [y_X1_markRow__a67] at h
        refine lv_iinc (v := ((L.1 3)) + 1) (lv' := [(3, .int (((L.1 3)) + 1)), (0, .ref (a 0)), (1, .ref (a 67)), (2, .int (L.1 2))]) hx hb dX1_markRow_21 hl (k := 3) rfl rfl (by decide) rfl (fun ls hl => ?_)
        refine lv_goto (tgt := 2) hx hb dX1_markRow_24 (by decide) ?_
        exact ih.2.1 (lI L 3 ((((L.1 3)) + 1))) σ r h H locs ls hP hD hS (lv_sub hl [1, 2, 3, 0] rfl)
  exact (blk k0).1 L0 σ0 r0 h0 s.heap [] ls hP hD hS hl
/-! X1_markRow__z26 -/
def y_X1_markRow__z26 : Nat → Nat → LV → CS → Option (Int32 × CS)
  | 0, _, _, _ => none
  | k + 1, 0, L, σ => y_X1_markRow__z26 k 1 (lI L 3 0) σ
  | k + 1, 1, L, σ => if ((L.1 2)) ≤ ((L.1 3)) then (y_X1_markRow__z26 k 2 L σ) else (if ¬ (((L.1 3)) < 0 ∨ (sN σ 26) ≤ ((L.1 3)).toNatClampNeg) then (if ((σ.2.2.1 26 ((L.1 3)).toNatClampNeg)) < 3 then (y_X1_markRow__z26 k 3 L σ) else (if ¬ (((L.1 3)) < 0 ∨ (sN σ 26) ≤ ((L.1 3)).toNatClampNeg) then (oc (y_X1_markCell k 0 (lI lZ 1 ((σ.2.2.1 26 ((L.1 3)).toNatClampNeg))) σ) (fun r5 => y_X1_markRow__z26 k 3 L r5.2)) else none)) else none)
  | k + 1, 2, L, σ => some (0, σ)
  | k + 1, 3, L, σ => y_X1_markRow__z26 k 1 (lI L 3 ((((L.1 3)) + 1))) σ
  | _ + 1, _ + 4, _, _ => none
def o_y_X1_markRow__z26 : List Cond := [.methodLink RX1 85 yX1_markCell, .instanceMethod yX1_markCell, .selects RX1 yX1_markCell yX1_markCell, .initialized RX1]
theorem o_y_X1_markRow__z26_good : o_y_X1_markRow__z26.all goodWord = true := by decide +kernel
def p_y_X1_markRow__z26 : List Cond := o_y_X1_markRow__z26 ++ ((.code yX1_markCell cX1_markCell 6 none :: p_y_H2) ++ [])
theorem p_y_X1_markRow__z26_good : p_y_X1_markRow__z26.all goodWord = true := nb_all2 o_y_X1_markRow__z26_good (nb_all2 (nb_allc (by decide +kernel) p_y_H2_good) rfl)
def w_y_X1_markRow__z26 : List Cond := .code yX1_markRow cX1_markRow 4 none :: (p_y_X1_markRow__z26 ++ fC)
theorem w_y_X1_markRow__z26_good : w_y_X1_markRow__z26.all goodWord = true := nb_allc (by decide +kernel) (nb_all2 p_y_X1_markRow__z26_good fC_good)
theorem hd_y_X1_markRow__z26 : yX1_markRow.cls = RX1 ∧ yX1_markRow.cls ≠ "java/lang/invoke/MethodHandle" ∧ yX1_markRow.cls ≠ "java/lang/invoke/VarHandle" ∧ (parseMethodDescriptor yX1_markRow.desc).map (fun d => d.parameters.length) = some 2 := by decide +kernel
theorem gg_y_X1_markRow__z26_X1_markCell : GoodIn w_y_X1_markRow__z26 w_y_X1_markCell := goodIn_sub (fun w h => (List.mem_cons.mp h).elim (fun e => (List.mem_cons_of_mem _ (List.mem_append_left _ (List.mem_append_right _ (List.mem_append_left _ (List.mem_cons.mpr (Or.inl e))))))) (fun h => (List.mem_append.mp h).elim (fun h => (List.mem_cons_of_mem _ (List.mem_append_left _ (List.mem_append_right _ (List.mem_append_left _ (List.mem_cons_of_mem _ h)))))) (fun h => List.mem_cons_of_mem _ (List.mem_append_right _ h)))) w_y_X1_markCell_good
theorem g_y_X1_markRow__z26_X1_markCell_V85 : GoodIn w_y_X1_markRow__z26 (wsV RX1 85 RX1 yX1_markCell w_y_X1_markCell) := goodIn_app (nb_g4 (List.mem_cons_of_mem _ (List.mem_append_left _ (List.mem_append_left _ (List.mem_of_getElem? (i := 0) rfl)))) (List.mem_cons_of_mem _ (List.mem_append_left _ (List.mem_append_left _ (List.mem_of_getElem? (i := 1) rfl)))) (List.mem_cons_of_mem _ (List.mem_append_left _ (List.mem_append_left _ (List.mem_of_getElem? (i := 2) rfl)))) (List.mem_cons_of_mem _ (List.mem_append_left _ (List.mem_append_left _ (List.mem_of_getElem? (i := 3) rfl)))) (by decide +kernel)) gg_y_X1_markRow__z26_X1_markCell
set_option maxHeartbeats 40000000 in
set_option maxRecDepth 100000 in
theorem c_y_X1_markRow__z26 (l : Launch) (dC : Nat → ClassId) (dI : Nat → Nat → Nat) (cy : Nat → ClassId) (a z : Nat → Nat) (k0 : Nat) (L0 : LV) (σ0 : CS) (r0 : Int32 × CS) (h0 : y_X1_markRow__z26 k0 0 L0 σ0 = some r0) (sz : Nat) : Met l yX1_markRow w_y_X1_markRow__z26 ({ frames := 61, cells := 0, slots := 0, locals := 1525 }) (va_Pc [.ref (a 0), .ref (z 26), .int (L0.1 2)] (nIn (dC, dI) cy sz (vC cy a z σ0))) (va_Qv (fun _ : Unit => True) (fun _ t => nOut (dC, dI) cy (va_A (vC cy a z σ0) sz) (vC cy a z r0.2) t) (va_A (vC cy a z σ0) sz)) 0 0 (va_A (vC cy a z σ0) sz) := by
  refine Met.ofW (cc := cX1_markRow) (maxL := 4) (ret := none) (by decide) rfl ?_
  intro p e s m args below meth c s₁ B hml hv
  obtain ⟨rfl, hsz, hP, hK, hD0, hG⟩ := hv
  have hx := B.exec
  have hb := B.bytes
  have hr := B.returns
  have hts := atoms_spec (ws := w_y_X1_markRow__z26) B.pre
  have hown : s.vm.findClass RX1 = some m.cls := findClass_of_methodNamed B.named
  have hlocks := B.notSynchronized
  subst hsz
  have hD := hD0.self (sz := s.heap.size)
  generalize hAe : va_A (vC cy a z σ0) s.heap.size = A at hD ⊢
  have hA : ∀ q : Nat, s.heap.size ≤ q → A q := fun q h => by rw [← hAe]; exact Or.inr h
  have hS : va_S A s.heap s.heap [] := va_S.rf
  have hl := lv_entry ([.ref (a 0), .ref (z 26), .int (L0.1 2)]) (n := 4) (Nat.le_of_ble_eq_true rfl)
  rw [lg_entry_eq]
  generalize (lg_sl ([.ref (a 0), .ref (z 26), .int (L0.1 2)]) ++ List.replicate (4 - (lg_sl ([.ref (a 0), .ref (z 26), .int (L0.1 2)])).length) Slot.unset).toArray = ls at hl ⊢
  have hl : lv_has ls 4 [(0, .ref (a 0)), (1, .ref (z 26)), (2, .int (L0.1 2))] := hl
  have blk : ∀ k : Nat, (bC p l e (headSpec w_y_X1_markRow__z26 ({ frames := 61, cells := 0, slots := 0, locals := 1525 })).room s m #[.ref (a 0), .ref (z 26), .int (L0.1 2)] below meth c dC dI cy a z A (kV dC dI cy a z A below #[.ref (a 0), .ref (z 26), .int (L0.1 2)] s) 4 (y_X1_markRow__z26 k 0) (fun L => [(0, .ref (a 0)), (1, .ref (z 26)), (2, .int (L.1 2))]) 0 (fun L => [])) ∧ (bC p l e (headSpec w_y_X1_markRow__z26 ({ frames := 61, cells := 0, slots := 0, locals := 1525 })).room s m #[.ref (a 0), .ref (z 26), .int (L0.1 2)] below meth c dC dI cy a z A (kV dC dI cy a z A below #[.ref (a 0), .ref (z 26), .int (L0.1 2)] s) 4 (y_X1_markRow__z26 k 1) (fun L => [(0, .ref (a 0)), (1, .ref (z 26)), (2, .int (L.1 2)), (3, .int (L.1 3))]) 2 (fun L => [])) ∧ (bC p l e (headSpec w_y_X1_markRow__z26 ({ frames := 61, cells := 0, slots := 0, locals := 1525 })).room s m #[.ref (a 0), .ref (z 26), .int (L0.1 2)] below meth c dC dI cy a z A (kV dC dI cy a z A below #[.ref (a 0), .ref (z 26), .int (L0.1 2)] s) 4 (y_X1_markRow__z26 k 2) (fun L => []) 27 (fun L => [])) ∧ (bC p l e (headSpec w_y_X1_markRow__z26 ({ frames := 61, cells := 0, slots := 0, locals := 1525 })).room s m #[.ref (a 0), .ref (z 26), .int (L0.1 2)] below meth c dC dI cy a z A (kV dC dI cy a z A below #[.ref (a 0), .ref (z 26), .int (L0.1 2)] s) 4 (y_X1_markRow__z26 k 3) (fun L => [(0, .ref (a 0)), (1, .ref (z 26)), (2, .int (L.1 2)), (3, .int (L.1 3))]) 21 (fun L => [])) := by
    intro k
    induction k with
    | zero => exact ⟨fun L σ r h => (by cases h), fun L σ r h => (by cases h), fun L σ r h => (by cases h), fun L σ r h => (by cases h)⟩
    | succ k ih =>
      refine ⟨?_, ?_, ?_, ?_⟩
      · intro L σ r h H locs ls hP hD hS hl
        rw [y_X1_markRow__z26] at h
        refine lv_iconst (v := 0) hx hb dX1_markRow_0 (by decide) ?_
        refine lv_istore_n (lv' := [(3, .int 0), (0, .ref (a 0)), (1, .ref (z 26)), (2, .int (L.1 2))]) hx hb dX1_markRow_1 rfl hl (by decide) rfl (fun ls hl => ?_)
        exact ih.2.1 (lI L 3 0) σ r h H locs ls hP hD hS (lv_sub hl [1, 2, 3, 0] rfl)
      · intro L σ r h H locs ls hP hD hS hl
        rw [y_X1_markRow__z26] at h
        refine lv_iload_n hx hb dX1_markRow_2 rfl (lv_at hl 3 rfl) ?_
        refine lv_iload_n hx hb dX1_markRow_3 rfl (lv_at hl 2 rfl) ?_
        refine lv_icmp_ge (tgt := 27) hx hb dX1_markRow_4 (by decide) (fun c1 => ?_) (fun c1 => ?_)
        · rw [if_pos c1] at h
          exact ih.2.2.1 L σ r h H locs ls hP hD hS (lv_sub hl [] rfl)
        · rw [if_neg c1] at h
          refine lv_aload_n hx hb dX1_markRow_7 rfl (lv_at hl 1 rfl) ?_
          refine lv_iload_n hx hb dX1_markRow_8 rfl (lv_at hl 3 rfl) ?_
          obtain ⟨q2, h⟩ := kb_ite1 h
          refine hl_26 hx hb hK hP q2 dX1_markRow_9 ?_
          refine lv_iconst (v := 3) hx hb dX1_markRow_10 (by decide) ?_
          refine lv_icmp_lt (tgt := 21) hx hb dX1_markRow_11 (by decide) (fun c3 => ?_) (fun c3 => ?_)
          · rw [if_pos c3] at h
            exact ih.2.2.2 L σ r h H locs ls hP hD hS (lv_sub hl [0, 1, 2, 3] rfl)
          · rw [if_neg c3] at h
            refine lv_aload_n hx hb dX1_markRow_14 rfl (lv_at hl 0 rfl) ?_
            refine lv_aload_n hx hb dX1_markRow_15 rfl (lv_at hl 1 rfl) ?_
            refine lv_iload_n hx hb dX1_markRow_16 rfl (lv_at hl 3 rfl) ?_
            obtain ⟨q4, h⟩ := kb_ite1 h
            refine hl_26 hx hb hK hP q4 dX1_markRow_17 ?_
            obtain ⟨r5, hc5, h⟩ := oc_ex h
            refine kc_v (va_runV (As := [.int (σ.2.2.1 26 ((L.1 3)).toNatClampNeg)]) (rest := []) ⟨hx, hb, hml, hown, hts⟩ (c_y_X1_markCell l dC dI cy a z k (lI lZ 1 ((σ.2.2.1 26 ((L.1 3)).toNatClampNeg))) σ r5 hc5 H.size) (cwV 1 hts g_y_X1_markRow__z26_X1_markCell_V85 rfl rfl rfl hd_y_X1_markCell ⟨Nat.le_of_ble_eq_true rfl, Nat.le_of_ble_eq_true rfl⟩) ⟨nb_blind, va_recv hK hP (ci := 1) (q0 := 0) rfl rfl, (kb_pre hK hG hP hD)⟩ rfl rfl hl.1 rfl (lv_room (Nat.le_of_ble_eq_true rfl)) dX1_markRow_18 ⟨Nat.le_refl _, Nat.le_refl _⟩) hA hP hD hS (fun H locs hP hD hS => ?_)
            exact ih.2.2.2 L r5.2 r h H locs ls hP hD hS (lv_sub hl [0, 1, 2, 3] rfl)
      · intro L σ r h H locs ls hP hD hS hl
        rw [y_X1_markRow__z26] at h
        obtain rfl := Option.some.inj h
        exact W.vret hx hb hr (fun t ht hW => ⟨⟨(), rfl, trivial, by rw [ht]; exact hP, va_K.moved hW.alike hK, hD⟩, hS.F ht⟩) hS.2.2 dX1_markRow_27
      · intro L σ r h H locs ls hP hD hS hl
        rw [y_X1_markRow__z26] at h
        refine lv_iinc (v := ((L.1 3)) + 1) (lv' := [(3, .int (((L.1 3)) + 1)), (0, .ref (a 0)), (1, .ref (z 26)), (2, .int (L.1 2))]) hx hb dX1_markRow_21 hl (k := 3) rfl rfl (by decide) rfl (fun ls hl => ?_)
        refine lv_goto (tgt := 2) hx hb dX1_markRow_24 (by decide) ?_
        exact ih.2.1 (lI L 3 ((((L.1 3)) + 1))) σ r h H locs ls hP hD hS (lv_sub hl [1, 2, 3, 0] rfl)
  exact (blk k0).1 L0 σ0 r0 h0 s.heap [] ls hP hD hS hl
/-! X1_moveRow__z20 -/
def y_X1_moveRow__z20 : Nat → Nat → LV → CS → Option (Int32 × CS)
  | 0, _, _, _ => none
  | k + 1, 0, L, σ => y_X1_moveRow__z20 k 1 (lI L 3 0) σ
  | k + 1, 1, L, σ => if ((L.1 2)) ≤ ((L.1 3)) then (y_X1_moveRow__z20 k 2 L σ) else (if ¬ (((L.1 3)) < 0 ∨ (sN σ 20) ≤ ((L.1 3)).toNatClampNeg) then (if ((σ.2.2.1 20 ((L.1 3)).toNatClampNeg)) < 3 then (y_X1_moveRow__z20 k 3 L σ) else (if ¬ (((L.1 3)) < 0 ∨ (sN σ 20) ≤ ((L.1 3)).toNatClampNeg) then (oc (y_X1_placeOf k 0 (lI lZ 1 ((σ.2.2.1 20 ((L.1 3)).toNatClampNeg))) σ) (fun r5 => if ¬ (((L.1 3)) < 0 ∨ (sN r5.2 20) ≤ ((L.1 3)).toNatClampNeg) then (y_X1_moveRow__z20 k 3 L (uA r5.2 20 ((L.1 3)).toNatClampNeg r5.1)) else none)) else none)) else none)
  | k + 1, 2, L, σ => some (0, σ)
  | k + 1, 3, L, σ => y_X1_moveRow__z20 k 1 (lI L 3 ((((L.1 3)) + 1))) σ
  | _ + 1, _ + 4, _, _ => none
def o_y_X1_moveRow__z20 : List Cond := [.methodLink RX1 94 yX1_placeOf, .instanceMethod yX1_placeOf, .selects RX1 yX1_placeOf yX1_placeOf, .initialized RX1]
theorem o_y_X1_moveRow__z20_good : o_y_X1_moveRow__z20.all goodWord = true := by decide +kernel
def p_y_X1_moveRow__z20 : List Cond := o_y_X1_moveRow__z20 ++ ((.code yX1_placeOf cX1_placeOf 2 (some .int) :: p_y_X1_placeOf) ++ [])
theorem p_y_X1_moveRow__z20_good : p_y_X1_moveRow__z20.all goodWord = true := nb_all2 o_y_X1_moveRow__z20_good (nb_all2 (nb_allc (by decide +kernel) p_y_X1_placeOf_good) rfl)
def w_y_X1_moveRow__z20 : List Cond := .code yX1_moveRow cX1_moveRow 4 none :: (p_y_X1_moveRow__z20 ++ fC)
theorem w_y_X1_moveRow__z20_good : w_y_X1_moveRow__z20.all goodWord = true := nb_allc (by decide +kernel) (nb_all2 p_y_X1_moveRow__z20_good fC_good)
theorem hd_y_X1_moveRow__z20 : yX1_moveRow.cls = RX1 ∧ yX1_moveRow.cls ≠ "java/lang/invoke/MethodHandle" ∧ yX1_moveRow.cls ≠ "java/lang/invoke/VarHandle" ∧ (parseMethodDescriptor yX1_moveRow.desc).map (fun d => d.parameters.length) = some 2 := by decide +kernel
theorem gg_y_X1_moveRow__z20_X1_placeOf : GoodIn w_y_X1_moveRow__z20 w_y_X1_placeOf := goodIn_sub (fun w h => (List.mem_cons.mp h).elim (fun e => (List.mem_cons_of_mem _ (List.mem_append_left _ (List.mem_append_right _ (List.mem_append_left _ (List.mem_cons.mpr (Or.inl e))))))) (fun h => (List.mem_append.mp h).elim (fun h => (List.mem_cons_of_mem _ (List.mem_append_left _ (List.mem_append_right _ (List.mem_append_left _ (List.mem_cons_of_mem _ h)))))) (fun h => List.mem_cons_of_mem _ (List.mem_append_right _ h)))) w_y_X1_placeOf_good
theorem g_y_X1_moveRow__z20_X1_placeOf_V94 : GoodIn w_y_X1_moveRow__z20 (wsV RX1 94 RX1 yX1_placeOf w_y_X1_placeOf) := goodIn_app (nb_g4 (List.mem_cons_of_mem _ (List.mem_append_left _ (List.mem_append_left _ (List.mem_of_getElem? (i := 0) rfl)))) (List.mem_cons_of_mem _ (List.mem_append_left _ (List.mem_append_left _ (List.mem_of_getElem? (i := 1) rfl)))) (List.mem_cons_of_mem _ (List.mem_append_left _ (List.mem_append_left _ (List.mem_of_getElem? (i := 2) rfl)))) (List.mem_cons_of_mem _ (List.mem_append_left _ (List.mem_append_left _ (List.mem_of_getElem? (i := 3) rfl)))) (by decide +kernel)) gg_y_X1_moveRow__z20_X1_placeOf
set_option maxHeartbeats 40000000 in
set_option maxRecDepth 100000 in
theorem c_y_X1_moveRow__z20 (l : Launch) (dC : Nat → ClassId) (dI : Nat → Nat → Nat) (cy : Nat → ClassId) (a z : Nat → Nat) (k0 : Nat) (L0 : LV) (σ0 : CS) (r0 : Int32 × CS) (h0 : y_X1_moveRow__z20 k0 0 L0 σ0 = some r0) (sz : Nat) : Met l yX1_moveRow w_y_X1_moveRow__z20 ({ frames := 2, cells := 0, slots := 0, locals := 41 }) (va_Pc [.ref (a 0), .ref (z 20), .int (L0.1 2)] (nIn (dC, dI) cy sz (vC cy a z σ0))) (va_Qv (fun _ : Unit => True) (fun _ t => nOut (dC, dI) cy (va_A (vC cy a z σ0) sz) (vC cy a z r0.2) t) (va_A (vC cy a z σ0) sz)) 0 0 (va_A (vC cy a z σ0) sz) := by
  refine Met.ofW (cc := cX1_moveRow) (maxL := 4) (ret := none) (by decide) rfl ?_
  intro p e s m args below meth c s₁ B hml hv
  obtain ⟨rfl, hsz, hP, hK, hD0, hG⟩ := hv
  have hx := B.exec
  have hb := B.bytes
  have hr := B.returns
  have hts := atoms_spec (ws := w_y_X1_moveRow__z20) B.pre
  have hown : s.vm.findClass RX1 = some m.cls := findClass_of_methodNamed B.named
  have hlocks := B.notSynchronized
  subst hsz
  have hD := hD0.self (sz := s.heap.size)
  generalize hAe : va_A (vC cy a z σ0) s.heap.size = A at hD ⊢
  have hA : ∀ q : Nat, s.heap.size ≤ q → A q := fun q h => by rw [← hAe]; exact Or.inr h
  have hS : va_S A s.heap s.heap [] := va_S.rf
  have hl := lv_entry ([.ref (a 0), .ref (z 20), .int (L0.1 2)]) (n := 4) (Nat.le_of_ble_eq_true rfl)
  rw [lg_entry_eq]
  generalize (lg_sl ([.ref (a 0), .ref (z 20), .int (L0.1 2)]) ++ List.replicate (4 - (lg_sl ([.ref (a 0), .ref (z 20), .int (L0.1 2)])).length) Slot.unset).toArray = ls at hl ⊢
  have hl : lv_has ls 4 [(0, .ref (a 0)), (1, .ref (z 20)), (2, .int (L0.1 2))] := hl
  have blk : ∀ k : Nat, (bC p l e (headSpec w_y_X1_moveRow__z20 ({ frames := 2, cells := 0, slots := 0, locals := 41 })).room s m #[.ref (a 0), .ref (z 20), .int (L0.1 2)] below meth c dC dI cy a z A (kV dC dI cy a z A below #[.ref (a 0), .ref (z 20), .int (L0.1 2)] s) 4 (y_X1_moveRow__z20 k 0) (fun L => [(0, .ref (a 0)), (1, .ref (z 20)), (2, .int (L.1 2))]) 0 (fun L => [])) ∧ (bC p l e (headSpec w_y_X1_moveRow__z20 ({ frames := 2, cells := 0, slots := 0, locals := 41 })).room s m #[.ref (a 0), .ref (z 20), .int (L0.1 2)] below meth c dC dI cy a z A (kV dC dI cy a z A below #[.ref (a 0), .ref (z 20), .int (L0.1 2)] s) 4 (y_X1_moveRow__z20 k 1) (fun L => [(0, .ref (a 0)), (1, .ref (z 20)), (2, .int (L.1 2)), (3, .int (L.1 3))]) 2 (fun L => [])) ∧ (bC p l e (headSpec w_y_X1_moveRow__z20 ({ frames := 2, cells := 0, slots := 0, locals := 41 })).room s m #[.ref (a 0), .ref (z 20), .int (L0.1 2)] below meth c dC dI cy a z A (kV dC dI cy a z A below #[.ref (a 0), .ref (z 20), .int (L0.1 2)] s) 4 (y_X1_moveRow__z20 k 2) (fun L => []) 30 (fun L => [])) ∧ (bC p l e (headSpec w_y_X1_moveRow__z20 ({ frames := 2, cells := 0, slots := 0, locals := 41 })).room s m #[.ref (a 0), .ref (z 20), .int (L0.1 2)] below meth c dC dI cy a z A (kV dC dI cy a z A below #[.ref (a 0), .ref (z 20), .int (L0.1 2)] s) 4 (y_X1_moveRow__z20 k 3) (fun L => [(0, .ref (a 0)), (1, .ref (z 20)), (2, .int (L.1 2)), (3, .int (L.1 3))]) 24 (fun L => [])) := by
    intro k
    induction k with
    | zero => exact ⟨fun L σ r h => (by cases h), fun L σ r h => (by cases h), fun L σ r h => (by cases h), fun L σ r h => (by cases h)⟩
    | succ k ih =>
      refine ⟨?_, ?_, ?_, ?_⟩
      · intro L σ r h H locs ls hP hD hS hl
        rw [y_X1_moveRow__z20] at h
        refine lv_iconst (v := 0) hx hb dX1_moveRow_0 (by decide) ?_
        refine lv_istore_n (lv' := [(3, .int 0), (0, .ref (a 0)), (1, .ref (z 20)), (2, .int (L.1 2))]) hx hb dX1_moveRow_1 rfl hl (by decide) rfl (fun ls hl => ?_)
        exact ih.2.1 (lI L 3 0) σ r h H locs ls hP hD hS (lv_sub hl [1, 2, 3, 0] rfl)
      · intro L σ r h H locs ls hP hD hS hl
        rw [y_X1_moveRow__z20] at h
        refine lv_iload_n hx hb dX1_moveRow_2 rfl (lv_at hl 3 rfl) ?_
        refine lv_iload_n hx hb dX1_moveRow_3 rfl (lv_at hl 2 rfl) ?_
        refine lv_icmp_ge (tgt := 30) hx hb dX1_moveRow_4 (by decide) (fun c1 => ?_) (fun c1 => ?_)
        · rw [if_pos c1] at h
          exact ih.2.2.1 L σ r h H locs ls hP hD hS (lv_sub hl [] rfl)
        · rw [if_neg c1] at h
          refine lv_aload_n hx hb dX1_moveRow_7 rfl (lv_at hl 1 rfl) ?_
          refine lv_iload_n hx hb dX1_moveRow_8 rfl (lv_at hl 3 rfl) ?_
          obtain ⟨q2, h⟩ := kb_ite1 h
          refine hl_20 hx hb hK hP q2 dX1_moveRow_9 ?_
          refine lv_iconst (v := 3) hx hb dX1_moveRow_10 (by decide) ?_
          refine lv_icmp_lt (tgt := 24) hx hb dX1_moveRow_11 (by decide) (fun c3 => ?_) (fun c3 => ?_)
          · rw [if_pos c3] at h
            exact ih.2.2.2 L σ r h H locs ls hP hD hS (lv_sub hl [0, 1, 2, 3] rfl)
          · rw [if_neg c3] at h
            refine lv_aload_n hx hb dX1_moveRow_14 rfl (lv_at hl 1 rfl) ?_
            refine lv_iload_n hx hb dX1_moveRow_15 rfl (lv_at hl 3 rfl) ?_
            refine lv_aload_n hx hb dX1_moveRow_16 rfl (lv_at hl 0 rfl) ?_
            refine lv_aload_n hx hb dX1_moveRow_17 rfl (lv_at hl 1 rfl) ?_
            refine lv_iload_n hx hb dX1_moveRow_18 rfl (lv_at hl 3 rfl) ?_
            obtain ⟨q4, h⟩ := kb_ite1 h
            refine hl_20 hx hb hK hP q4 dX1_moveRow_19 ?_
            obtain ⟨r5, hc5, h⟩ := oc_ex h
            refine kc_i (va_runV (As := [.int (σ.2.2.1 20 ((L.1 3)).toNatClampNeg)]) (rest := [.int (L.1 3), .ref (z 20)]) ⟨hx, hb, hml, hown, hts⟩ (c_y_X1_placeOf l dC dI cy a z k (lI lZ 1 ((σ.2.2.1 20 ((L.1 3)).toNatClampNeg))) σ r5 hc5 H.size) (cwV 1 hts g_y_X1_moveRow__z20_X1_placeOf_V94 rfl rfl rfl hd_y_X1_placeOf ⟨Nat.le_of_ble_eq_true rfl, Nat.le_of_ble_eq_true rfl⟩) ⟨nb_blind, va_recv hK hP (ci := 1) (q0 := 0) rfl rfl, (kb_pre hK hG hP hD)⟩ rfl rfl hl.1 rfl (lv_room (Nat.le_of_ble_eq_true rfl)) dX1_moveRow_20 ⟨Nat.le_refl _, Nat.le_refl _⟩) hA hP hD hS (fun H locs hP hD hS => ?_)
            obtain ⟨q6, h⟩ := kb_ite1 h
            refine hs_20 hx hb hK hP hD hS q6 dX1_moveRow_23 (fun H locs hP hD hS => ?_)
            exact ih.2.2.2 L (uA r5.2 20 ((L.1 3)).toNatClampNeg r5.1) r h H locs ls hP hD hS (lv_sub hl [0, 1, 2, 3] rfl)
      · intro L σ r h H locs ls hP hD hS hl
        rw [y_X1_moveRow__z20] at h
        obtain rfl := Option.some.inj h
        exact W.vret hx hb hr (fun t ht hW => ⟨⟨(), rfl, trivial, by rw [ht]; exact hP, va_K.moved hW.alike hK, hD⟩, hS.F ht⟩) hS.2.2 dX1_moveRow_30
      · intro L σ r h H locs ls hP hD hS hl
        rw [y_X1_moveRow__z20] at h
        refine lv_iinc (v := ((L.1 3)) + 1) (lv' := [(3, .int (((L.1 3)) + 1)), (0, .ref (a 0)), (1, .ref (z 20)), (2, .int (L.1 2))]) hx hb dX1_moveRow_24 hl (k := 3) rfl rfl (by decide) rfl (fun ls hl => ?_)
        refine lv_goto (tgt := 2) hx hb dX1_moveRow_27 (by decide) ?_
        exact ih.2.1 (lI L 3 ((((L.1 3)) + 1))) σ r h H locs ls hP hD hS (lv_sub hl [1, 2, 3, 0] rfl)
  exact (blk k0).1 L0 σ0 r0 h0 s.heap [] ls hP hD hS hl
/-! X1_moveRow__a23 -/
def y_X1_moveRow__a23 : Nat → Nat → LV → CS → Option (Int32 × CS)
  | 0, _, _, _ => none
  | k + 1, 0, L, σ => y_X1_moveRow__a23 k 1 (lI L 3 0) σ
  | k + 1, 1, L, σ => if ((L.1 2)) ≤ ((L.1 3)) then (y_X1_moveRow__a23 k 2 L σ) else (if ¬ (((L.1 3)) < 0 ∨ 3780 ≤ ((L.1 3)).toNatClampNeg) then (if ((σ.2.2.1 23 ((L.1 3)).toNatClampNeg)) < 3 then (y_X1_moveRow__a23 k 3 L σ) else (if ¬ (((L.1 3)) < 0 ∨ 3780 ≤ ((L.1 3)).toNatClampNeg) then (oc (y_X1_placeOf k 0 (lI lZ 1 ((σ.2.2.1 23 ((L.1 3)).toNatClampNeg))) σ) (fun r5 => if ¬ (((L.1 3)) < 0 ∨ 3780 ≤ ((L.1 3)).toNatClampNeg) then (y_X1_moveRow__a23 k 3 L (uA r5.2 23 ((L.1 3)).toNatClampNeg r5.1)) else none)) else none)) else none)
  | k + 1, 2, L, σ => some (0, σ)
  | k + 1, 3, L, σ => y_X1_moveRow__a23 k 1 (lI L 3 ((((L.1 3)) + 1))) σ
  | _ + 1, _ + 4, _, _ => none
def o_y_X1_moveRow__a23 : List Cond := [.methodLink RX1 94 yX1_placeOf, .instanceMethod yX1_placeOf, .selects RX1 yX1_placeOf yX1_placeOf, .initialized RX1]
theorem o_y_X1_moveRow__a23_good : o_y_X1_moveRow__a23.all goodWord = true := by decide +kernel
def p_y_X1_moveRow__a23 : List Cond := o_y_X1_moveRow__a23 ++ ((.code yX1_placeOf cX1_placeOf 2 (some .int) :: p_y_X1_placeOf) ++ [])
theorem p_y_X1_moveRow__a23_good : p_y_X1_moveRow__a23.all goodWord = true := nb_all2 o_y_X1_moveRow__a23_good (nb_all2 (nb_allc (by decide +kernel) p_y_X1_placeOf_good) rfl)
def w_y_X1_moveRow__a23 : List Cond := .code yX1_moveRow cX1_moveRow 4 none :: (p_y_X1_moveRow__a23 ++ fC)
theorem w_y_X1_moveRow__a23_good : w_y_X1_moveRow__a23.all goodWord = true := nb_allc (by decide +kernel) (nb_all2 p_y_X1_moveRow__a23_good fC_good)
theorem hd_y_X1_moveRow__a23 : yX1_moveRow.cls = RX1 ∧ yX1_moveRow.cls ≠ "java/lang/invoke/MethodHandle" ∧ yX1_moveRow.cls ≠ "java/lang/invoke/VarHandle" ∧ (parseMethodDescriptor yX1_moveRow.desc).map (fun d => d.parameters.length) = some 2 := by decide +kernel
theorem gg_y_X1_moveRow__a23_X1_placeOf : GoodIn w_y_X1_moveRow__a23 w_y_X1_placeOf := goodIn_sub (fun w h => (List.mem_cons.mp h).elim (fun e => (List.mem_cons_of_mem _ (List.mem_append_left _ (List.mem_append_right _ (List.mem_append_left _ (List.mem_cons.mpr (Or.inl e))))))) (fun h => (List.mem_append.mp h).elim (fun h => (List.mem_cons_of_mem _ (List.mem_append_left _ (List.mem_append_right _ (List.mem_append_left _ (List.mem_cons_of_mem _ h)))))) (fun h => List.mem_cons_of_mem _ (List.mem_append_right _ h)))) w_y_X1_placeOf_good
theorem g_y_X1_moveRow__a23_X1_placeOf_V94 : GoodIn w_y_X1_moveRow__a23 (wsV RX1 94 RX1 yX1_placeOf w_y_X1_placeOf) := goodIn_app (nb_g4 (List.mem_cons_of_mem _ (List.mem_append_left _ (List.mem_append_left _ (List.mem_of_getElem? (i := 0) rfl)))) (List.mem_cons_of_mem _ (List.mem_append_left _ (List.mem_append_left _ (List.mem_of_getElem? (i := 1) rfl)))) (List.mem_cons_of_mem _ (List.mem_append_left _ (List.mem_append_left _ (List.mem_of_getElem? (i := 2) rfl)))) (List.mem_cons_of_mem _ (List.mem_append_left _ (List.mem_append_left _ (List.mem_of_getElem? (i := 3) rfl)))) (by decide +kernel)) gg_y_X1_moveRow__a23_X1_placeOf
set_option maxHeartbeats 40000000 in
set_option maxRecDepth 100000 in
theorem c_y_X1_moveRow__a23 (l : Launch) (dC : Nat → ClassId) (dI : Nat → Nat → Nat) (cy : Nat → ClassId) (a z : Nat → Nat) (k0 : Nat) (L0 : LV) (σ0 : CS) (r0 : Int32 × CS) (h0 : y_X1_moveRow__a23 k0 0 L0 σ0 = some r0) (sz : Nat) : Met l yX1_moveRow w_y_X1_moveRow__a23 ({ frames := 2, cells := 0, slots := 0, locals := 41 }) (va_Pc [.ref (a 0), .ref (a 23), .int (L0.1 2)] (nIn (dC, dI) cy sz (vC cy a z σ0))) (va_Qv (fun _ : Unit => True) (fun _ t => nOut (dC, dI) cy (va_A (vC cy a z σ0) sz) (vC cy a z r0.2) t) (va_A (vC cy a z σ0) sz)) 0 0 (va_A (vC cy a z σ0) sz) := by
  refine Met.ofW (cc := cX1_moveRow) (maxL := 4) (ret := none) (by decide) rfl ?_
  intro p e s m args below meth c s₁ B hml hv
  obtain ⟨rfl, hsz, hP, hK, hD0, hG⟩ := hv
  have hx := B.exec
  have hb := B.bytes
  have hr := B.returns
  have hts := atoms_spec (ws := w_y_X1_moveRow__a23) B.pre
  have hown : s.vm.findClass RX1 = some m.cls := findClass_of_methodNamed B.named
  have hlocks := B.notSynchronized
  subst hsz
  have hD := hD0.self (sz := s.heap.size)
  generalize hAe : va_A (vC cy a z σ0) s.heap.size = A at hD ⊢
  have hA : ∀ q : Nat, s.heap.size ≤ q → A q := fun q h => by rw [← hAe]; exact Or.inr h
  have hS : va_S A s.heap s.heap [] := va_S.rf
  have hl := lv_entry ([.ref (a 0), .ref (a 23), .int (L0.1 2)]) (n := 4) (Nat.le_of_ble_eq_true rfl)
  rw [lg_entry_eq]
  generalize (lg_sl ([.ref (a 0), .ref (a 23), .int (L0.1 2)]) ++ List.replicate (4 - (lg_sl ([.ref (a 0), .ref (a 23), .int (L0.1 2)])).length) Slot.unset).toArray = ls at hl ⊢
  have hl : lv_has ls 4 [(0, .ref (a 0)), (1, .ref (a 23)), (2, .int (L0.1 2))] := hl
  have blk : ∀ k : Nat, (bC p l e (headSpec w_y_X1_moveRow__a23 ({ frames := 2, cells := 0, slots := 0, locals := 41 })).room s m #[.ref (a 0), .ref (a 23), .int (L0.1 2)] below meth c dC dI cy a z A (kV dC dI cy a z A below #[.ref (a 0), .ref (a 23), .int (L0.1 2)] s) 4 (y_X1_moveRow__a23 k 0) (fun L => [(0, .ref (a 0)), (1, .ref (a 23)), (2, .int (L.1 2))]) 0 (fun L => [])) ∧ (bC p l e (headSpec w_y_X1_moveRow__a23 ({ frames := 2, cells := 0, slots := 0, locals := 41 })).room s m #[.ref (a 0), .ref (a 23), .int (L0.1 2)] below meth c dC dI cy a z A (kV dC dI cy a z A below #[.ref (a 0), .ref (a 23), .int (L0.1 2)] s) 4 (y_X1_moveRow__a23 k 1) (fun L => [(0, .ref (a 0)), (1, .ref (a 23)), (2, .int (L.1 2)), (3, .int (L.1 3))]) 2 (fun L => [])) ∧ (bC p l e (headSpec w_y_X1_moveRow__a23 ({ frames := 2, cells := 0, slots := 0, locals := 41 })).room s m #[.ref (a 0), .ref (a 23), .int (L0.1 2)] below meth c dC dI cy a z A (kV dC dI cy a z A below #[.ref (a 0), .ref (a 23), .int (L0.1 2)] s) 4 (y_X1_moveRow__a23 k 2) (fun L => []) 30 (fun L => [])) ∧ (bC p l e (headSpec w_y_X1_moveRow__a23 ({ frames := 2, cells := 0, slots := 0, locals := 41 })).room s m #[.ref (a 0), .ref (a 23), .int (L0.1 2)] below meth c dC dI cy a z A (kV dC dI cy a z A below #[.ref (a 0), .ref (a 23), .int (L0.1 2)] s) 4 (y_X1_moveRow__a23 k 3) (fun L => [(0, .ref (a 0)), (1, .ref (a 23)), (2, .int (L.1 2)), (3, .int (L.1 3))]) 24 (fun L => [])) := by
    intro k
    induction k with
    | zero => exact ⟨fun L σ r h => (by cases h), fun L σ r h => (by cases h), fun L σ r h => (by cases h), fun L σ r h => (by cases h)⟩
    | succ k ih =>
      refine ⟨?_, ?_, ?_, ?_⟩
      · intro L σ r h H locs ls hP hD hS hl
        rw [y_X1_moveRow__a23] at h
        refine lv_iconst (v := 0) hx hb dX1_moveRow_0 (by decide) ?_
        refine lv_istore_n (lv' := [(3, .int 0), (0, .ref (a 0)), (1, .ref (a 23)), (2, .int (L.1 2))]) hx hb dX1_moveRow_1 rfl hl (by decide) rfl (fun ls hl => ?_)
        exact ih.2.1 (lI L 3 0) σ r h H locs ls hP hD hS (lv_sub hl [1, 2, 3, 0] rfl)
      · intro L σ r h H locs ls hP hD hS hl
        rw [y_X1_moveRow__a23] at h
        refine lv_iload_n hx hb dX1_moveRow_2 rfl (lv_at hl 3 rfl) ?_
        refine lv_iload_n hx hb dX1_moveRow_3 rfl (lv_at hl 2 rfl) ?_
        refine lv_icmp_ge (tgt := 30) hx hb dX1_moveRow_4 (by decide) (fun c1 => ?_) (fun c1 => ?_)
        · rw [if_pos c1] at h
          exact ih.2.2.1 L σ r h H locs ls hP hD hS (lv_sub hl [] rfl)
        · rw [if_neg c1] at h
          refine lv_aload_n hx hb dX1_moveRow_7 rfl (lv_at hl 1 rfl) ?_
          refine lv_iload_n hx hb dX1_moveRow_8 rfl (lv_at hl 3 rfl) ?_
          obtain ⟨q2, h⟩ := kb_ite1 h
          refine hl_23 hx hb hK hP q2 dX1_moveRow_9 ?_
          refine lv_iconst (v := 3) hx hb dX1_moveRow_10 (by decide) ?_
          refine lv_icmp_lt (tgt := 24) hx hb dX1_moveRow_11 (by decide) (fun c3 => ?_) (fun c3 => ?_)
          · rw [if_pos c3] at h
            exact ih.2.2.2 L σ r h H locs ls hP hD hS (lv_sub hl [0, 1, 2, 3] rfl)
          · rw [if_neg c3] at h
            refine lv_aload_n hx hb dX1_moveRow_14 rfl (lv_at hl 1 rfl) ?_
            refine lv_iload_n hx hb dX1_moveRow_15 rfl (lv_at hl 3 rfl) ?_
            refine lv_aload_n hx hb dX1_moveRow_16 rfl (lv_at hl 0 rfl) ?_
            refine lv_aload_n hx hb dX1_moveRow_17 rfl (lv_at hl 1 rfl) ?_
            refine lv_iload_n hx hb dX1_moveRow_18 rfl (lv_at hl 3 rfl) ?_
            obtain ⟨q4, h⟩ := kb_ite1 h
            refine hl_23 hx hb hK hP q4 dX1_moveRow_19 ?_
            obtain ⟨r5, hc5, h⟩ := oc_ex h
            refine kc_i (va_runV (As := [.int (σ.2.2.1 23 ((L.1 3)).toNatClampNeg)]) (rest := [.int (L.1 3), .ref (a 23)]) ⟨hx, hb, hml, hown, hts⟩ (c_y_X1_placeOf l dC dI cy a z k (lI lZ 1 ((σ.2.2.1 23 ((L.1 3)).toNatClampNeg))) σ r5 hc5 H.size) (cwV 1 hts g_y_X1_moveRow__a23_X1_placeOf_V94 rfl rfl rfl hd_y_X1_placeOf ⟨Nat.le_of_ble_eq_true rfl, Nat.le_of_ble_eq_true rfl⟩) ⟨nb_blind, va_recv hK hP (ci := 1) (q0 := 0) rfl rfl, (kb_pre hK hG hP hD)⟩ rfl rfl hl.1 rfl (lv_room (Nat.le_of_ble_eq_true rfl)) dX1_moveRow_20 ⟨Nat.le_refl _, Nat.le_refl _⟩) hA hP hD hS (fun H locs hP hD hS => ?_)
            obtain ⟨q6, h⟩ := kb_ite1 h
            refine hs_23 hx hb hK hP hD hS q6 dX1_moveRow_23 (fun H locs hP hD hS => ?_)
            exact ih.2.2.2 L (uA r5.2 23 ((L.1 3)).toNatClampNeg r5.1) r h H locs ls hP hD hS (lv_sub hl [0, 1, 2, 3] rfl)
      · intro L σ r h H locs ls hP hD hS hl
        rw [y_X1_moveRow__a23] at h
        obtain rfl := Option.some.inj h
        exact W.vret hx hb hr (fun t ht hW => ⟨⟨(), rfl, trivial, by rw [ht]; exact hP, va_K.moved hW.alike hK, hD⟩, hS.F ht⟩) hS.2.2 dX1_moveRow_30
      · intro L σ r h H locs ls hP hD hS hl
        rw [y_X1_moveRow__a23] at h
        refine lv_iinc (v := ((L.1 3)) + 1) (lv' := [(3, .int (((L.1 3)) + 1)), (0, .ref (a 0)), (1, .ref (a 23)), (2, .int (L.1 2))]) hx hb dX1_moveRow_24 hl (k := 3) rfl rfl (by decide) rfl (fun ls hl => ?_)
        refine lv_goto (tgt := 2) hx hb dX1_moveRow_27 (by decide) ?_
        exact ih.2.1 (lI L 3 ((((L.1 3)) + 1))) σ r h H locs ls hP hD hS (lv_sub hl [1, 2, 3, 0] rfl)
  exact (blk k0).1 L0 σ0 r0 h0 s.heap [] ls hP hD hS hl
/-! X1_moveRow__z21 -/
def y_X1_moveRow__z21 : Nat → Nat → LV → CS → Option (Int32 × CS)
  | 0, _, _, _ => none
  | k + 1, 0, L, σ => y_X1_moveRow__z21 k 1 (lI L 3 0) σ
  | k + 1, 1, L, σ => if ((L.1 2)) ≤ ((L.1 3)) then (y_X1_moveRow__z21 k 2 L σ) else (if ¬ (((L.1 3)) < 0 ∨ (sN σ 21) ≤ ((L.1 3)).toNatClampNeg) then (if ((σ.2.2.1 21 ((L.1 3)).toNatClampNeg)) < 3 then (y_X1_moveRow__z21 k 3 L σ) else (if ¬ (((L.1 3)) < 0 ∨ (sN σ 21) ≤ ((L.1 3)).toNatClampNeg) then (oc (y_X1_placeOf k 0 (lI lZ 1 ((σ.2.2.1 21 ((L.1 3)).toNatClampNeg))) σ) (fun r5 => if ¬ (((L.1 3)) < 0 ∨ (sN r5.2 21) ≤ ((L.1 3)).toNatClampNeg) then (y_X1_moveRow__z21 k 3 L (uA r5.2 21 ((L.1 3)).toNatClampNeg r5.1)) else none)) else none)) else none)
  | k + 1, 2, L, σ => some (0, σ)
  | k + 1, 3, L, σ => y_X1_moveRow__z21 k 1 (lI L 3 ((((L.1 3)) + 1))) σ
  | _ + 1, _ + 4, _, _ => none
def o_y_X1_moveRow__z21 : List Cond := [.methodLink RX1 94 yX1_placeOf, .instanceMethod yX1_placeOf, .selects RX1 yX1_placeOf yX1_placeOf, .initialized RX1]
theorem o_y_X1_moveRow__z21_good : o_y_X1_moveRow__z21.all goodWord = true := by decide +kernel
def p_y_X1_moveRow__z21 : List Cond := o_y_X1_moveRow__z21 ++ ((.code yX1_placeOf cX1_placeOf 2 (some .int) :: p_y_X1_placeOf) ++ [])
theorem p_y_X1_moveRow__z21_good : p_y_X1_moveRow__z21.all goodWord = true := nb_all2 o_y_X1_moveRow__z21_good (nb_all2 (nb_allc (by decide +kernel) p_y_X1_placeOf_good) rfl)
def w_y_X1_moveRow__z21 : List Cond := .code yX1_moveRow cX1_moveRow 4 none :: (p_y_X1_moveRow__z21 ++ fC)
theorem w_y_X1_moveRow__z21_good : w_y_X1_moveRow__z21.all goodWord = true := nb_allc (by decide +kernel) (nb_all2 p_y_X1_moveRow__z21_good fC_good)
theorem hd_y_X1_moveRow__z21 : yX1_moveRow.cls = RX1 ∧ yX1_moveRow.cls ≠ "java/lang/invoke/MethodHandle" ∧ yX1_moveRow.cls ≠ "java/lang/invoke/VarHandle" ∧ (parseMethodDescriptor yX1_moveRow.desc).map (fun d => d.parameters.length) = some 2 := by decide +kernel
theorem gg_y_X1_moveRow__z21_X1_placeOf : GoodIn w_y_X1_moveRow__z21 w_y_X1_placeOf := goodIn_sub (fun w h => (List.mem_cons.mp h).elim (fun e => (List.mem_cons_of_mem _ (List.mem_append_left _ (List.mem_append_right _ (List.mem_append_left _ (List.mem_cons.mpr (Or.inl e))))))) (fun h => (List.mem_append.mp h).elim (fun h => (List.mem_cons_of_mem _ (List.mem_append_left _ (List.mem_append_right _ (List.mem_append_left _ (List.mem_cons_of_mem _ h)))))) (fun h => List.mem_cons_of_mem _ (List.mem_append_right _ h)))) w_y_X1_placeOf_good
theorem g_y_X1_moveRow__z21_X1_placeOf_V94 : GoodIn w_y_X1_moveRow__z21 (wsV RX1 94 RX1 yX1_placeOf w_y_X1_placeOf) := goodIn_app (nb_g4 (List.mem_cons_of_mem _ (List.mem_append_left _ (List.mem_append_left _ (List.mem_of_getElem? (i := 0) rfl)))) (List.mem_cons_of_mem _ (List.mem_append_left _ (List.mem_append_left _ (List.mem_of_getElem? (i := 1) rfl)))) (List.mem_cons_of_mem _ (List.mem_append_left _ (List.mem_append_left _ (List.mem_of_getElem? (i := 2) rfl)))) (List.mem_cons_of_mem _ (List.mem_append_left _ (List.mem_append_left _ (List.mem_of_getElem? (i := 3) rfl)))) (by decide +kernel)) gg_y_X1_moveRow__z21_X1_placeOf
set_option maxHeartbeats 40000000 in
set_option maxRecDepth 100000 in
theorem c_y_X1_moveRow__z21 (l : Launch) (dC : Nat → ClassId) (dI : Nat → Nat → Nat) (cy : Nat → ClassId) (a z : Nat → Nat) (k0 : Nat) (L0 : LV) (σ0 : CS) (r0 : Int32 × CS) (h0 : y_X1_moveRow__z21 k0 0 L0 σ0 = some r0) (sz : Nat) : Met l yX1_moveRow w_y_X1_moveRow__z21 ({ frames := 2, cells := 0, slots := 0, locals := 41 }) (va_Pc [.ref (a 0), .ref (z 21), .int (L0.1 2)] (nIn (dC, dI) cy sz (vC cy a z σ0))) (va_Qv (fun _ : Unit => True) (fun _ t => nOut (dC, dI) cy (va_A (vC cy a z σ0) sz) (vC cy a z r0.2) t) (va_A (vC cy a z σ0) sz)) 0 0 (va_A (vC cy a z σ0) sz) := by
  refine Met.ofW (cc := cX1_moveRow) (maxL := 4) (ret := none) (by decide) rfl ?_
  intro p e s m args below meth c s₁ B hml hv
  obtain ⟨rfl, hsz, hP, hK, hD0, hG⟩ := hv
  have hx := B.exec
  have hb := B.bytes
  have hr := B.returns
  have hts := atoms_spec (ws := w_y_X1_moveRow__z21) B.pre
  have hown : s.vm.findClass RX1 = some m.cls := findClass_of_methodNamed B.named
  have hlocks := B.notSynchronized
  subst hsz
  have hD := hD0.self (sz := s.heap.size)
  generalize hAe : va_A (vC cy a z σ0) s.heap.size = A at hD ⊢
  have hA : ∀ q : Nat, s.heap.size ≤ q → A q := fun q h => by rw [← hAe]; exact Or.inr h
  have hS : va_S A s.heap s.heap [] := va_S.rf
  have hl := lv_entry ([.ref (a 0), .ref (z 21), .int (L0.1 2)]) (n := 4) (Nat.le_of_ble_eq_true rfl)
  rw [lg_entry_eq]
  generalize (lg_sl ([.ref (a 0), .ref (z 21), .int (L0.1 2)]) ++ List.replicate (4 - (lg_sl ([.ref (a 0), .ref (z 21), .int (L0.1 2)])).length) Slot.unset).toArray = ls at hl ⊢
  have hl : lv_has ls 4 [(0, .ref (a 0)), (1, .ref (z 21)), (2, .int (L0.1 2))] := hl
  have blk : ∀ k : Nat, (bC p l e (headSpec w_y_X1_moveRow__z21 ({ frames := 2, cells := 0, slots := 0, locals := 41 })).room s m #[.ref (a 0), .ref (z 21), .int (L0.1 2)] below meth c dC dI cy a z A (kV dC dI cy a z A below #[.ref (a 0), .ref (z 21), .int (L0.1 2)] s) 4 (y_X1_moveRow__z21 k 0) (fun L => [(0, .ref (a 0)), (1, .ref (z 21)), (2, .int (L.1 2))]) 0 (fun L => [])) ∧ (bC p l e (headSpec w_y_X1_moveRow__z21 ({ frames := 2, cells := 0, slots := 0, locals := 41 })).room s m #[.ref (a 0), .ref (z 21), .int (L0.1 2)] below meth c dC dI cy a z A (kV dC dI cy a z A below #[.ref (a 0), .ref (z 21), .int (L0.1 2)] s) 4 (y_X1_moveRow__z21 k 1) (fun L => [(0, .ref (a 0)), (1, .ref (z 21)), (2, .int (L.1 2)), (3, .int (L.1 3))]) 2 (fun L => [])) ∧ (bC p l e (headSpec w_y_X1_moveRow__z21 ({ frames := 2, cells := 0, slots := 0, locals := 41 })).room s m #[.ref (a 0), .ref (z 21), .int (L0.1 2)] below meth c dC dI cy a z A (kV dC dI cy a z A below #[.ref (a 0), .ref (z 21), .int (L0.1 2)] s) 4 (y_X1_moveRow__z21 k 2) (fun L => []) 30 (fun L => [])) ∧ (bC p l e (headSpec w_y_X1_moveRow__z21 ({ frames := 2, cells := 0, slots := 0, locals := 41 })).room s m #[.ref (a 0), .ref (z 21), .int (L0.1 2)] below meth c dC dI cy a z A (kV dC dI cy a z A below #[.ref (a 0), .ref (z 21), .int (L0.1 2)] s) 4 (y_X1_moveRow__z21 k 3) (fun L => [(0, .ref (a 0)), (1, .ref (z 21)), (2, .int (L.1 2)), (3, .int (L.1 3))]) 24 (fun L => [])) := by
    intro k
    induction k with
    | zero => exact ⟨fun L σ r h => (by cases h), fun L σ r h => (by cases h), fun L σ r h => (by cases h), fun L σ r h => (by cases h)⟩
    | succ k ih =>
      refine ⟨?_, ?_, ?_, ?_⟩
      · intro L σ r h H locs ls hP hD hS hl
        rw [y_X1_moveRow__z21] at h
        refine lv_iconst (v := 0) hx hb dX1_moveRow_0 (by decide) ?_
        refine lv_istore_n (lv' := [(3, .int 0), (0, .ref (a 0)), (1, .ref (z 21)), (2, .int (L.1 2))]) hx hb dX1_moveRow_1 rfl hl (by decide) rfl (fun ls hl => ?_)
        exact ih.2.1 (lI L 3 0) σ r h H locs ls hP hD hS (lv_sub hl [1, 2, 3, 0] rfl)
      · intro L σ r h H locs ls hP hD hS hl
        rw [y_X1_moveRow__z21] at h
        refine lv_iload_n hx hb dX1_moveRow_2 rfl (lv_at hl 3 rfl) ?_
        refine lv_iload_n hx hb dX1_moveRow_3 rfl (lv_at hl 2 rfl) ?_
        refine lv_icmp_ge (tgt := 30) hx hb dX1_moveRow_4 (by decide) (fun c1 => ?_) (fun c1 => ?_)
        · rw [if_pos c1] at h
          exact ih.2.2.1 L σ r h H locs ls hP hD hS (lv_sub hl [] rfl)
        · rw [if_neg c1] at h
          refine lv_aload_n hx hb dX1_moveRow_7 rfl (lv_at hl 1 rfl) ?_
          refine lv_iload_n hx hb dX1_moveRow_8 rfl (lv_at hl 3 rfl) ?_
          obtain ⟨q2, h⟩ := kb_ite1 h
          refine hl_21 hx hb hK hP q2 dX1_moveRow_9 ?_
          refine lv_iconst (v := 3) hx hb dX1_moveRow_10 (by decide) ?_
          refine lv_icmp_lt (tgt := 24) hx hb dX1_moveRow_11 (by decide) (fun c3 => ?_) (fun c3 => ?_)
          · rw [if_pos c3] at h
            exact ih.2.2.2 L σ r h H locs ls hP hD hS (lv_sub hl [0, 1, 2, 3] rfl)
          · rw [if_neg c3] at h
            refine lv_aload_n hx hb dX1_moveRow_14 rfl (lv_at hl 1 rfl) ?_
            refine lv_iload_n hx hb dX1_moveRow_15 rfl (lv_at hl 3 rfl) ?_
            refine lv_aload_n hx hb dX1_moveRow_16 rfl (lv_at hl 0 rfl) ?_
            refine lv_aload_n hx hb dX1_moveRow_17 rfl (lv_at hl 1 rfl) ?_
            refine lv_iload_n hx hb dX1_moveRow_18 rfl (lv_at hl 3 rfl) ?_
            obtain ⟨q4, h⟩ := kb_ite1 h
            refine hl_21 hx hb hK hP q4 dX1_moveRow_19 ?_
            obtain ⟨r5, hc5, h⟩ := oc_ex h
            refine kc_i (va_runV (As := [.int (σ.2.2.1 21 ((L.1 3)).toNatClampNeg)]) (rest := [.int (L.1 3), .ref (z 21)]) ⟨hx, hb, hml, hown, hts⟩ (c_y_X1_placeOf l dC dI cy a z k (lI lZ 1 ((σ.2.2.1 21 ((L.1 3)).toNatClampNeg))) σ r5 hc5 H.size) (cwV 1 hts g_y_X1_moveRow__z21_X1_placeOf_V94 rfl rfl rfl hd_y_X1_placeOf ⟨Nat.le_of_ble_eq_true rfl, Nat.le_of_ble_eq_true rfl⟩) ⟨nb_blind, va_recv hK hP (ci := 1) (q0 := 0) rfl rfl, (kb_pre hK hG hP hD)⟩ rfl rfl hl.1 rfl (lv_room (Nat.le_of_ble_eq_true rfl)) dX1_moveRow_20 ⟨Nat.le_refl _, Nat.le_refl _⟩) hA hP hD hS (fun H locs hP hD hS => ?_)
            obtain ⟨q6, h⟩ := kb_ite1 h
            refine hs_21 hx hb hK hP hD hS q6 dX1_moveRow_23 (fun H locs hP hD hS => ?_)
            exact ih.2.2.2 L (uA r5.2 21 ((L.1 3)).toNatClampNeg r5.1) r h H locs ls hP hD hS (lv_sub hl [0, 1, 2, 3] rfl)
      · intro L σ r h H locs ls hP hD hS hl
        rw [y_X1_moveRow__z21] at h
        obtain rfl := Option.some.inj h
        exact W.vret hx hb hr (fun t ht hW => ⟨⟨(), rfl, trivial, by rw [ht]; exact hP, va_K.moved hW.alike hK, hD⟩, hS.F ht⟩) hS.2.2 dX1_moveRow_30
      · intro L σ r h H locs ls hP hD hS hl
        rw [y_X1_moveRow__z21] at h
        refine lv_iinc (v := ((L.1 3)) + 1) (lv' := [(3, .int (((L.1 3)) + 1)), (0, .ref (a 0)), (1, .ref (z 21)), (2, .int (L.1 2))]) hx hb dX1_moveRow_24 hl (k := 3) rfl rfl (by decide) rfl (fun ls hl => ?_)
        refine lv_goto (tgt := 2) hx hb dX1_moveRow_27 (by decide) ?_
        exact ih.2.1 (lI L 3 ((((L.1 3)) + 1))) σ r h H locs ls hP hD hS (lv_sub hl [1, 2, 3, 0] rfl)
  exact (blk k0).1 L0 σ0 r0 h0 s.heap [] ls hP hD hS hl
/-! X1_moveRow__a67 -/
def y_X1_moveRow__a67 : Nat → Nat → LV → CS → Option (Int32 × CS)
  | 0, _, _, _ => none
  | k + 1, 0, L, σ => y_X1_moveRow__a67 k 1 (lI L 3 0) σ
  | k + 1, 1, L, σ => if ((L.1 2)) ≤ ((L.1 3)) then (y_X1_moveRow__a67 k 2 L σ) else (if ¬ (((L.1 3)) < 0 ∨ 27 ≤ ((L.1 3)).toNatClampNeg) then (if ((σ.2.2.1 67 ((L.1 3)).toNatClampNeg)) < 3 then (y_X1_moveRow__a67 k 3 L σ) else (if ¬ (((L.1 3)) < 0 ∨ 27 ≤ ((L.1 3)).toNatClampNeg) then (oc (y_X1_placeOf k 0 (lI lZ 1 ((σ.2.2.1 67 ((L.1 3)).toNatClampNeg))) σ) (fun r5 => if ¬ (((L.1 3)) < 0 ∨ 27 ≤ ((L.1 3)).toNatClampNeg) then (y_X1_moveRow__a67 k 3 L (uA r5.2 67 ((L.1 3)).toNatClampNeg r5.1)) else none)) else none)) else none)
  | k + 1, 2, L, σ => some (0, σ)
  | k + 1, 3, L, σ => y_X1_moveRow__a67 k 1 (lI L 3 ((((L.1 3)) + 1))) σ
  | _ + 1, _ + 4, _, _ => none
def o_y_X1_moveRow__a67 : List Cond := [.methodLink RX1 94 yX1_placeOf, .instanceMethod yX1_placeOf, .selects RX1 yX1_placeOf yX1_placeOf, .initialized RX1]
theorem o_y_X1_moveRow__a67_good : o_y_X1_moveRow__a67.all goodWord = true := by decide +kernel
def p_y_X1_moveRow__a67 : List Cond := o_y_X1_moveRow__a67 ++ ((.code yX1_placeOf cX1_placeOf 2 (some .int) :: p_y_X1_placeOf) ++ [])
theorem p_y_X1_moveRow__a67_good : p_y_X1_moveRow__a67.all goodWord = true := nb_all2 o_y_X1_moveRow__a67_good (nb_all2 (nb_allc (by decide +kernel) p_y_X1_placeOf_good) rfl)
def w_y_X1_moveRow__a67 : List Cond := .code yX1_moveRow cX1_moveRow 4 none :: (p_y_X1_moveRow__a67 ++ fC)
theorem w_y_X1_moveRow__a67_good : w_y_X1_moveRow__a67.all goodWord = true := nb_allc (by decide +kernel) (nb_all2 p_y_X1_moveRow__a67_good fC_good)
theorem hd_y_X1_moveRow__a67 : yX1_moveRow.cls = RX1 ∧ yX1_moveRow.cls ≠ "java/lang/invoke/MethodHandle" ∧ yX1_moveRow.cls ≠ "java/lang/invoke/VarHandle" ∧ (parseMethodDescriptor yX1_moveRow.desc).map (fun d => d.parameters.length) = some 2 := by decide +kernel
theorem gg_y_X1_moveRow__a67_X1_placeOf : GoodIn w_y_X1_moveRow__a67 w_y_X1_placeOf := goodIn_sub (fun w h => (List.mem_cons.mp h).elim (fun e => (List.mem_cons_of_mem _ (List.mem_append_left _ (List.mem_append_right _ (List.mem_append_left _ (List.mem_cons.mpr (Or.inl e))))))) (fun h => (List.mem_append.mp h).elim (fun h => (List.mem_cons_of_mem _ (List.mem_append_left _ (List.mem_append_right _ (List.mem_append_left _ (List.mem_cons_of_mem _ h)))))) (fun h => List.mem_cons_of_mem _ (List.mem_append_right _ h)))) w_y_X1_placeOf_good
theorem g_y_X1_moveRow__a67_X1_placeOf_V94 : GoodIn w_y_X1_moveRow__a67 (wsV RX1 94 RX1 yX1_placeOf w_y_X1_placeOf) := goodIn_app (nb_g4 (List.mem_cons_of_mem _ (List.mem_append_left _ (List.mem_append_left _ (List.mem_of_getElem? (i := 0) rfl)))) (List.mem_cons_of_mem _ (List.mem_append_left _ (List.mem_append_left _ (List.mem_of_getElem? (i := 1) rfl)))) (List.mem_cons_of_mem _ (List.mem_append_left _ (List.mem_append_left _ (List.mem_of_getElem? (i := 2) rfl)))) (List.mem_cons_of_mem _ (List.mem_append_left _ (List.mem_append_left _ (List.mem_of_getElem? (i := 3) rfl)))) (by decide +kernel)) gg_y_X1_moveRow__a67_X1_placeOf
set_option maxHeartbeats 40000000 in
set_option maxRecDepth 100000 in
theorem c_y_X1_moveRow__a67 (l : Launch) (dC : Nat → ClassId) (dI : Nat → Nat → Nat) (cy : Nat → ClassId) (a z : Nat → Nat) (k0 : Nat) (L0 : LV) (σ0 : CS) (r0 : Int32 × CS) (h0 : y_X1_moveRow__a67 k0 0 L0 σ0 = some r0) (sz : Nat) : Met l yX1_moveRow w_y_X1_moveRow__a67 ({ frames := 2, cells := 0, slots := 0, locals := 41 }) (va_Pc [.ref (a 0), .ref (a 67), .int (L0.1 2)] (nIn (dC, dI) cy sz (vC cy a z σ0))) (va_Qv (fun _ : Unit => True) (fun _ t => nOut (dC, dI) cy (va_A (vC cy a z σ0) sz) (vC cy a z r0.2) t) (va_A (vC cy a z σ0) sz)) 0 0 (va_A (vC cy a z σ0) sz) := by
  refine Met.ofW (cc := cX1_moveRow) (maxL := 4) (ret := none) (by decide) rfl ?_
  intro p e s m args below meth c s₁ B hml hv
  obtain ⟨rfl, hsz, hP, hK, hD0, hG⟩ := hv
  have hx := B.exec
  have hb := B.bytes
  have hr := B.returns
  have hts := atoms_spec (ws := w_y_X1_moveRow__a67) B.pre
  have hown : s.vm.findClass RX1 = some m.cls := findClass_of_methodNamed B.named
  have hlocks := B.notSynchronized
  subst hsz
  have hD := hD0.self (sz := s.heap.size)
  generalize hAe : va_A (vC cy a z σ0) s.heap.size = A at hD ⊢
  have hA : ∀ q : Nat, s.heap.size ≤ q → A q := fun q h => by rw [← hAe]; exact Or.inr h
  have hS : va_S A s.heap s.heap [] := va_S.rf
  have hl := lv_entry ([.ref (a 0), .ref (a 67), .int (L0.1 2)]) (n := 4) (Nat.le_of_ble_eq_true rfl)
  rw [lg_entry_eq]
  generalize (lg_sl ([.ref (a 0), .ref (a 67), .int (L0.1 2)]) ++ List.replicate (4 - (lg_sl ([.ref (a 0), .ref (a 67), .int (L0.1 2)])).length) Slot.unset).toArray = ls at hl ⊢
  have hl : lv_has ls 4 [(0, .ref (a 0)), (1, .ref (a 67)), (2, .int (L0.1 2))] := hl
  have blk : ∀ k : Nat, (bC p l e (headSpec w_y_X1_moveRow__a67 ({ frames := 2, cells := 0, slots := 0, locals := 41 })).room s m #[.ref (a 0), .ref (a 67), .int (L0.1 2)] below meth c dC dI cy a z A (kV dC dI cy a z A below #[.ref (a 0), .ref (a 67), .int (L0.1 2)] s) 4 (y_X1_moveRow__a67 k 0) (fun L => [(0, .ref (a 0)), (1, .ref (a 67)), (2, .int (L.1 2))]) 0 (fun L => [])) ∧ (bC p l e (headSpec w_y_X1_moveRow__a67 ({ frames := 2, cells := 0, slots := 0, locals := 41 })).room s m #[.ref (a 0), .ref (a 67), .int (L0.1 2)] below meth c dC dI cy a z A (kV dC dI cy a z A below #[.ref (a 0), .ref (a 67), .int (L0.1 2)] s) 4 (y_X1_moveRow__a67 k 1) (fun L => [(0, .ref (a 0)), (1, .ref (a 67)), (2, .int (L.1 2)), (3, .int (L.1 3))]) 2 (fun L => [])) ∧ (bC p l e (headSpec w_y_X1_moveRow__a67 ({ frames := 2, cells := 0, slots := 0, locals := 41 })).room s m #[.ref (a 0), .ref (a 67), .int (L0.1 2)] below meth c dC dI cy a z A (kV dC dI cy a z A below #[.ref (a 0), .ref (a 67), .int (L0.1 2)] s) 4 (y_X1_moveRow__a67 k 2) (fun L => []) 30 (fun L => [])) ∧ (bC p l e (headSpec w_y_X1_moveRow__a67 ({ frames := 2, cells := 0, slots := 0, locals := 41 })).room s m #[.ref (a 0), .ref (a 67), .int (L0.1 2)] below meth c dC dI cy a z A (kV dC dI cy a z A below #[.ref (a 0), .ref (a 67), .int (L0.1 2)] s) 4 (y_X1_moveRow__a67 k 3) (fun L => [(0, .ref (a 0)), (1, .ref (a 67)), (2, .int (L.1 2)), (3, .int (L.1 3))]) 24 (fun L => [])) := by
    intro k
    induction k with
    | zero => exact ⟨fun L σ r h => (by cases h), fun L σ r h => (by cases h), fun L σ r h => (by cases h), fun L σ r h => (by cases h)⟩
    | succ k ih =>
      refine ⟨?_, ?_, ?_, ?_⟩
      · intro L σ r h H locs ls hP hD hS hl
        rw [y_X1_moveRow__a67] at h
        refine lv_iconst (v := 0) hx hb dX1_moveRow_0 (by decide) ?_
        refine lv_istore_n (lv' := [(3, .int 0), (0, .ref (a 0)), (1, .ref (a 67)), (2, .int (L.1 2))]) hx hb dX1_moveRow_1 rfl hl (by decide) rfl (fun ls hl => ?_)
        exact ih.2.1 (lI L 3 0) σ r h H locs ls hP hD hS (lv_sub hl [1, 2, 3, 0] rfl)
      · intro L σ r h H locs ls hP hD hS hl
        rw [y_X1_moveRow__a67] at h
        refine lv_iload_n hx hb dX1_moveRow_2 rfl (lv_at hl 3 rfl) ?_
        refine lv_iload_n hx hb dX1_moveRow_3 rfl (lv_at hl 2 rfl) ?_
        refine lv_icmp_ge (tgt := 30) hx hb dX1_moveRow_4 (by decide) (fun c1 => ?_) (fun c1 => ?_)
        · rw [if_pos c1] at h
          exact ih.2.2.1 L σ r h H locs ls hP hD hS (lv_sub hl [] rfl)
        · rw [if_neg c1] at h
          refine lv_aload_n hx hb dX1_moveRow_7 rfl (lv_at hl 1 rfl) ?_
          refine lv_iload_n hx hb dX1_moveRow_8 rfl (lv_at hl 3 rfl) ?_
          obtain ⟨q2, h⟩ := kb_ite1 h
          refine hl_67 hx hb hK hP q2 dX1_moveRow_9 ?_
          refine lv_iconst (v := 3) hx hb dX1_moveRow_10 (by decide) ?_
          refine lv_icmp_lt (tgt := 24) hx hb dX1_moveRow_11 (by decide) (fun c3 => ?_) (fun c3 => ?_)
          · rw [if_pos c3] at h
            exact ih.2.2.2 L σ r h H locs ls hP hD hS (lv_sub hl [0, 1, 2, 3] rfl)
          · rw [if_neg c3] at h
            refine lv_aload_n hx hb dX1_moveRow_14 rfl (lv_at hl 1 rfl) ?_
            refine lv_iload_n hx hb dX1_moveRow_15 rfl (lv_at hl 3 rfl) ?_
            refine lv_aload_n hx hb dX1_moveRow_16 rfl (lv_at hl 0 rfl) ?_
            refine lv_aload_n hx hb dX1_moveRow_17 rfl (lv_at hl 1 rfl) ?_
            refine lv_iload_n hx hb dX1_moveRow_18 rfl (lv_at hl 3 rfl) ?_
            obtain ⟨q4, h⟩ := kb_ite1 h
            refine hl_67 hx hb hK hP q4 dX1_moveRow_19 ?_
            obtain ⟨r5, hc5, h⟩ := oc_ex h
            refine kc_i (va_runV (As := [.int (σ.2.2.1 67 ((L.1 3)).toNatClampNeg)]) (rest := [.int (L.1 3), .ref (a 67)]) ⟨hx, hb, hml, hown, hts⟩ (c_y_X1_placeOf l dC dI cy a z k (lI lZ 1 ((σ.2.2.1 67 ((L.1 3)).toNatClampNeg))) σ r5 hc5 H.size) (cwV 1 hts g_y_X1_moveRow__a67_X1_placeOf_V94 rfl rfl rfl hd_y_X1_placeOf ⟨Nat.le_of_ble_eq_true rfl, Nat.le_of_ble_eq_true rfl⟩) ⟨nb_blind, va_recv hK hP (ci := 1) (q0 := 0) rfl rfl, (kb_pre hK hG hP hD)⟩ rfl rfl hl.1 rfl (lv_room (Nat.le_of_ble_eq_true rfl)) dX1_moveRow_20 ⟨Nat.le_refl _, Nat.le_refl _⟩) hA hP hD hS (fun H locs hP hD hS => ?_)
            obtain ⟨q6, h⟩ := kb_ite1 h
            refine hs_67 hx hb hK hP hD hS q6 dX1_moveRow_23 (fun H locs hP hD hS => ?_)
            exact ih.2.2.2 L (uA r5.2 67 ((L.1 3)).toNatClampNeg r5.1) r h H locs ls hP hD hS (lv_sub hl [0, 1, 2, 3] rfl)
      · intro L σ r h H locs ls hP hD hS hl
        rw [y_X1_moveRow__a67] at h
        obtain rfl := Option.some.inj h
        exact W.vret hx hb hr (fun t ht hW => ⟨⟨(), rfl, trivial, by rw [ht]; exact hP, va_K.moved hW.alike hK, hD⟩, hS.F ht⟩) hS.2.2 dX1_moveRow_30
      · intro L σ r h H locs ls hP hD hS hl
        rw [y_X1_moveRow__a67] at h
        refine lv_iinc (v := ((L.1 3)) + 1) (lv' := [(3, .int (((L.1 3)) + 1)), (0, .ref (a 0)), (1, .ref (a 67)), (2, .int (L.1 2))]) hx hb dX1_moveRow_24 hl (k := 3) rfl rfl (by decide) rfl (fun ls hl => ?_)
        refine lv_goto (tgt := 2) hx hb dX1_moveRow_27 (by decide) ?_
        exact ih.2.1 (lI L 3 ((((L.1 3)) + 1))) σ r h H locs ls hP hD hS (lv_sub hl [1, 2, 3, 0] rfl)
  exact (blk k0).1 L0 σ0 r0 h0 s.heap [] ls hP hD hS hl
/-! X1_moveRow__z26 -/
def y_X1_moveRow__z26 : Nat → Nat → LV → CS → Option (Int32 × CS)
  | 0, _, _, _ => none
  | k + 1, 0, L, σ => y_X1_moveRow__z26 k 1 (lI L 3 0) σ
  | k + 1, 1, L, σ => if ((L.1 2)) ≤ ((L.1 3)) then (y_X1_moveRow__z26 k 2 L σ) else (if ¬ (((L.1 3)) < 0 ∨ (sN σ 26) ≤ ((L.1 3)).toNatClampNeg) then (if ((σ.2.2.1 26 ((L.1 3)).toNatClampNeg)) < 3 then (y_X1_moveRow__z26 k 3 L σ) else (if ¬ (((L.1 3)) < 0 ∨ (sN σ 26) ≤ ((L.1 3)).toNatClampNeg) then (oc (y_X1_placeOf k 0 (lI lZ 1 ((σ.2.2.1 26 ((L.1 3)).toNatClampNeg))) σ) (fun r5 => if ¬ (((L.1 3)) < 0 ∨ (sN r5.2 26) ≤ ((L.1 3)).toNatClampNeg) then (y_X1_moveRow__z26 k 3 L (uA r5.2 26 ((L.1 3)).toNatClampNeg r5.1)) else none)) else none)) else none)
  | k + 1, 2, L, σ => some (0, σ)
  | k + 1, 3, L, σ => y_X1_moveRow__z26 k 1 (lI L 3 ((((L.1 3)) + 1))) σ
  | _ + 1, _ + 4, _, _ => none
def o_y_X1_moveRow__z26 : List Cond := [.methodLink RX1 94 yX1_placeOf, .instanceMethod yX1_placeOf, .selects RX1 yX1_placeOf yX1_placeOf, .initialized RX1]
theorem o_y_X1_moveRow__z26_good : o_y_X1_moveRow__z26.all goodWord = true := by decide +kernel
def p_y_X1_moveRow__z26 : List Cond := o_y_X1_moveRow__z26 ++ ((.code yX1_placeOf cX1_placeOf 2 (some .int) :: p_y_X1_placeOf) ++ [])
theorem p_y_X1_moveRow__z26_good : p_y_X1_moveRow__z26.all goodWord = true := nb_all2 o_y_X1_moveRow__z26_good (nb_all2 (nb_allc (by decide +kernel) p_y_X1_placeOf_good) rfl)
def w_y_X1_moveRow__z26 : List Cond := .code yX1_moveRow cX1_moveRow 4 none :: (p_y_X1_moveRow__z26 ++ fC)
theorem w_y_X1_moveRow__z26_good : w_y_X1_moveRow__z26.all goodWord = true := nb_allc (by decide +kernel) (nb_all2 p_y_X1_moveRow__z26_good fC_good)
theorem hd_y_X1_moveRow__z26 : yX1_moveRow.cls = RX1 ∧ yX1_moveRow.cls ≠ "java/lang/invoke/MethodHandle" ∧ yX1_moveRow.cls ≠ "java/lang/invoke/VarHandle" ∧ (parseMethodDescriptor yX1_moveRow.desc).map (fun d => d.parameters.length) = some 2 := by decide +kernel
theorem gg_y_X1_moveRow__z26_X1_placeOf : GoodIn w_y_X1_moveRow__z26 w_y_X1_placeOf := goodIn_sub (fun w h => (List.mem_cons.mp h).elim (fun e => (List.mem_cons_of_mem _ (List.mem_append_left _ (List.mem_append_right _ (List.mem_append_left _ (List.mem_cons.mpr (Or.inl e))))))) (fun h => (List.mem_append.mp h).elim (fun h => (List.mem_cons_of_mem _ (List.mem_append_left _ (List.mem_append_right _ (List.mem_append_left _ (List.mem_cons_of_mem _ h)))))) (fun h => List.mem_cons_of_mem _ (List.mem_append_right _ h)))) w_y_X1_placeOf_good
theorem g_y_X1_moveRow__z26_X1_placeOf_V94 : GoodIn w_y_X1_moveRow__z26 (wsV RX1 94 RX1 yX1_placeOf w_y_X1_placeOf) := goodIn_app (nb_g4 (List.mem_cons_of_mem _ (List.mem_append_left _ (List.mem_append_left _ (List.mem_of_getElem? (i := 0) rfl)))) (List.mem_cons_of_mem _ (List.mem_append_left _ (List.mem_append_left _ (List.mem_of_getElem? (i := 1) rfl)))) (List.mem_cons_of_mem _ (List.mem_append_left _ (List.mem_append_left _ (List.mem_of_getElem? (i := 2) rfl)))) (List.mem_cons_of_mem _ (List.mem_append_left _ (List.mem_append_left _ (List.mem_of_getElem? (i := 3) rfl)))) (by decide +kernel)) gg_y_X1_moveRow__z26_X1_placeOf
set_option maxHeartbeats 40000000 in
set_option maxRecDepth 100000 in
theorem c_y_X1_moveRow__z26 (l : Launch) (dC : Nat → ClassId) (dI : Nat → Nat → Nat) (cy : Nat → ClassId) (a z : Nat → Nat) (k0 : Nat) (L0 : LV) (σ0 : CS) (r0 : Int32 × CS) (h0 : y_X1_moveRow__z26 k0 0 L0 σ0 = some r0) (sz : Nat) : Met l yX1_moveRow w_y_X1_moveRow__z26 ({ frames := 2, cells := 0, slots := 0, locals := 41 }) (va_Pc [.ref (a 0), .ref (z 26), .int (L0.1 2)] (nIn (dC, dI) cy sz (vC cy a z σ0))) (va_Qv (fun _ : Unit => True) (fun _ t => nOut (dC, dI) cy (va_A (vC cy a z σ0) sz) (vC cy a z r0.2) t) (va_A (vC cy a z σ0) sz)) 0 0 (va_A (vC cy a z σ0) sz) := by
  refine Met.ofW (cc := cX1_moveRow) (maxL := 4) (ret := none) (by decide) rfl ?_
  intro p e s m args below meth c s₁ B hml hv
  obtain ⟨rfl, hsz, hP, hK, hD0, hG⟩ := hv
  have hx := B.exec
  have hb := B.bytes
  have hr := B.returns
  have hts := atoms_spec (ws := w_y_X1_moveRow__z26) B.pre
  have hown : s.vm.findClass RX1 = some m.cls := findClass_of_methodNamed B.named
  have hlocks := B.notSynchronized
  subst hsz
  have hD := hD0.self (sz := s.heap.size)
  generalize hAe : va_A (vC cy a z σ0) s.heap.size = A at hD ⊢
  have hA : ∀ q : Nat, s.heap.size ≤ q → A q := fun q h => by rw [← hAe]; exact Or.inr h
  have hS : va_S A s.heap s.heap [] := va_S.rf
  have hl := lv_entry ([.ref (a 0), .ref (z 26), .int (L0.1 2)]) (n := 4) (Nat.le_of_ble_eq_true rfl)
  rw [lg_entry_eq]
  generalize (lg_sl ([.ref (a 0), .ref (z 26), .int (L0.1 2)]) ++ List.replicate (4 - (lg_sl ([.ref (a 0), .ref (z 26), .int (L0.1 2)])).length) Slot.unset).toArray = ls at hl ⊢
  have hl : lv_has ls 4 [(0, .ref (a 0)), (1, .ref (z 26)), (2, .int (L0.1 2))] := hl
  have blk : ∀ k : Nat, (bC p l e (headSpec w_y_X1_moveRow__z26 ({ frames := 2, cells := 0, slots := 0, locals := 41 })).room s m #[.ref (a 0), .ref (z 26), .int (L0.1 2)] below meth c dC dI cy a z A (kV dC dI cy a z A below #[.ref (a 0), .ref (z 26), .int (L0.1 2)] s) 4 (y_X1_moveRow__z26 k 0) (fun L => [(0, .ref (a 0)), (1, .ref (z 26)), (2, .int (L.1 2))]) 0 (fun L => [])) ∧ (bC p l e (headSpec w_y_X1_moveRow__z26 ({ frames := 2, cells := 0, slots := 0, locals := 41 })).room s m #[.ref (a 0), .ref (z 26), .int (L0.1 2)] below meth c dC dI cy a z A (kV dC dI cy a z A below #[.ref (a 0), .ref (z 26), .int (L0.1 2)] s) 4 (y_X1_moveRow__z26 k 1) (fun L => [(0, .ref (a 0)), (1, .ref (z 26)), (2, .int (L.1 2)), (3, .int (L.1 3))]) 2 (fun L => [])) ∧ (bC p l e (headSpec w_y_X1_moveRow__z26 ({ frames := 2, cells := 0, slots := 0, locals := 41 })).room s m #[.ref (a 0), .ref (z 26), .int (L0.1 2)] below meth c dC dI cy a z A (kV dC dI cy a z A below #[.ref (a 0), .ref (z 26), .int (L0.1 2)] s) 4 (y_X1_moveRow__z26 k 2) (fun L => []) 30 (fun L => [])) ∧ (bC p l e (headSpec w_y_X1_moveRow__z26 ({ frames := 2, cells := 0, slots := 0, locals := 41 })).room s m #[.ref (a 0), .ref (z 26), .int (L0.1 2)] below meth c dC dI cy a z A (kV dC dI cy a z A below #[.ref (a 0), .ref (z 26), .int (L0.1 2)] s) 4 (y_X1_moveRow__z26 k 3) (fun L => [(0, .ref (a 0)), (1, .ref (z 26)), (2, .int (L.1 2)), (3, .int (L.1 3))]) 24 (fun L => [])) := by
    intro k
    induction k with
    | zero => exact ⟨fun L σ r h => (by cases h), fun L σ r h => (by cases h), fun L σ r h => (by cases h), fun L σ r h => (by cases h)⟩
    | succ k ih =>
      refine ⟨?_, ?_, ?_, ?_⟩
      · intro L σ r h H locs ls hP hD hS hl
        rw [y_X1_moveRow__z26] at h
        refine lv_iconst (v := 0) hx hb dX1_moveRow_0 (by decide) ?_
        refine lv_istore_n (lv' := [(3, .int 0), (0, .ref (a 0)), (1, .ref (z 26)), (2, .int (L.1 2))]) hx hb dX1_moveRow_1 rfl hl (by decide) rfl (fun ls hl => ?_)
        exact ih.2.1 (lI L 3 0) σ r h H locs ls hP hD hS (lv_sub hl [1, 2, 3, 0] rfl)
      · intro L σ r h H locs ls hP hD hS hl
        rw [y_X1_moveRow__z26] at h
        refine lv_iload_n hx hb dX1_moveRow_2 rfl (lv_at hl 3 rfl) ?_
        refine lv_iload_n hx hb dX1_moveRow_3 rfl (lv_at hl 2 rfl) ?_
        refine lv_icmp_ge (tgt := 30) hx hb dX1_moveRow_4 (by decide) (fun c1 => ?_) (fun c1 => ?_)
        · rw [if_pos c1] at h
          exact ih.2.2.1 L σ r h H locs ls hP hD hS (lv_sub hl [] rfl)
        · rw [if_neg c1] at h
          refine lv_aload_n hx hb dX1_moveRow_7 rfl (lv_at hl 1 rfl) ?_
          refine lv_iload_n hx hb dX1_moveRow_8 rfl (lv_at hl 3 rfl) ?_
          obtain ⟨q2, h⟩ := kb_ite1 h
          refine hl_26 hx hb hK hP q2 dX1_moveRow_9 ?_
          refine lv_iconst (v := 3) hx hb dX1_moveRow_10 (by decide) ?_
          refine lv_icmp_lt (tgt := 24) hx hb dX1_moveRow_11 (by decide) (fun c3 => ?_) (fun c3 => ?_)
          · rw [if_pos c3] at h
            exact ih.2.2.2 L σ r h H locs ls hP hD hS (lv_sub hl [0, 1, 2, 3] rfl)
          · rw [if_neg c3] at h
            refine lv_aload_n hx hb dX1_moveRow_14 rfl (lv_at hl 1 rfl) ?_
            refine lv_iload_n hx hb dX1_moveRow_15 rfl (lv_at hl 3 rfl) ?_
            refine lv_aload_n hx hb dX1_moveRow_16 rfl (lv_at hl 0 rfl) ?_
            refine lv_aload_n hx hb dX1_moveRow_17 rfl (lv_at hl 1 rfl) ?_
            refine lv_iload_n hx hb dX1_moveRow_18 rfl (lv_at hl 3 rfl) ?_
            obtain ⟨q4, h⟩ := kb_ite1 h
            refine hl_26 hx hb hK hP q4 dX1_moveRow_19 ?_
            obtain ⟨r5, hc5, h⟩ := oc_ex h
            refine kc_i (va_runV (As := [.int (σ.2.2.1 26 ((L.1 3)).toNatClampNeg)]) (rest := [.int (L.1 3), .ref (z 26)]) ⟨hx, hb, hml, hown, hts⟩ (c_y_X1_placeOf l dC dI cy a z k (lI lZ 1 ((σ.2.2.1 26 ((L.1 3)).toNatClampNeg))) σ r5 hc5 H.size) (cwV 1 hts g_y_X1_moveRow__z26_X1_placeOf_V94 rfl rfl rfl hd_y_X1_placeOf ⟨Nat.le_of_ble_eq_true rfl, Nat.le_of_ble_eq_true rfl⟩) ⟨nb_blind, va_recv hK hP (ci := 1) (q0 := 0) rfl rfl, (kb_pre hK hG hP hD)⟩ rfl rfl hl.1 rfl (lv_room (Nat.le_of_ble_eq_true rfl)) dX1_moveRow_20 ⟨Nat.le_refl _, Nat.le_refl _⟩) hA hP hD hS (fun H locs hP hD hS => ?_)
            obtain ⟨q6, h⟩ := kb_ite1 h
            refine hs_26 hx hb hK hP hD hS q6 dX1_moveRow_23 (fun H locs hP hD hS => ?_)
            exact ih.2.2.2 L (uA r5.2 26 ((L.1 3)).toNatClampNeg r5.1) r h H locs ls hP hD hS (lv_sub hl [0, 1, 2, 3] rfl)
      · intro L σ r h H locs ls hP hD hS hl
        rw [y_X1_moveRow__z26] at h
        obtain rfl := Option.some.inj h
        exact W.vret hx hb hr (fun t ht hW => ⟨⟨(), rfl, trivial, by rw [ht]; exact hP, va_K.moved hW.alike hK, hD⟩, hS.F ht⟩) hS.2.2 dX1_moveRow_30
      · intro L σ r h H locs ls hP hD hS hl
        rw [y_X1_moveRow__z26] at h
        refine lv_iinc (v := ((L.1 3)) + 1) (lv' := [(3, .int (((L.1 3)) + 1)), (0, .ref (a 0)), (1, .ref (z 26)), (2, .int (L.1 2))]) hx hb dX1_moveRow_24 hl (k := 3) rfl rfl (by decide) rfl (fun ls hl => ?_)
        refine lv_goto (tgt := 2) hx hb dX1_moveRow_27 (by decide) ?_
        exact ih.2.1 (lI L 3 ((((L.1 3)) + 1))) σ r h H locs ls hP hD hS (lv_sub hl [1, 2, 3, 0] rfl)
  exact (blk k0).1 L0 σ0 r0 h0 s.heap [] ls hP hD hS hl
/-! X3_moveAll -/
def y_X3_moveAll : Nat → Nat → LV → CS → Option (Int32 × CS)
  | 0, _, _, _ => none
  | k + 1, 0, L, σ => oc (y_X1_beginMarking k 0 lZ σ) (fun r1 => oc (y_X1_markRow__z20 k 0 (lI lZ 2 ((r1.2.1 1902))) r1.2) (fun r2 => oc (y_X1_markRow__a23 k 0 (lI lZ 2 ((Int32.ofNat 3780))) r2.2) (fun r3 => oc (y_X1_markRow__z21 k 0 (lI lZ 2 ((r3.2.1 1913))) r3.2) (fun r4 => oc (y_X1_markRow__a67 k 0 (lI lZ 2 ((Int32.ofNat 27))) r4.2) (fun r5 => oc (y_X9_used k 0 lZ r5.2) (fun r6 => oc (y_X1_markRow__z26 k 0 (lI lZ 2 r6.1) r6.2) (fun r7 => oc (y_X1_endMarking k 0 lZ r7.2) (fun r8 => oc (y_X1_moveRow__z20 k 0 (lI lZ 2 ((r8.2.1 1902))) r8.2) (fun r9 => oc (y_X1_moveRow__a23 k 0 (lI lZ 2 ((Int32.ofNat 3780))) r9.2) (fun r10 => oc (y_X1_moveRow__z21 k 0 (lI lZ 2 ((r10.2.1 1913))) r10.2) (fun r11 => oc (y_X1_moveRow__a67 k 0 (lI lZ 2 ((Int32.ofNat 27))) r11.2) (fun r12 => oc (y_X9_used k 0 lZ r12.2) (fun r13 => oc (y_X1_moveRow__z26 k 0 (lI lZ 2 r13.1) r13.2) (fun r14 => oc (y_X1_moveCells k 0 lZ r14.2) (fun r15 => some (0, r15.2))))))))))))))))
  | _ + 1, _ + 1, _, _ => none
def o_y_X3_moveAll : List Cond := [.fieldLink RX3 39 "SetHouse$Machine" "heap" "LSetHouse$Heap;", .methodLink RX3 210 yX1_beginMarking, .instanceMethod yX1_beginMarking, .selects RX1 yX1_beginMarking yX1_beginMarking, .initialized RX1, .fieldLink RX3 18 "SetHouse$Machine" "stack" "[I", .fieldLink RX3 14 "SetHouse$Machine" "run" "LSetHouse$Run;", .methodLink RX3 213 yX1_markRow, .instanceMethod yX1_markRow, .selects RX1 yX1_markRow yX1_markRow, .fieldLink RX3 29 "SetHouse$Machine" "passing" "[I", .fieldLink RX3 22 "SetHouse$Machine" "points" "[I", .fieldLink RX3 55 "SetHouse$Machine" "kept" "[I", .fieldLink RX3 35 "SetHouse$Machine" "saves" "LSetHouse$Saves;", .methodLink RX3 203 yX9_used, .instanceMethod yX9_used, .selects RX9 yX9_used yX9_used, .initialized RX9, .methodLink RX3 216 yX1_endMarking, .instanceMethod yX1_endMarking, .selects RX1 yX1_endMarking yX1_endMarking, .methodLink RX3 219 yX1_moveRow, .instanceMethod yX1_moveRow, .selects RX1 yX1_moveRow yX1_moveRow, .methodLink RX3 222 yX1_moveCells, .instanceMethod yX1_moveCells, .selects RX1 yX1_moveCells yX1_moveCells]
theorem o_y_X3_moveAll_good : o_y_X3_moveAll.all goodWord = true := by decide +kernel
def p_y_X3_moveAll : List Cond := o_y_X3_moveAll ++ ((.code yX1_beginMarking cX1_beginMarking 1 none :: p_y_X1_beginMarking) ++ ((.code yX1_markRow cX1_markRow 4 none :: p_y_X1_markRow__z20) ++ ((.code yX1_markRow cX1_markRow 4 none :: p_y_X1_markRow__a23) ++ ((.code yX1_markRow cX1_markRow 4 none :: p_y_X1_markRow__z21) ++ ((.code yX1_markRow cX1_markRow 4 none :: p_y_X1_markRow__a67) ++ ((.code yX9_used cX9_used 1 (some .int) :: p_y_X9_used) ++ ((.code yX1_markRow cX1_markRow 4 none :: p_y_X1_markRow__z26) ++ ((.code yX1_endMarking cX1_endMarking 3 none :: p_y_X1_endMarking) ++ ((.code yX1_moveRow cX1_moveRow 4 none :: p_y_X1_moveRow__z20) ++ ((.code yX1_moveRow cX1_moveRow 4 none :: p_y_X1_moveRow__a23) ++ ((.code yX1_moveRow cX1_moveRow 4 none :: p_y_X1_moveRow__z21) ++ ((.code yX1_moveRow cX1_moveRow 4 none :: p_y_X1_moveRow__a67) ++ ((.code yX1_moveRow cX1_moveRow 4 none :: p_y_X1_moveRow__z26) ++ ((.code yX1_moveCells cX1_moveCells 6 none :: p_y_X1_moveCells) ++ []))))))))))))))
theorem p_y_X3_moveAll_good : p_y_X3_moveAll.all goodWord = true := nb_all2 o_y_X3_moveAll_good (nb_all2 (nb_allc (by decide +kernel) p_y_X1_beginMarking_good) (nb_all2 (nb_allc (by decide +kernel) p_y_X1_markRow__z20_good) (nb_all2 (nb_allc (by decide +kernel) p_y_X1_markRow__a23_good) (nb_all2 (nb_allc (by decide +kernel) p_y_X1_markRow__z21_good) (nb_all2 (nb_allc (by decide +kernel) p_y_X1_markRow__a67_good) (nb_all2 (nb_allc (by decide +kernel) p_y_X9_used_good) (nb_all2 (nb_allc (by decide +kernel) p_y_X1_markRow__z26_good) (nb_all2 (nb_allc (by decide +kernel) p_y_X1_endMarking_good) (nb_all2 (nb_allc (by decide +kernel) p_y_X1_moveRow__z20_good) (nb_all2 (nb_allc (by decide +kernel) p_y_X1_moveRow__a23_good) (nb_all2 (nb_allc (by decide +kernel) p_y_X1_moveRow__z21_good) (nb_all2 (nb_allc (by decide +kernel) p_y_X1_moveRow__a67_good) (nb_all2 (nb_allc (by decide +kernel) p_y_X1_moveRow__z26_good) (nb_all2 (nb_allc (by decide +kernel) p_y_X1_moveCells_good) rfl))))))))))))))
def w_y_X3_moveAll : List Cond := .code yX3_moveAll cX3_moveAll 1 none :: (p_y_X3_moveAll ++ fC)
theorem w_y_X3_moveAll_good : w_y_X3_moveAll.all goodWord = true := nb_allc (by decide +kernel) (nb_all2 p_y_X3_moveAll_good fC_good)
theorem in_y_X3_moveAll_X3 : ∀ w ∈ wsX30, w ∈ w_y_X3_moveAll := fun _ h => List.mem_cons_of_mem _ (List.mem_append_right _ (List.mem_append_right _ (List.mem_append_right _ (List.mem_append_right _ (List.mem_append_left _ h)))))
theorem in_y_X3_moveAll_X8 : ∀ w ∈ wsX80, w ∈ w_y_X3_moveAll := fun _ h => List.mem_cons_of_mem _ (List.mem_append_right _ (List.mem_append_right _ (List.mem_append_right _ (List.mem_append_right _ (List.mem_append_right _ (List.mem_append_right _ (List.mem_append_right _ (List.mem_append_right _ (List.mem_append_left _ h)))))))))
theorem in_y_X3_moveAll_X9 : ∀ w ∈ wsX90, w ∈ w_y_X3_moveAll := fun _ h => List.mem_cons_of_mem _ (List.mem_append_right _ (List.mem_append_right _ (List.mem_append_right _ (List.mem_append_right _ (List.mem_append_right _ (List.mem_append_right _ (List.mem_append_right _ (List.mem_append_right _ (List.mem_append_right _ (List.mem_append_left _ h))))))))))
theorem hd_y_X3_moveAll : yX3_moveAll.cls = RX3 ∧ yX3_moveAll.cls ≠ "java/lang/invoke/MethodHandle" ∧ yX3_moveAll.cls ≠ "java/lang/invoke/VarHandle" ∧ (parseMethodDescriptor yX3_moveAll.desc).map (fun d => d.parameters.length) = some 0 := by decide +kernel
theorem gg_y_X3_moveAll_X1_beginMarking : GoodIn w_y_X3_moveAll w_y_X1_beginMarking := goodIn_sub (fun w h => (List.mem_cons.mp h).elim (fun e => (List.mem_cons_of_mem _ (List.mem_append_left _ (List.mem_append_right _ (List.mem_append_left _ (List.mem_cons.mpr (Or.inl e))))))) (fun h => (List.mem_append.mp h).elim (fun h => (List.mem_cons_of_mem _ (List.mem_append_left _ (List.mem_append_right _ (List.mem_append_left _ (List.mem_cons_of_mem _ h)))))) (fun h => List.mem_cons_of_mem _ (List.mem_append_right _ h)))) w_y_X1_beginMarking_good
theorem g_y_X3_moveAll_X1_beginMarking_V210 : GoodIn w_y_X3_moveAll (wsV RX3 210 RX1 yX1_beginMarking w_y_X1_beginMarking) := goodIn_app (nb_g4 (List.mem_cons_of_mem _ (List.mem_append_left _ (List.mem_append_left _ (List.mem_of_getElem? (i := 1) rfl)))) (List.mem_cons_of_mem _ (List.mem_append_left _ (List.mem_append_left _ (List.mem_of_getElem? (i := 2) rfl)))) (List.mem_cons_of_mem _ (List.mem_append_left _ (List.mem_append_left _ (List.mem_of_getElem? (i := 3) rfl)))) (List.mem_cons_of_mem _ (List.mem_append_left _ (List.mem_append_left _ (List.mem_of_getElem? (i := 4) rfl)))) (by decide +kernel)) gg_y_X3_moveAll_X1_beginMarking
theorem gg_y_X3_moveAll_X1_endMarking : GoodIn w_y_X3_moveAll w_y_X1_endMarking := goodIn_sub (fun w h => (List.mem_cons.mp h).elim (fun e => (List.mem_cons_of_mem _ (List.mem_append_left _ (List.mem_append_right _ (List.mem_append_right _ (List.mem_append_right _ (List.mem_append_right _ (List.mem_append_right _ (List.mem_append_right _ (List.mem_append_right _ (List.mem_append_right _ (List.mem_append_left _ (List.mem_cons.mpr (Or.inl e)))))))))))))) (fun h => (List.mem_append.mp h).elim (fun h => (List.mem_cons_of_mem _ (List.mem_append_left _ (List.mem_append_right _ (List.mem_append_right _ (List.mem_append_right _ (List.mem_append_right _ (List.mem_append_right _ (List.mem_append_right _ (List.mem_append_right _ (List.mem_append_right _ (List.mem_append_left _ (List.mem_cons_of_mem _ h))))))))))))) (fun h => List.mem_cons_of_mem _ (List.mem_append_right _ h)))) w_y_X1_endMarking_good
theorem g_y_X3_moveAll_X1_endMarking_V216 : GoodIn w_y_X3_moveAll (wsV RX3 216 RX1 yX1_endMarking w_y_X1_endMarking) := goodIn_app (nb_g4 (List.mem_cons_of_mem _ (List.mem_append_left _ (List.mem_append_left _ (List.mem_of_getElem? (i := 18) rfl)))) (List.mem_cons_of_mem _ (List.mem_append_left _ (List.mem_append_left _ (List.mem_of_getElem? (i := 19) rfl)))) (List.mem_cons_of_mem _ (List.mem_append_left _ (List.mem_append_left _ (List.mem_of_getElem? (i := 20) rfl)))) (List.mem_cons_of_mem _ (List.mem_append_left _ (List.mem_append_left _ (List.mem_of_getElem? (i := 4) rfl)))) (by decide +kernel)) gg_y_X3_moveAll_X1_endMarking
theorem gg_y_X3_moveAll_X1_markRow__a23 : GoodIn w_y_X3_moveAll w_y_X1_markRow__a23 := goodIn_sub (fun w h => (List.mem_cons.mp h).elim (fun e => (List.mem_cons_of_mem _ (List.mem_append_left _ (List.mem_append_right _ (List.mem_append_right _ (List.mem_append_right _ (List.mem_append_left _ (List.mem_cons.mpr (Or.inl e))))))))) (fun h => (List.mem_append.mp h).elim (fun h => (List.mem_cons_of_mem _ (List.mem_append_left _ (List.mem_append_right _ (List.mem_append_right _ (List.mem_append_right _ (List.mem_append_left _ (List.mem_cons_of_mem _ h)))))))) (fun h => List.mem_cons_of_mem _ (List.mem_append_right _ h)))) w_y_X1_markRow__a23_good
theorem g_y_X3_moveAll_X1_markRow__a23_V213 : GoodIn w_y_X3_moveAll (wsV RX3 213 RX1 yX1_markRow w_y_X1_markRow__a23) := goodIn_app (nb_g4 (List.mem_cons_of_mem _ (List.mem_append_left _ (List.mem_append_left _ (List.mem_of_getElem? (i := 7) rfl)))) (List.mem_cons_of_mem _ (List.mem_append_left _ (List.mem_append_left _ (List.mem_of_getElem? (i := 8) rfl)))) (List.mem_cons_of_mem _ (List.mem_append_left _ (List.mem_append_left _ (List.mem_of_getElem? (i := 9) rfl)))) (List.mem_cons_of_mem _ (List.mem_append_left _ (List.mem_append_left _ (List.mem_of_getElem? (i := 4) rfl)))) (by decide +kernel)) gg_y_X3_moveAll_X1_markRow__a23
theorem gg_y_X3_moveAll_X1_markRow__a67 : GoodIn w_y_X3_moveAll w_y_X1_markRow__a67 := goodIn_sub (fun w h => (List.mem_cons.mp h).elim (fun e => (List.mem_cons_of_mem _ (List.mem_append_left _ (List.mem_append_right _ (List.mem_append_right _ (List.mem_append_right _ (List.mem_append_right _ (List.mem_append_right _ (List.mem_append_left _ (List.mem_cons.mpr (Or.inl e))))))))))) (fun h => (List.mem_append.mp h).elim (fun h => (List.mem_cons_of_mem _ (List.mem_append_left _ (List.mem_append_right _ (List.mem_append_right _ (List.mem_append_right _ (List.mem_append_right _ (List.mem_append_right _ (List.mem_append_left _ (List.mem_cons_of_mem _ h)))))))))) (fun h => List.mem_cons_of_mem _ (List.mem_append_right _ h)))) w_y_X1_markRow__a67_good
theorem g_y_X3_moveAll_X1_markRow__a67_V213 : GoodIn w_y_X3_moveAll (wsV RX3 213 RX1 yX1_markRow w_y_X1_markRow__a67) := goodIn_app (nb_g4 (List.mem_cons_of_mem _ (List.mem_append_left _ (List.mem_append_left _ (List.mem_of_getElem? (i := 7) rfl)))) (List.mem_cons_of_mem _ (List.mem_append_left _ (List.mem_append_left _ (List.mem_of_getElem? (i := 8) rfl)))) (List.mem_cons_of_mem _ (List.mem_append_left _ (List.mem_append_left _ (List.mem_of_getElem? (i := 9) rfl)))) (List.mem_cons_of_mem _ (List.mem_append_left _ (List.mem_append_left _ (List.mem_of_getElem? (i := 4) rfl)))) (by decide +kernel)) gg_y_X3_moveAll_X1_markRow__a67
theorem gg_y_X3_moveAll_X1_markRow__z20 : GoodIn w_y_X3_moveAll w_y_X1_markRow__z20 := goodIn_sub (fun w h => (List.mem_cons.mp h).elim (fun e => (List.mem_cons_of_mem _ (List.mem_append_left _ (List.mem_append_right _ (List.mem_append_right _ (List.mem_append_left _ (List.mem_cons.mpr (Or.inl e)))))))) (fun h => (List.mem_append.mp h).elim (fun h => (List.mem_cons_of_mem _ (List.mem_append_left _ (List.mem_append_right _ (List.mem_append_right _ (List.mem_append_left _ (List.mem_cons_of_mem _ h))))))) (fun h => List.mem_cons_of_mem _ (List.mem_append_right _ h)))) w_y_X1_markRow__z20_good
theorem g_y_X3_moveAll_X1_markRow__z20_V213 : GoodIn w_y_X3_moveAll (wsV RX3 213 RX1 yX1_markRow w_y_X1_markRow__z20) := goodIn_app (nb_g4 (List.mem_cons_of_mem _ (List.mem_append_left _ (List.mem_append_left _ (List.mem_of_getElem? (i := 7) rfl)))) (List.mem_cons_of_mem _ (List.mem_append_left _ (List.mem_append_left _ (List.mem_of_getElem? (i := 8) rfl)))) (List.mem_cons_of_mem _ (List.mem_append_left _ (List.mem_append_left _ (List.mem_of_getElem? (i := 9) rfl)))) (List.mem_cons_of_mem _ (List.mem_append_left _ (List.mem_append_left _ (List.mem_of_getElem? (i := 4) rfl)))) (by decide +kernel)) gg_y_X3_moveAll_X1_markRow__z20
theorem gg_y_X3_moveAll_X1_markRow__z21 : GoodIn w_y_X3_moveAll w_y_X1_markRow__z21 := goodIn_sub (fun w h => (List.mem_cons.mp h).elim (fun e => (List.mem_cons_of_mem _ (List.mem_append_left _ (List.mem_append_right _ (List.mem_append_right _ (List.mem_append_right _ (List.mem_append_right _ (List.mem_append_left _ (List.mem_cons.mpr (Or.inl e)))))))))) (fun h => (List.mem_append.mp h).elim (fun h => (List.mem_cons_of_mem _ (List.mem_append_left _ (List.mem_append_right _ (List.mem_append_right _ (List.mem_append_right _ (List.mem_append_right _ (List.mem_append_left _ (List.mem_cons_of_mem _ h))))))))) (fun h => List.mem_cons_of_mem _ (List.mem_append_right _ h)))) w_y_X1_markRow__z21_good
theorem g_y_X3_moveAll_X1_markRow__z21_V213 : GoodIn w_y_X3_moveAll (wsV RX3 213 RX1 yX1_markRow w_y_X1_markRow__z21) := goodIn_app (nb_g4 (List.mem_cons_of_mem _ (List.mem_append_left _ (List.mem_append_left _ (List.mem_of_getElem? (i := 7) rfl)))) (List.mem_cons_of_mem _ (List.mem_append_left _ (List.mem_append_left _ (List.mem_of_getElem? (i := 8) rfl)))) (List.mem_cons_of_mem _ (List.mem_append_left _ (List.mem_append_left _ (List.mem_of_getElem? (i := 9) rfl)))) (List.mem_cons_of_mem _ (List.mem_append_left _ (List.mem_append_left _ (List.mem_of_getElem? (i := 4) rfl)))) (by decide +kernel)) gg_y_X3_moveAll_X1_markRow__z21
theorem gg_y_X3_moveAll_X1_markRow__z26 : GoodIn w_y_X3_moveAll w_y_X1_markRow__z26 := goodIn_sub (fun w h => (List.mem_cons.mp h).elim (fun e => (List.mem_cons_of_mem _ (List.mem_append_left _ (List.mem_append_right _ (List.mem_append_right _ (List.mem_append_right _ (List.mem_append_right _ (List.mem_append_right _ (List.mem_append_right _ (List.mem_append_right _ (List.mem_append_left _ (List.mem_cons.mpr (Or.inl e))))))))))))) (fun h => (List.mem_append.mp h).elim (fun h => (List.mem_cons_of_mem _ (List.mem_append_left _ (List.mem_append_right _ (List.mem_append_right _ (List.mem_append_right _ (List.mem_append_right _ (List.mem_append_right _ (List.mem_append_right _ (List.mem_append_right _ (List.mem_append_left _ (List.mem_cons_of_mem _ h)))))))))))) (fun h => List.mem_cons_of_mem _ (List.mem_append_right _ h)))) w_y_X1_markRow__z26_good
theorem g_y_X3_moveAll_X1_markRow__z26_V213 : GoodIn w_y_X3_moveAll (wsV RX3 213 RX1 yX1_markRow w_y_X1_markRow__z26) := goodIn_app (nb_g4 (List.mem_cons_of_mem _ (List.mem_append_left _ (List.mem_append_left _ (List.mem_of_getElem? (i := 7) rfl)))) (List.mem_cons_of_mem _ (List.mem_append_left _ (List.mem_append_left _ (List.mem_of_getElem? (i := 8) rfl)))) (List.mem_cons_of_mem _ (List.mem_append_left _ (List.mem_append_left _ (List.mem_of_getElem? (i := 9) rfl)))) (List.mem_cons_of_mem _ (List.mem_append_left _ (List.mem_append_left _ (List.mem_of_getElem? (i := 4) rfl)))) (by decide +kernel)) gg_y_X3_moveAll_X1_markRow__z26
theorem gg_y_X3_moveAll_X1_moveCells : GoodIn w_y_X3_moveAll w_y_X1_moveCells := goodIn_sub (fun w h => (List.mem_cons.mp h).elim (fun e => (List.mem_cons_of_mem _ (List.mem_append_left _ (List.mem_append_right _ (List.mem_append_right _ (List.mem_append_right _ (List.mem_append_right _ (List.mem_append_right _ (List.mem_append_right _ (List.mem_append_right _ (List.mem_append_right _ (List.mem_append_right _ (List.mem_append_right _ (List.mem_append_right _ (List.mem_append_right _ (List.mem_append_right _ (List.mem_append_right _ (List.mem_append_left _ (List.mem_cons.mpr (Or.inl e)))))))))))))))))))) (fun h => (List.mem_append.mp h).elim (fun h => (List.mem_cons_of_mem _ (List.mem_append_left _ (List.mem_append_right _ (List.mem_append_right _ (List.mem_append_right _ (List.mem_append_right _ (List.mem_append_right _ (List.mem_append_right _ (List.mem_append_right _ (List.mem_append_right _ (List.mem_append_right _ (List.mem_append_right _ (List.mem_append_right _ (List.mem_append_right _ (List.mem_append_right _ (List.mem_append_right _ (List.mem_append_left _ (List.mem_cons_of_mem _ h))))))))))))))))))) (fun h => List.mem_cons_of_mem _ (List.mem_append_right _ h)))) w_y_X1_moveCells_good
theorem g_y_X3_moveAll_X1_moveCells_V222 : GoodIn w_y_X3_moveAll (wsV RX3 222 RX1 yX1_moveCells w_y_X1_moveCells) := goodIn_app (nb_g4 (List.mem_cons_of_mem _ (List.mem_append_left _ (List.mem_append_left _ (List.mem_of_getElem? (i := 24) rfl)))) (List.mem_cons_of_mem _ (List.mem_append_left _ (List.mem_append_left _ (List.mem_of_getElem? (i := 25) rfl)))) (List.mem_cons_of_mem _ (List.mem_append_left _ (List.mem_append_left _ (List.mem_of_getElem? (i := 26) rfl)))) (List.mem_cons_of_mem _ (List.mem_append_left _ (List.mem_append_left _ (List.mem_of_getElem? (i := 4) rfl)))) (by decide +kernel)) gg_y_X3_moveAll_X1_moveCells
theorem gg_y_X3_moveAll_X1_moveRow__a23 : GoodIn w_y_X3_moveAll w_y_X1_moveRow__a23 := goodIn_sub (fun w h => (List.mem_cons.mp h).elim (fun e => (List.mem_cons_of_mem _ (List.mem_append_left _ (List.mem_append_right _ (List.mem_append_right _ (List.mem_append_right _ (List.mem_append_right _ (List.mem_append_right _ (List.mem_append_right _ (List.mem_append_right _ (List.mem_append_right _ (List.mem_append_right _ (List.mem_append_right _ (List.mem_append_left _ (List.mem_cons.mpr (Or.inl e)))))))))))))))) (fun h => (List.mem_append.mp h).elim (fun h => (List.mem_cons_of_mem _ (List.mem_append_left _ (List.mem_append_right _ (List.mem_append_right _ (List.mem_append_right _ (List.mem_append_right _ (List.mem_append_right _ (List.mem_append_right _ (List.mem_append_right _ (List.mem_append_right _ (List.mem_append_right _ (List.mem_append_right _ (List.mem_append_left _ (List.mem_cons_of_mem _ h))))))))))))))) (fun h => List.mem_cons_of_mem _ (List.mem_append_right _ h)))) w_y_X1_moveRow__a23_good
theorem g_y_X3_moveAll_X1_moveRow__a23_V219 : GoodIn w_y_X3_moveAll (wsV RX3 219 RX1 yX1_moveRow w_y_X1_moveRow__a23) := goodIn_app (nb_g4 (List.mem_cons_of_mem _ (List.mem_append_left _ (List.mem_append_left _ (List.mem_of_getElem? (i := 21) rfl)))) (List.mem_cons_of_mem _ (List.mem_append_left _ (List.mem_append_left _ (List.mem_of_getElem? (i := 22) rfl)))) (List.mem_cons_of_mem _ (List.mem_append_left _ (List.mem_append_left _ (List.mem_of_getElem? (i := 23) rfl)))) (List.mem_cons_of_mem _ (List.mem_append_left _ (List.mem_append_left _ (List.mem_of_getElem? (i := 4) rfl)))) (by decide +kernel)) gg_y_X3_moveAll_X1_moveRow__a23
theorem gg_y_X3_moveAll_X1_moveRow__a67 : GoodIn w_y_X3_moveAll w_y_X1_moveRow__a67 := goodIn_sub (fun w h => (List.mem_cons.mp h).elim (fun e => (List.mem_cons_of_mem _ (List.mem_append_left _ (List.mem_append_right _ (List.mem_append_right _ (List.mem_append_right _ (List.mem_append_right _ (List.mem_append_right _ (List.mem_append_right _ (List.mem_append_right _ (List.mem_append_right _ (List.mem_append_right _ (List.mem_append_right _ (List.mem_append_right _ (List.mem_append_right _ (List.mem_append_left _ (List.mem_cons.mpr (Or.inl e)))))))))))))))))) (fun h => (List.mem_append.mp h).elim (fun h => (List.mem_cons_of_mem _ (List.mem_append_left _ (List.mem_append_right _ (List.mem_append_right _ (List.mem_append_right _ (List.mem_append_right _ (List.mem_append_right _ (List.mem_append_right _ (List.mem_append_right _ (List.mem_append_right _ (List.mem_append_right _ (List.mem_append_right _ (List.mem_append_right _ (List.mem_append_right _ (List.mem_append_left _ (List.mem_cons_of_mem _ h))))))))))))))))) (fun h => List.mem_cons_of_mem _ (List.mem_append_right _ h)))) w_y_X1_moveRow__a67_good
theorem g_y_X3_moveAll_X1_moveRow__a67_V219 : GoodIn w_y_X3_moveAll (wsV RX3 219 RX1 yX1_moveRow w_y_X1_moveRow__a67) := goodIn_app (nb_g4 (List.mem_cons_of_mem _ (List.mem_append_left _ (List.mem_append_left _ (List.mem_of_getElem? (i := 21) rfl)))) (List.mem_cons_of_mem _ (List.mem_append_left _ (List.mem_append_left _ (List.mem_of_getElem? (i := 22) rfl)))) (List.mem_cons_of_mem _ (List.mem_append_left _ (List.mem_append_left _ (List.mem_of_getElem? (i := 23) rfl)))) (List.mem_cons_of_mem _ (List.mem_append_left _ (List.mem_append_left _ (List.mem_of_getElem? (i := 4) rfl)))) (by decide +kernel)) gg_y_X3_moveAll_X1_moveRow__a67
theorem gg_y_X3_moveAll_X1_moveRow__z20 : GoodIn w_y_X3_moveAll w_y_X1_moveRow__z20 := goodIn_sub (fun w h => (List.mem_cons.mp h).elim (fun e => (List.mem_cons_of_mem _ (List.mem_append_left _ (List.mem_append_right _ (List.mem_append_right _ (List.mem_append_right _ (List.mem_append_right _ (List.mem_append_right _ (List.mem_append_right _ (List.mem_append_right _ (List.mem_append_right _ (List.mem_append_right _ (List.mem_append_left _ (List.mem_cons.mpr (Or.inl e))))))))))))))) (fun h => (List.mem_append.mp h).elim (fun h => (List.mem_cons_of_mem _ (List.mem_append_left _ (List.mem_append_right _ (List.mem_append_right _ (List.mem_append_right _ (List.mem_append_right _ (List.mem_append_right _ (List.mem_append_right _ (List.mem_append_right _ (List.mem_append_right _ (List.mem_append_right _ (List.mem_append_left _ (List.mem_cons_of_mem _ h)))))))))))))) (fun h => List.mem_cons_of_mem _ (List.mem_append_right _ h)))) w_y_X1_moveRow__z20_good
theorem g_y_X3_moveAll_X1_moveRow__z20_V219 : GoodIn w_y_X3_moveAll (wsV RX3 219 RX1 yX1_moveRow w_y_X1_moveRow__z20) := goodIn_app (nb_g4 (List.mem_cons_of_mem _ (List.mem_append_left _ (List.mem_append_left _ (List.mem_of_getElem? (i := 21) rfl)))) (List.mem_cons_of_mem _ (List.mem_append_left _ (List.mem_append_left _ (List.mem_of_getElem? (i := 22) rfl)))) (List.mem_cons_of_mem _ (List.mem_append_left _ (List.mem_append_left _ (List.mem_of_getElem? (i := 23) rfl)))) (List.mem_cons_of_mem _ (List.mem_append_left _ (List.mem_append_left _ (List.mem_of_getElem? (i := 4) rfl)))) (by decide +kernel)) gg_y_X3_moveAll_X1_moveRow__z20
theorem gg_y_X3_moveAll_X1_moveRow__z21 : GoodIn w_y_X3_moveAll w_y_X1_moveRow__z21 := goodIn_sub (fun w h => (List.mem_cons.mp h).elim (fun e => (List.mem_cons_of_mem _ (List.mem_append_left _ (List.mem_append_right _ (List.mem_append_right _ (List.mem_append_right _ (List.mem_append_right _ (List.mem_append_right _ (List.mem_append_right _ (List.mem_append_right _ (List.mem_append_right _ (List.mem_append_right _ (List.mem_append_right _ (List.mem_append_right _ (List.mem_append_left _ (List.mem_cons.mpr (Or.inl e))))))))))))))))) (fun h => (List.mem_append.mp h).elim (fun h => (List.mem_cons_of_mem _ (List.mem_append_left _ (List.mem_append_right _ (List.mem_append_right _ (List.mem_append_right _ (List.mem_append_right _ (List.mem_append_right _ (List.mem_append_right _ (List.mem_append_right _ (List.mem_append_right _ (List.mem_append_right _ (List.mem_append_right _ (List.mem_append_right _ (List.mem_append_left _ (List.mem_cons_of_mem _ h)))))))))))))))) (fun h => List.mem_cons_of_mem _ (List.mem_append_right _ h)))) w_y_X1_moveRow__z21_good
theorem g_y_X3_moveAll_X1_moveRow__z21_V219 : GoodIn w_y_X3_moveAll (wsV RX3 219 RX1 yX1_moveRow w_y_X1_moveRow__z21) := goodIn_app (nb_g4 (List.mem_cons_of_mem _ (List.mem_append_left _ (List.mem_append_left _ (List.mem_of_getElem? (i := 21) rfl)))) (List.mem_cons_of_mem _ (List.mem_append_left _ (List.mem_append_left _ (List.mem_of_getElem? (i := 22) rfl)))) (List.mem_cons_of_mem _ (List.mem_append_left _ (List.mem_append_left _ (List.mem_of_getElem? (i := 23) rfl)))) (List.mem_cons_of_mem _ (List.mem_append_left _ (List.mem_append_left _ (List.mem_of_getElem? (i := 4) rfl)))) (by decide +kernel)) gg_y_X3_moveAll_X1_moveRow__z21
theorem gg_y_X3_moveAll_X1_moveRow__z26 : GoodIn w_y_X3_moveAll w_y_X1_moveRow__z26 := goodIn_sub (fun w h => (List.mem_cons.mp h).elim (fun e => (List.mem_cons_of_mem _ (List.mem_append_left _ (List.mem_append_right _ (List.mem_append_right _ (List.mem_append_right _ (List.mem_append_right _ (List.mem_append_right _ (List.mem_append_right _ (List.mem_append_right _ (List.mem_append_right _ (List.mem_append_right _ (List.mem_append_right _ (List.mem_append_right _ (List.mem_append_right _ (List.mem_append_right _ (List.mem_append_left _ (List.mem_cons.mpr (Or.inl e))))))))))))))))))) (fun h => (List.mem_append.mp h).elim (fun h => (List.mem_cons_of_mem _ (List.mem_append_left _ (List.mem_append_right _ (List.mem_append_right _ (List.mem_append_right _ (List.mem_append_right _ (List.mem_append_right _ (List.mem_append_right _ (List.mem_append_right _ (List.mem_append_right _ (List.mem_append_right _ (List.mem_append_right _ (List.mem_append_right _ (List.mem_append_right _ (List.mem_append_right _ (List.mem_append_left _ (List.mem_cons_of_mem _ h)))))))))))))))))) (fun h => List.mem_cons_of_mem _ (List.mem_append_right _ h)))) w_y_X1_moveRow__z26_good
theorem g_y_X3_moveAll_X1_moveRow__z26_V219 : GoodIn w_y_X3_moveAll (wsV RX3 219 RX1 yX1_moveRow w_y_X1_moveRow__z26) := goodIn_app (nb_g4 (List.mem_cons_of_mem _ (List.mem_append_left _ (List.mem_append_left _ (List.mem_of_getElem? (i := 21) rfl)))) (List.mem_cons_of_mem _ (List.mem_append_left _ (List.mem_append_left _ (List.mem_of_getElem? (i := 22) rfl)))) (List.mem_cons_of_mem _ (List.mem_append_left _ (List.mem_append_left _ (List.mem_of_getElem? (i := 23) rfl)))) (List.mem_cons_of_mem _ (List.mem_append_left _ (List.mem_append_left _ (List.mem_of_getElem? (i := 4) rfl)))) (by decide +kernel)) gg_y_X3_moveAll_X1_moveRow__z26
theorem gg_y_X3_moveAll_X9_used : GoodIn w_y_X3_moveAll w_y_X9_used := goodIn_sub (fun w h => (List.mem_cons.mp h).elim (fun e => (List.mem_cons_of_mem _ (List.mem_append_left _ (List.mem_append_right _ (List.mem_append_right _ (List.mem_append_right _ (List.mem_append_right _ (List.mem_append_right _ (List.mem_append_right _ (List.mem_append_left _ (List.mem_cons.mpr (Or.inl e)))))))))))) (fun h => (List.mem_append.mp h).elim (fun h => (List.mem_cons_of_mem _ (List.mem_append_left _ (List.mem_append_right _ (List.mem_append_right _ (List.mem_append_right _ (List.mem_append_right _ (List.mem_append_right _ (List.mem_append_right _ (List.mem_append_left _ (List.mem_cons_of_mem _ h))))))))))) (fun h => List.mem_cons_of_mem _ (List.mem_append_right _ h)))) w_y_X9_used_good
theorem g_y_X3_moveAll_X9_used_V203 : GoodIn w_y_X3_moveAll (wsV RX3 203 RX9 yX9_used w_y_X9_used) := goodIn_app (nb_g4 (List.mem_cons_of_mem _ (List.mem_append_left _ (List.mem_append_left _ (List.mem_of_getElem? (i := 14) rfl)))) (List.mem_cons_of_mem _ (List.mem_append_left _ (List.mem_append_left _ (List.mem_of_getElem? (i := 15) rfl)))) (List.mem_cons_of_mem _ (List.mem_append_left _ (List.mem_append_left _ (List.mem_of_getElem? (i := 16) rfl)))) (List.mem_cons_of_mem _ (List.mem_append_left _ (List.mem_append_left _ (List.mem_of_getElem? (i := 17) rfl)))) (by decide +kernel)) gg_y_X3_moveAll_X9_used
set_option maxHeartbeats 40000000 in
set_option maxRecDepth 100000 in
theorem c_y_X3_moveAll (l : Launch) (dC : Nat → ClassId) (dI : Nat → Nat → Nat) (cy : Nat → ClassId) (a z : Nat → Nat) (k0 : Nat) (L0 : LV) (σ0 : CS) (r0 : Int32 × CS) (h0 : y_X3_moveAll k0 0 L0 σ0 = some r0) (sz : Nat) : Met l yX3_moveAll w_y_X3_moveAll ({ frames := 62, cells := 0, slots := 0, locals := 1548 }) (va_Pc [.ref (a 18)] (nIn (dC, dI) cy sz (vC cy a z σ0))) (va_Qv (fun _ : Unit => True) (fun _ t => nOut (dC, dI) cy (va_A (vC cy a z σ0) sz) (vC cy a z r0.2) t) (va_A (vC cy a z σ0) sz)) 0 0 (va_A (vC cy a z σ0) sz) := by
  refine Met.ofW (cc := cX3_moveAll) (maxL := 1) (ret := none) (by decide) rfl ?_
  intro p e s m args below meth c s₁ B hml hv
  obtain ⟨rfl, hsz, hP, hK, hD0, hG⟩ := hv
  have hx := B.exec
  have hb := B.bytes
  have hr := B.returns
  have hts := atoms_spec (ws := w_y_X3_moveAll) B.pre
  have hown : s.vm.findClass RX3 = some m.cls := findClass_of_methodNamed B.named
  have hlocks := B.notSynchronized
  subst hsz
  have hD := hD0.self (sz := s.heap.size)
  generalize hAe : va_A (vC cy a z σ0) s.heap.size = A at hD ⊢
  have hA : ∀ q : Nat, s.heap.size ≤ q → A q := fun q h => by rw [← hAe]; exact Or.inr h
  have hS : va_S A s.heap s.heap [] := va_S.rf
  have hl := lv_entry ([.ref (a 18)]) (n := 1) (Nat.le_of_ble_eq_true rfl)
  rw [lg_entry_eq]
  generalize (lg_sl ([.ref (a 18)]) ++ List.replicate (1 - (lg_sl ([.ref (a 18)])).length) Slot.unset).toArray = ls at hl ⊢
  have hl : lv_has ls 1 [(0, .ref (a 18))] := hl
  have blk : ∀ k : Nat, (bC p l e (headSpec w_y_X3_moveAll ({ frames := 62, cells := 0, slots := 0, locals := 1548 })).room s m #[.ref (a 18)] below meth c dC dI cy a z A (kV dC dI cy a z A below #[.ref (a 18)] s) 1 (y_X3_moveAll k 0) (fun L => [(0, .ref (a 18))]) 0 (fun L => [])) := by
    intro k
    induction k with
    | zero => exact fun L σ r h => (by cases h)
    | succ k ih =>
      skip
      · intro L σ r h H locs ls hP hD hS hl
        rw [y_X3_moveAll] at h
        refine lv_aload_n hx hb dX3_moveAll_0 rfl (lv_at hl 0 rfl) ?_
        refine hg_18_0 hx hb hts in_y_X3_moveAll_X3 hown hK hP (hts _ (List.mem_cons_of_mem _ (List.mem_append_left _ (List.mem_append_left _ (List.mem_of_getElem? (i := 0) rfl))))) dX3_moveAll_1 ?_
        obtain ⟨r1, hc1, h⟩ := oc_ex h
        refine kc_v (va_runV (As := []) (rest := []) ⟨hx, hb, hml, hown, hts⟩ (c_y_X1_beginMarking l dC dI cy a z k lZ σ r1 hc1 H.size) (cwV 0 hts g_y_X3_moveAll_X1_beginMarking_V210 rfl rfl rfl hd_y_X1_beginMarking ⟨Nat.le_of_ble_eq_true rfl, Nat.le_of_ble_eq_true rfl⟩) ⟨nb_blind, va_recv hK hP (ci := 1) (q0 := 0) rfl rfl, (kb_pre hK hG hP hD)⟩ rfl rfl hl.1 rfl (lv_room (Nat.le_of_ble_eq_true rfl)) dX3_moveAll_4 ⟨Nat.le_refl _, Nat.le_refl _⟩) hA hP hD hS (fun H locs hP hD hS => ?_)
        refine lv_aload_n hx hb dX3_moveAll_7 rfl (lv_at hl 0 rfl) ?_
        refine hg_18_0 hx hb hts in_y_X3_moveAll_X3 hown hK hP (hts _ (List.mem_cons_of_mem _ (List.mem_append_left _ (List.mem_append_left _ (List.mem_of_getElem? (i := 0) rfl))))) dX3_moveAll_8 ?_
        refine lv_aload_n hx hb dX3_moveAll_11 rfl (lv_at hl 0 rfl) ?_
        refine hg_18_7 hx hb hts in_y_X3_moveAll_X3 hown hK hP (hts _ (List.mem_cons_of_mem _ (List.mem_append_left _ (List.mem_append_left _ (List.mem_of_getElem? (i := 5) rfl))))) dX3_moveAll_12 ?_
        refine lv_aload_n hx hb dX3_moveAll_15 rfl (lv_at hl 0 rfl) ?_
        refine hg_18_5 hx hb hts in_y_X3_moveAll_X3 hown hK hP (hts _ (List.mem_cons_of_mem _ (List.mem_append_left _ (List.mem_append_left _ (List.mem_of_getElem? (i := 6) rfl))))) dX3_moveAll_16 ?_
        refine hg_19_2n hx hb hts in_y_X3_moveAll_X8 hown hK hP (va_Nw.use rfl (hG.1 _ (List.mem_of_getElem? (i := 10) rfl))) dX3_moveAll_19 ?_
        obtain ⟨r2, hc2, h⟩ := oc_ex h
        refine kc_v (va_runV (As := [.ref (z 20), .int (r1.2.1 1902)]) (rest := []) ⟨hx, hb, hml, hown, hts⟩ (c_y_X1_markRow__z20 l dC dI cy a z k (lI lZ 2 ((r1.2.1 1902))) r1.2 r2 hc2 H.size) (cwV 2 hts g_y_X3_moveAll_X1_markRow__z20_V213 rfl rfl rfl hd_y_X1_markRow__z20 ⟨Nat.le_of_ble_eq_true rfl, Nat.le_of_ble_eq_true rfl⟩) ⟨nb_blind, va_recv hK hP (ci := 1) (q0 := 0) rfl rfl, (kb_pre hK hG hP hD)⟩ rfl rfl hl.1 rfl (lv_room (Nat.le_of_ble_eq_true rfl)) dX3_moveAll_22 ⟨Nat.le_refl _, Nat.le_refl _⟩) hA hP hD hS (fun H locs hP hD hS => ?_)
        refine lv_aload_n hx hb dX3_moveAll_25 rfl (lv_at hl 0 rfl) ?_
        refine hg_18_0 hx hb hts in_y_X3_moveAll_X3 hown hK hP (hts _ (List.mem_cons_of_mem _ (List.mem_append_left _ (List.mem_append_left _ (List.mem_of_getElem? (i := 0) rfl))))) dX3_moveAll_26 ?_
        refine lv_aload_n hx hb dX3_moveAll_29 rfl (lv_at hl 0 rfl) ?_
        refine hg_18_10 hx hb hts in_y_X3_moveAll_X3 hown hK hP (hts _ (List.mem_cons_of_mem _ (List.mem_append_left _ (List.mem_append_left _ (List.mem_of_getElem? (i := 10) rfl))))) dX3_moveAll_30 ?_
        refine lv_aload_n hx hb dX3_moveAll_33 rfl (lv_at hl 0 rfl) ?_
        refine hg_18_10 hx hb hts in_y_X3_moveAll_X3 hown hK hP (hts _ (List.mem_cons_of_mem _ (List.mem_append_left _ (List.mem_append_left _ (List.mem_of_getElem? (i := 10) rfl))))) dX3_moveAll_34 ?_
        refine hn_23 hx hb hK hP dX3_moveAll_37 ?_
        obtain ⟨r3, hc3, h⟩ := oc_ex h
        refine kc_v (va_runV (As := [.ref (a 23), .int (Int32.ofNat 3780)]) (rest := []) ⟨hx, hb, hml, hown, hts⟩ (c_y_X1_markRow__a23 l dC dI cy a z k (lI lZ 2 ((Int32.ofNat 3780))) r2.2 r3 hc3 H.size) (cwV 2 hts g_y_X3_moveAll_X1_markRow__a23_V213 rfl rfl rfl hd_y_X1_markRow__a23 ⟨Nat.le_of_ble_eq_true rfl, Nat.le_of_ble_eq_true rfl⟩) ⟨nb_blind, va_recv hK hP (ci := 1) (q0 := 0) rfl rfl, (kb_pre hK hG hP hD)⟩ rfl rfl hl.1 rfl (lv_room (Nat.le_of_ble_eq_true rfl)) dX3_moveAll_38 ⟨Nat.le_refl _, Nat.le_refl _⟩) hA hP hD hS (fun H locs hP hD hS => ?_)
        refine lv_aload_n hx hb dX3_moveAll_41 rfl (lv_at hl 0 rfl) ?_
        refine hg_18_0 hx hb hts in_y_X3_moveAll_X3 hown hK hP (hts _ (List.mem_cons_of_mem _ (List.mem_append_left _ (List.mem_append_left _ (List.mem_of_getElem? (i := 0) rfl))))) dX3_moveAll_42 ?_
        refine lv_aload_n hx hb dX3_moveAll_45 rfl (lv_at hl 0 rfl) ?_
        refine hg_18_8 hx hb hts in_y_X3_moveAll_X3 hown hK hP (hts _ (List.mem_cons_of_mem _ (List.mem_append_left _ (List.mem_append_left _ (List.mem_of_getElem? (i := 11) rfl))))) dX3_moveAll_46 ?_
        refine lv_aload_n hx hb dX3_moveAll_49 rfl (lv_at hl 0 rfl) ?_
        refine hg_18_5 hx hb hts in_y_X3_moveAll_X3 hown hK hP (hts _ (List.mem_cons_of_mem _ (List.mem_append_left _ (List.mem_append_left _ (List.mem_of_getElem? (i := 6) rfl))))) dX3_moveAll_50 ?_
        refine hg_19_13n hx hb hts in_y_X3_moveAll_X8 hown hK hP (va_Nw.use rfl (hG.1 _ (List.mem_of_getElem? (i := 34) rfl))) dX3_moveAll_53 ?_
        obtain ⟨r4, hc4, h⟩ := oc_ex h
        refine kc_v (va_runV (As := [.ref (z 21), .int (r3.2.1 1913)]) (rest := []) ⟨hx, hb, hml, hown, hts⟩ (c_y_X1_markRow__z21 l dC dI cy a z k (lI lZ 2 ((r3.2.1 1913))) r3.2 r4 hc4 H.size) (cwV 2 hts g_y_X3_moveAll_X1_markRow__z21_V213 rfl rfl rfl hd_y_X1_markRow__z21 ⟨Nat.le_of_ble_eq_true rfl, Nat.le_of_ble_eq_true rfl⟩) ⟨nb_blind, va_recv hK hP (ci := 1) (q0 := 0) rfl rfl, (kb_pre hK hG hP hD)⟩ rfl rfl hl.1 rfl (lv_room (Nat.le_of_ble_eq_true rfl)) dX3_moveAll_56 ⟨Nat.le_refl _, Nat.le_refl _⟩) hA hP hD hS (fun H locs hP hD hS => ?_)
        refine lv_aload_n hx hb dX3_moveAll_59 rfl (lv_at hl 0 rfl) ?_
        refine hg_18_0 hx hb hts in_y_X3_moveAll_X3 hown hK hP (hts _ (List.mem_cons_of_mem _ (List.mem_append_left _ (List.mem_append_left _ (List.mem_of_getElem? (i := 0) rfl))))) dX3_moveAll_60 ?_
        refine lv_aload_n hx hb dX3_moveAll_63 rfl (lv_at hl 0 rfl) ?_
        refine hg_18_4 hx hb hts in_y_X3_moveAll_X3 hown hK hP (hts _ (List.mem_cons_of_mem _ (List.mem_append_left _ (List.mem_append_left _ (List.mem_of_getElem? (i := 12) rfl))))) dX3_moveAll_64 ?_
        refine lv_aload_n hx hb dX3_moveAll_67 rfl (lv_at hl 0 rfl) ?_
        refine hg_18_4 hx hb hts in_y_X3_moveAll_X3 hown hK hP (hts _ (List.mem_cons_of_mem _ (List.mem_append_left _ (List.mem_append_left _ (List.mem_of_getElem? (i := 12) rfl))))) dX3_moveAll_68 ?_
        refine hn_67 hx hb hK hP dX3_moveAll_71 ?_
        obtain ⟨r5, hc5, h⟩ := oc_ex h
        refine kc_v (va_runV (As := [.ref (a 67), .int (Int32.ofNat 27)]) (rest := []) ⟨hx, hb, hml, hown, hts⟩ (c_y_X1_markRow__a67 l dC dI cy a z k (lI lZ 2 ((Int32.ofNat 27))) r4.2 r5 hc5 H.size) (cwV 2 hts g_y_X3_moveAll_X1_markRow__a67_V213 rfl rfl rfl hd_y_X1_markRow__a67 ⟨Nat.le_of_ble_eq_true rfl, Nat.le_of_ble_eq_true rfl⟩) ⟨nb_blind, va_recv hK hP (ci := 1) (q0 := 0) rfl rfl, (kb_pre hK hG hP hD)⟩ rfl rfl hl.1 rfl (lv_room (Nat.le_of_ble_eq_true rfl)) dX3_moveAll_72 ⟨Nat.le_refl _, Nat.le_refl _⟩) hA hP hD hS (fun H locs hP hD hS => ?_)
        refine lv_aload_n hx hb dX3_moveAll_75 rfl (lv_at hl 0 rfl) ?_
        refine hg_18_0 hx hb hts in_y_X3_moveAll_X3 hown hK hP (hts _ (List.mem_cons_of_mem _ (List.mem_append_left _ (List.mem_append_left _ (List.mem_of_getElem? (i := 0) rfl))))) dX3_moveAll_76 ?_
        refine lv_aload_n hx hb dX3_moveAll_79 rfl (lv_at hl 0 rfl) ?_
        refine hg_18_18 hx hb hts in_y_X3_moveAll_X3 hown hK hP (hts _ (List.mem_cons_of_mem _ (List.mem_append_left _ (List.mem_append_left _ (List.mem_of_getElem? (i := 13) rfl))))) dX3_moveAll_80 ?_
        refine hg_24_1n hx hb hts in_y_X3_moveAll_X9 hown hK hP (va_Nw.use rfl (hG.1 _ (List.mem_of_getElem? (i := 43) rfl))) dX3_moveAll_83 ?_
        refine lv_aload_n hx hb dX3_moveAll_86 rfl (lv_at hl 0 rfl) ?_
        refine hg_18_18 hx hb hts in_y_X3_moveAll_X3 hown hK hP (hts _ (List.mem_cons_of_mem _ (List.mem_append_left _ (List.mem_append_left _ (List.mem_of_getElem? (i := 13) rfl))))) dX3_moveAll_87 ?_
        obtain ⟨r6, hc6, h⟩ := oc_ex h
        refine kc_i (va_runV (As := []) (rest := [.ref (z 26), .ref (a 0)]) ⟨hx, hb, hml, hown, hts⟩ (c_y_X9_used l dC dI cy a z k lZ r5.2 r6 hc6 H.size) (cwV 0 hts g_y_X3_moveAll_X9_used_V203 rfl rfl rfl hd_y_X9_used ⟨Nat.le_of_ble_eq_true rfl, Nat.le_of_ble_eq_true rfl⟩) ⟨nb_blind, va_recv hK hP (ci := 8) (q0 := 24) rfl rfl, (kb_pre hK hG hP hD)⟩ rfl rfl hl.1 rfl (lv_room (Nat.le_of_ble_eq_true rfl)) dX3_moveAll_90 ⟨Nat.le_refl _, Nat.le_refl _⟩) hA hP hD hS (fun H locs hP hD hS => ?_)
        obtain ⟨r7, hc7, h⟩ := oc_ex h
        refine kc_v (va_runV (As := [.ref (z 26), .int r6.1]) (rest := []) ⟨hx, hb, hml, hown, hts⟩ (c_y_X1_markRow__z26 l dC dI cy a z k (lI lZ 2 r6.1) r6.2 r7 hc7 H.size) (cwV 2 hts g_y_X3_moveAll_X1_markRow__z26_V213 rfl rfl rfl hd_y_X1_markRow__z26 ⟨Nat.le_of_ble_eq_true rfl, Nat.le_of_ble_eq_true rfl⟩) ⟨nb_blind, va_recv hK hP (ci := 1) (q0 := 0) rfl rfl, (kb_pre hK hG hP hD)⟩ rfl rfl hl.1 rfl (lv_room (Nat.le_of_ble_eq_true rfl)) dX3_moveAll_93 ⟨Nat.le_refl _, Nat.le_refl _⟩) hA hP hD hS (fun H locs hP hD hS => ?_)
        refine lv_aload_n hx hb dX3_moveAll_96 rfl (lv_at hl 0 rfl) ?_
        refine hg_18_0 hx hb hts in_y_X3_moveAll_X3 hown hK hP (hts _ (List.mem_cons_of_mem _ (List.mem_append_left _ (List.mem_append_left _ (List.mem_of_getElem? (i := 0) rfl))))) dX3_moveAll_97 ?_
        obtain ⟨r8, hc8, h⟩ := oc_ex h
        refine kc_v (va_runV (As := []) (rest := []) ⟨hx, hb, hml, hown, hts⟩ (c_y_X1_endMarking l dC dI cy a z k lZ r7.2 r8 hc8 H.size) (cwV 0 hts g_y_X3_moveAll_X1_endMarking_V216 rfl rfl rfl hd_y_X1_endMarking ⟨Nat.le_of_ble_eq_true rfl, Nat.le_of_ble_eq_true rfl⟩) ⟨nb_blind, va_recv hK hP (ci := 1) (q0 := 0) rfl rfl, (kb_pre hK hG hP hD)⟩ rfl rfl hl.1 rfl (lv_room (Nat.le_of_ble_eq_true rfl)) dX3_moveAll_100 ⟨Nat.le_refl _, Nat.le_refl _⟩) hA hP hD hS (fun H locs hP hD hS => ?_)
        refine lv_aload_n hx hb dX3_moveAll_103 rfl (lv_at hl 0 rfl) ?_
        refine hg_18_0 hx hb hts in_y_X3_moveAll_X3 hown hK hP (hts _ (List.mem_cons_of_mem _ (List.mem_append_left _ (List.mem_append_left _ (List.mem_of_getElem? (i := 0) rfl))))) dX3_moveAll_104 ?_
        refine lv_aload_n hx hb dX3_moveAll_107 rfl (lv_at hl 0 rfl) ?_
        refine hg_18_7 hx hb hts in_y_X3_moveAll_X3 hown hK hP (hts _ (List.mem_cons_of_mem _ (List.mem_append_left _ (List.mem_append_left _ (List.mem_of_getElem? (i := 5) rfl))))) dX3_moveAll_108 ?_
        refine lv_aload_n hx hb dX3_moveAll_111 rfl (lv_at hl 0 rfl) ?_
        refine hg_18_5 hx hb hts in_y_X3_moveAll_X3 hown hK hP (hts _ (List.mem_cons_of_mem _ (List.mem_append_left _ (List.mem_append_left _ (List.mem_of_getElem? (i := 6) rfl))))) dX3_moveAll_112 ?_
        refine hg_19_2n hx hb hts in_y_X3_moveAll_X8 hown hK hP (va_Nw.use rfl (hG.1 _ (List.mem_of_getElem? (i := 10) rfl))) dX3_moveAll_115 ?_
        obtain ⟨r9, hc9, h⟩ := oc_ex h
        refine kc_v (va_runV (As := [.ref (z 20), .int (r8.2.1 1902)]) (rest := []) ⟨hx, hb, hml, hown, hts⟩ (c_y_X1_moveRow__z20 l dC dI cy a z k (lI lZ 2 ((r8.2.1 1902))) r8.2 r9 hc9 H.size) (cwV 2 hts g_y_X3_moveAll_X1_moveRow__z20_V219 rfl rfl rfl hd_y_X1_moveRow__z20 ⟨Nat.le_of_ble_eq_true rfl, Nat.le_of_ble_eq_true rfl⟩) ⟨nb_blind, va_recv hK hP (ci := 1) (q0 := 0) rfl rfl, (kb_pre hK hG hP hD)⟩ rfl rfl hl.1 rfl (lv_room (Nat.le_of_ble_eq_true rfl)) dX3_moveAll_118 ⟨Nat.le_refl _, Nat.le_refl _⟩) hA hP hD hS (fun H locs hP hD hS => ?_)
        refine lv_aload_n hx hb dX3_moveAll_121 rfl (lv_at hl 0 rfl) ?_
        refine hg_18_0 hx hb hts in_y_X3_moveAll_X3 hown hK hP (hts _ (List.mem_cons_of_mem _ (List.mem_append_left _ (List.mem_append_left _ (List.mem_of_getElem? (i := 0) rfl))))) dX3_moveAll_122 ?_
        refine lv_aload_n hx hb dX3_moveAll_125 rfl (lv_at hl 0 rfl) ?_
        refine hg_18_10 hx hb hts in_y_X3_moveAll_X3 hown hK hP (hts _ (List.mem_cons_of_mem _ (List.mem_append_left _ (List.mem_append_left _ (List.mem_of_getElem? (i := 10) rfl))))) dX3_moveAll_126 ?_
        refine lv_aload_n hx hb dX3_moveAll_129 rfl (lv_at hl 0 rfl) ?_
        refine hg_18_10 hx hb hts in_y_X3_moveAll_X3 hown hK hP (hts _ (List.mem_cons_of_mem _ (List.mem_append_left _ (List.mem_append_left _ (List.mem_of_getElem? (i := 10) rfl))))) dX3_moveAll_130 ?_
        refine hn_23 hx hb hK hP dX3_moveAll_133 ?_
        obtain ⟨r10, hc10, h⟩ := oc_ex h
        refine kc_v (va_runV (As := [.ref (a 23), .int (Int32.ofNat 3780)]) (rest := []) ⟨hx, hb, hml, hown, hts⟩ (c_y_X1_moveRow__a23 l dC dI cy a z k (lI lZ 2 ((Int32.ofNat 3780))) r9.2 r10 hc10 H.size) (cwV 2 hts g_y_X3_moveAll_X1_moveRow__a23_V219 rfl rfl rfl hd_y_X1_moveRow__a23 ⟨Nat.le_of_ble_eq_true rfl, Nat.le_of_ble_eq_true rfl⟩) ⟨nb_blind, va_recv hK hP (ci := 1) (q0 := 0) rfl rfl, (kb_pre hK hG hP hD)⟩ rfl rfl hl.1 rfl (lv_room (Nat.le_of_ble_eq_true rfl)) dX3_moveAll_134 ⟨Nat.le_refl _, Nat.le_refl _⟩) hA hP hD hS (fun H locs hP hD hS => ?_)
        refine lv_aload_n hx hb dX3_moveAll_137 rfl (lv_at hl 0 rfl) ?_
        refine hg_18_0 hx hb hts in_y_X3_moveAll_X3 hown hK hP (hts _ (List.mem_cons_of_mem _ (List.mem_append_left _ (List.mem_append_left _ (List.mem_of_getElem? (i := 0) rfl))))) dX3_moveAll_138 ?_
        refine lv_aload_n hx hb dX3_moveAll_141 rfl (lv_at hl 0 rfl) ?_
        refine hg_18_8 hx hb hts in_y_X3_moveAll_X3 hown hK hP (hts _ (List.mem_cons_of_mem _ (List.mem_append_left _ (List.mem_append_left _ (List.mem_of_getElem? (i := 11) rfl))))) dX3_moveAll_142 ?_
        refine lv_aload_n hx hb dX3_moveAll_145 rfl (lv_at hl 0 rfl) ?_
        refine hg_18_5 hx hb hts in_y_X3_moveAll_X3 hown hK hP (hts _ (List.mem_cons_of_mem _ (List.mem_append_left _ (List.mem_append_left _ (List.mem_of_getElem? (i := 6) rfl))))) dX3_moveAll_146 ?_
        refine hg_19_13n hx hb hts in_y_X3_moveAll_X8 hown hK hP (va_Nw.use rfl (hG.1 _ (List.mem_of_getElem? (i := 34) rfl))) dX3_moveAll_149 ?_
        obtain ⟨r11, hc11, h⟩ := oc_ex h
        refine kc_v (va_runV (As := [.ref (z 21), .int (r10.2.1 1913)]) (rest := []) ⟨hx, hb, hml, hown, hts⟩ (c_y_X1_moveRow__z21 l dC dI cy a z k (lI lZ 2 ((r10.2.1 1913))) r10.2 r11 hc11 H.size) (cwV 2 hts g_y_X3_moveAll_X1_moveRow__z21_V219 rfl rfl rfl hd_y_X1_moveRow__z21 ⟨Nat.le_of_ble_eq_true rfl, Nat.le_of_ble_eq_true rfl⟩) ⟨nb_blind, va_recv hK hP (ci := 1) (q0 := 0) rfl rfl, (kb_pre hK hG hP hD)⟩ rfl rfl hl.1 rfl (lv_room (Nat.le_of_ble_eq_true rfl)) dX3_moveAll_152 ⟨Nat.le_refl _, Nat.le_refl _⟩) hA hP hD hS (fun H locs hP hD hS => ?_)
        refine lv_aload_n hx hb dX3_moveAll_155 rfl (lv_at hl 0 rfl) ?_
        refine hg_18_0 hx hb hts in_y_X3_moveAll_X3 hown hK hP (hts _ (List.mem_cons_of_mem _ (List.mem_append_left _ (List.mem_append_left _ (List.mem_of_getElem? (i := 0) rfl))))) dX3_moveAll_156 ?_
        refine lv_aload_n hx hb dX3_moveAll_159 rfl (lv_at hl 0 rfl) ?_
        refine hg_18_4 hx hb hts in_y_X3_moveAll_X3 hown hK hP (hts _ (List.mem_cons_of_mem _ (List.mem_append_left _ (List.mem_append_left _ (List.mem_of_getElem? (i := 12) rfl))))) dX3_moveAll_160 ?_
        refine lv_aload_n hx hb dX3_moveAll_163 rfl (lv_at hl 0 rfl) ?_
        refine hg_18_4 hx hb hts in_y_X3_moveAll_X3 hown hK hP (hts _ (List.mem_cons_of_mem _ (List.mem_append_left _ (List.mem_append_left _ (List.mem_of_getElem? (i := 12) rfl))))) dX3_moveAll_164 ?_
        refine hn_67 hx hb hK hP dX3_moveAll_167 ?_
        obtain ⟨r12, hc12, h⟩ := oc_ex h
        refine kc_v (va_runV (As := [.ref (a 67), .int (Int32.ofNat 27)]) (rest := []) ⟨hx, hb, hml, hown, hts⟩ (c_y_X1_moveRow__a67 l dC dI cy a z k (lI lZ 2 ((Int32.ofNat 27))) r11.2 r12 hc12 H.size) (cwV 2 hts g_y_X3_moveAll_X1_moveRow__a67_V219 rfl rfl rfl hd_y_X1_moveRow__a67 ⟨Nat.le_of_ble_eq_true rfl, Nat.le_of_ble_eq_true rfl⟩) ⟨nb_blind, va_recv hK hP (ci := 1) (q0 := 0) rfl rfl, (kb_pre hK hG hP hD)⟩ rfl rfl hl.1 rfl (lv_room (Nat.le_of_ble_eq_true rfl)) dX3_moveAll_168 ⟨Nat.le_refl _, Nat.le_refl _⟩) hA hP hD hS (fun H locs hP hD hS => ?_)
        refine lv_aload_n hx hb dX3_moveAll_171 rfl (lv_at hl 0 rfl) ?_
        refine hg_18_0 hx hb hts in_y_X3_moveAll_X3 hown hK hP (hts _ (List.mem_cons_of_mem _ (List.mem_append_left _ (List.mem_append_left _ (List.mem_of_getElem? (i := 0) rfl))))) dX3_moveAll_172 ?_
        refine lv_aload_n hx hb dX3_moveAll_175 rfl (lv_at hl 0 rfl) ?_
        refine hg_18_18 hx hb hts in_y_X3_moveAll_X3 hown hK hP (hts _ (List.mem_cons_of_mem _ (List.mem_append_left _ (List.mem_append_left _ (List.mem_of_getElem? (i := 13) rfl))))) dX3_moveAll_176 ?_
        refine hg_24_1n hx hb hts in_y_X3_moveAll_X9 hown hK hP (va_Nw.use rfl (hG.1 _ (List.mem_of_getElem? (i := 43) rfl))) dX3_moveAll_179 ?_
        refine lv_aload_n hx hb dX3_moveAll_182 rfl (lv_at hl 0 rfl) ?_
        refine hg_18_18 hx hb hts in_y_X3_moveAll_X3 hown hK hP (hts _ (List.mem_cons_of_mem _ (List.mem_append_left _ (List.mem_append_left _ (List.mem_of_getElem? (i := 13) rfl))))) dX3_moveAll_183 ?_
        obtain ⟨r13, hc13, h⟩ := oc_ex h
        refine kc_i (va_runV (As := []) (rest := [.ref (z 26), .ref (a 0)]) ⟨hx, hb, hml, hown, hts⟩ (c_y_X9_used l dC dI cy a z k lZ r12.2 r13 hc13 H.size) (cwV 0 hts g_y_X3_moveAll_X9_used_V203 rfl rfl rfl hd_y_X9_used ⟨Nat.le_of_ble_eq_true rfl, Nat.le_of_ble_eq_true rfl⟩) ⟨nb_blind, va_recv hK hP (ci := 8) (q0 := 24) rfl rfl, (kb_pre hK hG hP hD)⟩ rfl rfl hl.1 rfl (lv_room (Nat.le_of_ble_eq_true rfl)) dX3_moveAll_186 ⟨Nat.le_refl _, Nat.le_refl _⟩) hA hP hD hS (fun H locs hP hD hS => ?_)
        obtain ⟨r14, hc14, h⟩ := oc_ex h
        refine kc_v (va_runV (As := [.ref (z 26), .int r13.1]) (rest := []) ⟨hx, hb, hml, hown, hts⟩ (c_y_X1_moveRow__z26 l dC dI cy a z k (lI lZ 2 r13.1) r13.2 r14 hc14 H.size) (cwV 2 hts g_y_X3_moveAll_X1_moveRow__z26_V219 rfl rfl rfl hd_y_X1_moveRow__z26 ⟨Nat.le_of_ble_eq_true rfl, Nat.le_of_ble_eq_true rfl⟩) ⟨nb_blind, va_recv hK hP (ci := 1) (q0 := 0) rfl rfl, (kb_pre hK hG hP hD)⟩ rfl rfl hl.1 rfl (lv_room (Nat.le_of_ble_eq_true rfl)) dX3_moveAll_189 ⟨Nat.le_refl _, Nat.le_refl _⟩) hA hP hD hS (fun H locs hP hD hS => ?_)
        refine lv_aload_n hx hb dX3_moveAll_192 rfl (lv_at hl 0 rfl) ?_
        refine hg_18_0 hx hb hts in_y_X3_moveAll_X3 hown hK hP (hts _ (List.mem_cons_of_mem _ (List.mem_append_left _ (List.mem_append_left _ (List.mem_of_getElem? (i := 0) rfl))))) dX3_moveAll_193 ?_
        obtain ⟨r15, hc15, h⟩ := oc_ex h
        refine kc_v (va_runV (As := []) (rest := []) ⟨hx, hb, hml, hown, hts⟩ (c_y_X1_moveCells l dC dI cy a z k lZ r14.2 r15 hc15 H.size) (cwV 0 hts g_y_X3_moveAll_X1_moveCells_V222 rfl rfl rfl hd_y_X1_moveCells ⟨Nat.le_of_ble_eq_true rfl, Nat.le_of_ble_eq_true rfl⟩) ⟨nb_blind, va_recv hK hP (ci := 1) (q0 := 0) rfl rfl, (kb_pre hK hG hP hD)⟩ rfl rfl hl.1 rfl (lv_room (Nat.le_of_ble_eq_true rfl)) dX3_moveAll_196 ⟨Nat.le_refl _, Nat.le_refl _⟩) hA hP hD hS (fun H locs hP hD hS => ?_)
        obtain rfl := Option.some.inj h
        exact W.vret hx hb hr (fun t ht hW => ⟨⟨(), rfl, trivial, by rw [ht]; exact hP, va_K.moved hW.alike hK, hD⟩, hS.F ht⟩) hS.2.2 dX3_moveAll_199
  exact (blk k0) L0 σ0 r0 h0 s.heap [] ls hP hD hS hl

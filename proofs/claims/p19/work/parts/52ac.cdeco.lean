/-! X1_compareStrings -/
def y_X1_compareStrings : Nat → Nat → LV → CS → Option (Int32 × CS)
  | 0, _, _, _ => none
  | k + 1, 0, L, σ => if 0 ≤ ((L.1 1)) then (y_X1_compareStrings k 1 L σ) else (y_X1_compareStrings k 2 (lI L 100 1) σ)
  | k + 1, 1, L, σ => if ¬ (((L.1 1)) < 0 ∨ (sN σ 3) ≤ ((L.1 1)).toNatClampNeg) then (y_X1_compareStrings k 2 (lI L 100 (((((((σ.2.2.1 3 ((L.1 1)).toNatClampNeg)).toUInt32 >>> ((4 : Int32).toUInt32 &&& Int32.toUInt32 31)).toInt32)) &&& 4095))) σ) else none
  | k + 1, 2, L, σ => if 0 ≤ ((L.1 2)) then (y_X1_compareStrings k 3 (lI L 3 ((L.1 100))) σ) else (y_X1_compareStrings k 4 (lI (lI L 3 ((L.1 100))) 100 1) σ)
  | k + 1, 3, L, σ => if ¬ (((L.1 2)) < 0 ∨ (sN σ 3) ≤ ((L.1 2)).toNatClampNeg) then (y_X1_compareStrings k 4 (lI L 100 (((((((σ.2.2.1 3 ((L.1 2)).toNatClampNeg)).toUInt32 >>> ((4 : Int32).toUInt32 &&& Int32.toUInt32 31)).toInt32)) &&& 4095))) σ) else none
  | k + 1, 4, L, σ => y_X1_compareStrings k 5 (lI (lI L 4 ((L.1 100))) 5 0) σ
  | k + 1, 5, L, σ => if ((L.1 3)) ≤ ((L.1 5)) then (y_X1_compareStrings k 6 L σ) else (if ((L.1 4)) ≤ ((L.1 5)) then (y_X1_compareStrings k 6 L σ) else (if 0 ≤ ((L.1 1)) then (y_X1_compareStrings k 7 L σ) else (y_X1_compareStrings k 8 (lI L 100 ((((L.1 1)) &&& 255))) σ)))
  | k + 1, 6, L, σ => if ((L.1 3)) = ((L.1 4)) then (y_X1_compareStrings k 10 (lI L 100 0) σ) else (y_X1_compareStrings k 9 L σ)
  | k + 1, 7, L, σ => if ¬ (((((((L.1 1)) + 1)) + ((((L.1 5)) >>> ((2 : Int32) &&& 31))))) < 0 ∨ (sN σ 3) ≤ ((((((L.1 1)) + 1)) + ((((L.1 5)) >>> ((2 : Int32) &&& 31))))).toNatClampNeg) then (y_X1_compareStrings k 8 (lI L 100 (((((((σ.2.2.1 3 ((((((L.1 1)) + 1)) + ((((L.1 5)) >>> ((2 : Int32) &&& 31))))).toNatClampNeg)).toUInt32 >>> (((((((L.1 5)) &&& 3)) <<< ((3 : Int32) &&& 31))).toUInt32 &&& Int32.toUInt32 31)).toInt32)) &&& 255))) σ) else none
  | k + 1, 8, L, σ => if 0 ≤ ((L.1 2)) then (y_X1_compareStrings k 11 (lI L 6 ((L.1 100))) σ) else (y_X1_compareStrings k 12 (lI (lI L 6 ((L.1 100))) 100 ((((L.1 2)) &&& 255))) σ)
  | k + 1, 9, L, σ => if ((L.1 4)) ≤ ((L.1 3)) then (y_X1_compareStrings k 13 L σ) else (y_X1_compareStrings k 10 (lI L 100 ((-1))) σ)
  | k + 1, 10, L, σ => some ((L.1 100), σ)
  | k + 1, 11, L, σ => if ¬ (((((((L.1 2)) + 1)) + ((((L.1 5)) >>> ((2 : Int32) &&& 31))))) < 0 ∨ (sN σ 3) ≤ ((((((L.1 2)) + 1)) + ((((L.1 5)) >>> ((2 : Int32) &&& 31))))).toNatClampNeg) then (y_X1_compareStrings k 12 (lI L 100 (((((((σ.2.2.1 3 ((((((L.1 2)) + 1)) + ((((L.1 5)) >>> ((2 : Int32) &&& 31))))).toNatClampNeg)).toUInt32 >>> (((((((L.1 5)) &&& 3)) <<< ((3 : Int32) &&& 31))).toUInt32 &&& Int32.toUInt32 31)).toInt32)) &&& 255))) σ) else none
  | k + 1, 12, L, σ => if ((L.1 6)) = ((L.1 100)) then (y_X1_compareStrings k 14 L σ) else (if ((L.1 100)) ≤ ((L.1 6)) then (y_X1_compareStrings k 15 L σ) else (y_X1_compareStrings k 16 (lI L 100 ((-1))) σ))
  | k + 1, 13, L, σ => y_X1_compareStrings k 10 (lI L 100 1) σ
  | k + 1, 14, L, σ => y_X1_compareStrings k 5 (lI L 5 ((((L.1 5)) + 1))) σ
  | k + 1, 15, L, σ => y_X1_compareStrings k 16 (lI L 100 1) σ
  | k + 1, 16, L, σ => some ((L.1 100), σ)
  | _ + 1, _ + 17, _, _ => none
def o_y_X1_compareStrings : List Cond := [.fieldLink RX1 11 "SetHouse$Heap" "mem" "[I"]
theorem o_y_X1_compareStrings_good : o_y_X1_compareStrings.all goodWord = true := by decide +kernel
def p_y_X1_compareStrings : List Cond := o_y_X1_compareStrings ++ []
theorem p_y_X1_compareStrings_good : p_y_X1_compareStrings.all goodWord = true := nb_all2 o_y_X1_compareStrings_good rfl
def w_y_X1_compareStrings : List Cond := .code yX1_compareStrings cX1_compareStrings 8 (some .int) :: (p_y_X1_compareStrings ++ fC)
theorem w_y_X1_compareStrings_good : w_y_X1_compareStrings.all goodWord = true := nb_allc (by decide +kernel) (nb_all2 p_y_X1_compareStrings_good fC_good)
theorem in_y_X1_compareStrings_X1 : ∀ w ∈ wsX10, w ∈ w_y_X1_compareStrings := fun _ h => List.mem_cons_of_mem _ (List.mem_append_right _ (List.mem_append_right _ (List.mem_append_left _ h)))
theorem hd_y_X1_compareStrings : yX1_compareStrings.cls = RX1 ∧ yX1_compareStrings.cls ≠ "java/lang/invoke/MethodHandle" ∧ yX1_compareStrings.cls ≠ "java/lang/invoke/VarHandle" ∧ (parseMethodDescriptor yX1_compareStrings.desc).map (fun d => d.parameters.length) = some 2 := by decide +kernel
set_option maxHeartbeats 40000000 in
set_option maxRecDepth 100000 in
theorem c_y_X1_compareStrings (l : Launch) (dC : Nat → ClassId) (dI : Nat → Nat → Nat) (cy : Nat → ClassId) (a z : Nat → Nat) (k0 : Nat) (L0 : LV) (σ0 : CS) (r0 : Int32 × CS) (h0 : y_X1_compareStrings k0 0 L0 σ0 = some r0) (sz : Nat) : Met l yX1_compareStrings w_y_X1_compareStrings ({ frames := 0, cells := 0, slots := 0, locals := 0 }) (va_Pc [.ref (a 0), .int (L0.1 1), .int (L0.1 2)] (nIn (dC, dI) cy sz (vC cy a z σ0))) (va_Qi (fun (x : Int32) (_ : Unit) => x = r0.1) (fun _ t => nOut (dC, dI) cy (va_A (vC cy a z σ0) sz) (vC cy a z r0.2) t) (va_A (vC cy a z σ0) sz)) 0 0 (va_A (vC cy a z σ0) sz) := by
  refine Met.ofW (cc := cX1_compareStrings) (maxL := 8) (ret := (some .int)) (by decide) rfl ?_
  intro p e s m args below meth c s₁ B hml hv
  obtain ⟨rfl, hsz, hP, hK, hD0, hG⟩ := hv
  have hx := B.exec
  have hb := B.bytes
  have hr := B.returns
  have hts := atoms_spec (ws := w_y_X1_compareStrings) B.pre
  have hown : s.vm.findClass RX1 = some m.cls := findClass_of_methodNamed B.named
  have hlocks := B.notSynchronized
  subst hsz
  have hD := hD0.self (sz := s.heap.size)
  generalize hAe : va_A (vC cy a z σ0) s.heap.size = A at hD ⊢
  have hA : ∀ q : Nat, s.heap.size ≤ q → A q := fun q h => by rw [← hAe]; exact Or.inr h
  have hS : va_S A s.heap s.heap [] := va_S.rf
  have hl := lv_entry ([.ref (a 0), .int (L0.1 1), .int (L0.1 2)]) (n := 8) (Nat.le_of_ble_eq_true rfl)
  rw [lg_entry_eq]
  generalize (lg_sl ([.ref (a 0), .int (L0.1 1), .int (L0.1 2)]) ++ List.replicate (8 - (lg_sl ([.ref (a 0), .int (L0.1 1), .int (L0.1 2)])).length) Slot.unset).toArray = ls at hl ⊢
  have hl : lv_has ls 8 [(0, .ref (a 0)), (1, .int (L0.1 1)), (2, .int (L0.1 2))] := hl
  have blk : ∀ k : Nat, (bC p l e (headSpec w_y_X1_compareStrings ({ frames := 0, cells := 0, slots := 0, locals := 0 })).room s m #[.ref (a 0), .int (L0.1 1), .int (L0.1 2)] below meth c dC dI cy a z A (kI dC dI cy a z A below #[.ref (a 0), .int (L0.1 1), .int (L0.1 2)] s) 8 (y_X1_compareStrings k 0) (fun L => [(0, .ref (a 0)), (1, .int (L.1 1)), (2, .int (L.1 2))]) 0 (fun L => [])) ∧ (bC p l e (headSpec w_y_X1_compareStrings ({ frames := 0, cells := 0, slots := 0, locals := 0 })).room s m #[.ref (a 0), .int (L0.1 1), .int (L0.1 2)] below meth c dC dI cy a z A (kI dC dI cy a z A below #[.ref (a 0), .int (L0.1 1), .int (L0.1 2)] s) 8 (y_X1_compareStrings k 1) (fun L => [(0, .ref (a 0)), (1, .int (L.1 1)), (2, .int (L.1 2))]) 8 (fun L => [])) ∧ (bC p l e (headSpec w_y_X1_compareStrings ({ frames := 0, cells := 0, slots := 0, locals := 0 })).room s m #[.ref (a 0), .int (L0.1 1), .int (L0.1 2)] below meth c dC dI cy a z A (kI dC dI cy a z A below #[.ref (a 0), .int (L0.1 1), .int (L0.1 2)] s) 8 (y_X1_compareStrings k 2) (fun L => [(0, .ref (a 0)), (1, .int (L.1 1)), (2, .int (L.1 2))]) 20 (fun L => [.int (L.1 100)])) ∧ (bC p l e (headSpec w_y_X1_compareStrings ({ frames := 0, cells := 0, slots := 0, locals := 0 })).room s m #[.ref (a 0), .int (L0.1 1), .int (L0.1 2)] below meth c dC dI cy a z A (kI dC dI cy a z A below #[.ref (a 0), .int (L0.1 1), .int (L0.1 2)] s) 8 (y_X1_compareStrings k 3) (fun L => [(0, .ref (a 0)), (1, .int (L.1 1)), (2, .int (L.1 2)), (3, .int (L.1 3))]) 29 (fun L => [])) ∧ (bC p l e (headSpec w_y_X1_compareStrings ({ frames := 0, cells := 0, slots := 0, locals := 0 })).room s m #[.ref (a 0), .int (L0.1 1), .int (L0.1 2)] below meth c dC dI cy a z A (kI dC dI cy a z A below #[.ref (a 0), .int (L0.1 1), .int (L0.1 2)] s) 8 (y_X1_compareStrings k 4) (fun L => [(0, .ref (a 0)), (1, .int (L.1 1)), (2, .int (L.1 2)), (3, .int (L.1 3))]) 41 (fun L => [.int (L.1 100)])) ∧ (bC p l e (headSpec w_y_X1_compareStrings ({ frames := 0, cells := 0, slots := 0, locals := 0 })).room s m #[.ref (a 0), .int (L0.1 1), .int (L0.1 2)] below meth c dC dI cy a z A (kI dC dI cy a z A below #[.ref (a 0), .int (L0.1 1), .int (L0.1 2)] s) 8 (y_X1_compareStrings k 5) (fun L => [(0, .ref (a 0)), (1, .int (L.1 1)), (2, .int (L.1 2)), (3, .int (L.1 3)), (4, .int (L.1 4)), (5, .int (L.1 5))]) 46 (fun L => [])) ∧ (bC p l e (headSpec w_y_X1_compareStrings ({ frames := 0, cells := 0, slots := 0, locals := 0 })).room s m #[.ref (a 0), .int (L0.1 1), .int (L0.1 2)] below meth c dC dI cy a z A (kI dC dI cy a z A below #[.ref (a 0), .int (L0.1 1), .int (L0.1 2)] s) 8 (y_X1_compareStrings k 6) (fun L => [(3, .int (L.1 3)), (4, .int (L.1 4))]) 161 (fun L => [])) ∧ (bC p l e (headSpec w_y_X1_compareStrings ({ frames := 0, cells := 0, slots := 0, locals := 0 })).room s m #[.ref (a 0), .int (L0.1 1), .int (L0.1 2)] below meth c dC dI cy a z A (kI dC dI cy a z A below #[.ref (a 0), .int (L0.1 1), .int (L0.1 2)] s) 8 (y_X1_compareStrings k 7) (fun L => [(0, .ref (a 0)), (1, .int (L.1 1)), (2, .int (L.1 2)), (3, .int (L.1 3)), (4, .int (L.1 4)), (5, .int (L.1 5))]) 71 (fun L => [])) ∧ (bC p l e (headSpec w_y_X1_compareStrings ({ frames := 0, cells := 0, slots := 0, locals := 0 })).room s m #[.ref (a 0), .int (L0.1 1), .int (L0.1 2)] below meth c dC dI cy a z A (kI dC dI cy a z A below #[.ref (a 0), .int (L0.1 1), .int (L0.1 2)] s) 8 (y_X1_compareStrings k 8) (fun L => [(0, .ref (a 0)), (1, .int (L.1 1)), (2, .int (L.1 2)), (3, .int (L.1 3)), (4, .int (L.1 4)), (5, .int (L.1 5))]) 95 (fun L => [.int (L.1 100)])) ∧ (bC p l e (headSpec w_y_X1_compareStrings ({ frames := 0, cells := 0, slots := 0, locals := 0 })).room s m #[.ref (a 0), .int (L0.1 1), .int (L0.1 2)] below meth c dC dI cy a z A (kI dC dI cy a z A below #[.ref (a 0), .int (L0.1 1), .int (L0.1 2)] s) 8 (y_X1_compareStrings k 9) (fun L => [(3, .int (L.1 3)), (4, .int (L.1 4))]) 171 (fun L => [])) ∧ (bC p l e (headSpec w_y_X1_compareStrings ({ frames := 0, cells := 0, slots := 0, locals := 0 })).room s m #[.ref (a 0), .int (L0.1 1), .int (L0.1 2)] below meth c dC dI cy a z A (kI dC dI cy a z A below #[.ref (a 0), .int (L0.1 1), .int (L0.1 2)] s) 8 (y_X1_compareStrings k 10) (fun L => []) 182 (fun L => [.int (L.1 100)])) ∧ (bC p l e (headSpec w_y_X1_compareStrings ({ frames := 0, cells := 0, slots := 0, locals := 0 })).room s m #[.ref (a 0), .int (L0.1 1), .int (L0.1 2)] below meth c dC dI cy a z A (kI dC dI cy a z A below #[.ref (a 0), .int (L0.1 1), .int (L0.1 2)] s) 8 (y_X1_compareStrings k 11) (fun L => [(0, .ref (a 0)), (1, .int (L.1 1)), (2, .int (L.1 2)), (3, .int (L.1 3)), (4, .int (L.1 4)), (5, .int (L.1 5)), (6, .int (L.1 6))]) 109 (fun L => [])) ∧ (bC p l e (headSpec w_y_X1_compareStrings ({ frames := 0, cells := 0, slots := 0, locals := 0 })).room s m #[.ref (a 0), .int (L0.1 1), .int (L0.1 2)] below meth c dC dI cy a z A (kI dC dI cy a z A below #[.ref (a 0), .int (L0.1 1), .int (L0.1 2)] s) 8 (y_X1_compareStrings k 12) (fun L => [(0, .ref (a 0)), (1, .int (L.1 1)), (2, .int (L.1 2)), (3, .int (L.1 3)), (4, .int (L.1 4)), (5, .int (L.1 5)), (6, .int (L.1 6))]) 133 (fun L => [.int (L.1 100)])) ∧ (bC p l e (headSpec w_y_X1_compareStrings ({ frames := 0, cells := 0, slots := 0, locals := 0 })).room s m #[.ref (a 0), .int (L0.1 1), .int (L0.1 2)] below meth c dC dI cy a z A (kI dC dI cy a z A below #[.ref (a 0), .int (L0.1 1), .int (L0.1 2)] s) 8 (y_X1_compareStrings k 13) (fun L => []) 181 (fun L => [])) ∧ (bC p l e (headSpec w_y_X1_compareStrings ({ frames := 0, cells := 0, slots := 0, locals := 0 })).room s m #[.ref (a 0), .int (L0.1 1), .int (L0.1 2)] below meth c dC dI cy a z A (kI dC dI cy a z A below #[.ref (a 0), .int (L0.1 1), .int (L0.1 2)] s) 8 (y_X1_compareStrings k 14) (fun L => [(0, .ref (a 0)), (1, .int (L.1 1)), (2, .int (L.1 2)), (3, .int (L.1 3)), (4, .int (L.1 4)), (5, .int (L.1 5))]) 155 (fun L => [])) ∧ (bC p l e (headSpec w_y_X1_compareStrings ({ frames := 0, cells := 0, slots := 0, locals := 0 })).room s m #[.ref (a 0), .int (L0.1 1), .int (L0.1 2)] below meth c dC dI cy a z A (kI dC dI cy a z A below #[.ref (a 0), .int (L0.1 1), .int (L0.1 2)] s) 8 (y_X1_compareStrings k 15) (fun L => []) 153 (fun L => [])) ∧ (bC p l e (headSpec w_y_X1_compareStrings ({ frames := 0, cells := 0, slots := 0, locals := 0 })).room s m #[.ref (a 0), .int (L0.1 1), .int (L0.1 2)] below meth c dC dI cy a z A (kI dC dI cy a z A below #[.ref (a 0), .int (L0.1 1), .int (L0.1 2)] s) 8 (y_X1_compareStrings k 16) (fun L => []) 154 (fun L => [.int (L.1 100)])) := by
    intro k
    induction k with
    | zero => exact ⟨fun L σ r h => (by cases h), fun L σ r h => (by cases h), fun L σ r h => (by cases h), fun L σ r h => (by cases h), fun L σ r h => (by cases h), fun L σ r h => (by cases h), fun L σ r h => (by cases h), fun L σ r h => (by cases h), fun L σ r h => (by cases h), fun L σ r h => (by cases h), fun L σ r h => (by cases h), fun L σ r h => (by cases h), fun L σ r h => (by cases h), fun L σ r h => (by cases h), fun L σ r h => (by cases h), fun L σ r h => (by cases h), fun L σ r h => (by cases h)⟩
    | succ k ih =>
      refine ⟨?_, ?_, ?_, ?_, ?_, ?_, ?_, ?_, ?_, ?_, ?_, ?_, ?_, ?_, ?_, ?_, ?_⟩
      · intro L σ r h H locs ls hP hD hS hl
        rw [y_X1_compareStrings] at h
        refine lv_iload_n hx hb dX1_compareStrings_0 rfl (lv_at hl 1 rfl) ?_
        refine lv_if_ge (tgt := 8) hx hb dX1_compareStrings_1 (by decide) (fun c1 => ?_) (fun c1 => ?_)
        · rw [if_pos c1] at h
          exact ih.2.1 L σ r h H locs ls hP hD hS (lv_sub hl [0, 1, 2] rfl)
        · rw [if_neg c1] at h
          refine lv_iconst (v := 1) hx hb dX1_compareStrings_4 (by decide) ?_
          refine lv_goto (tgt := 20) hx hb dX1_compareStrings_5 (by decide) ?_
          exact ih.2.2.1 (lI L 100 1) σ r h H locs ls hP hD hS (lv_sub hl [0, 1, 2] rfl)
      · intro L σ r h H locs ls hP hD hS hl
        rw [y_X1_compareStrings] at h
        refine lv_aload_n hx hb dX1_compareStrings_8 rfl (lv_at hl 0 rfl) ?_
        refine hg_0_0 hx hb hts in_y_X1_compareStrings_X1 hown hK hP (hts _ (List.mem_cons_of_mem _ (List.mem_append_left _ (List.mem_append_left _ (List.mem_of_getElem? (i := 0) rfl))))) dX1_compareStrings_9 ?_
        refine lv_iload_n hx hb dX1_compareStrings_12 rfl (lv_at hl 1 rfl) ?_
        obtain ⟨q1, h⟩ := kb_ite1 h
        refine hl_3 hx hb hK hP q1 dX1_compareStrings_13 ?_
        refine lv_iconst (v := 4) hx hb dX1_compareStrings_14 (by decide) ?_
        refine lv_iushr (v := (((σ.2.2.1 3 ((L.1 1)).toNatClampNeg)).toUInt32 >>> ((4 : Int32).toUInt32 &&& Int32.toUInt32 31)).toInt32) hx hb dX1_compareStrings_15 rfl ?_
        refine lv_sipush (v := 4095) hx hb dX1_compareStrings_16 (by decide) ?_
        refine lv_iand hx hb dX1_compareStrings_19 ?_
        exact ih.2.2.1 (lI L 100 (((((((σ.2.2.1 3 ((L.1 1)).toNatClampNeg)).toUInt32 >>> ((4 : Int32).toUInt32 &&& Int32.toUInt32 31)).toInt32)) &&& 4095))) σ r h H locs ls hP hD hS (lv_sub hl [0, 1, 2] rfl)
      · intro L σ r h H locs ls hP hD hS hl
        rw [y_X1_compareStrings] at h
        refine lv_istore_n (lv' := [(3, .int (L.1 100)), (0, .ref (a 0)), (1, .int (L.1 1)), (2, .int (L.1 2))]) hx hb dX1_compareStrings_20 rfl hl (by decide) rfl (fun ls hl => ?_)
        refine lv_iload_n hx hb dX1_compareStrings_21 rfl (lv_at hl 3 rfl) ?_
        refine lv_if_ge (tgt := 29) hx hb dX1_compareStrings_22 (by decide) (fun c1 => ?_) (fun c1 => ?_)
        · rw [if_pos c1] at h
          exact ih.2.2.2.1 (lI L 3 ((L.1 100))) σ r h H locs ls hP hD hS (lv_sub hl [1, 2, 3, 0] rfl)
        · rw [if_neg c1] at h
          refine lv_iconst (v := 1) hx hb dX1_compareStrings_25 (by decide) ?_
          refine lv_goto (tgt := 41) hx hb dX1_compareStrings_26 (by decide) ?_
          exact ih.2.2.2.2.1 (lI (lI L 3 ((L.1 100))) 100 1) σ r h H locs ls hP hD hS (lv_sub hl [1, 2, 3, 0] rfl)
      · intro L σ r h H locs ls hP hD hS hl
        rw [y_X1_compareStrings] at h
        refine lv_aload_n hx hb dX1_compareStrings_29 rfl (lv_at hl 0 rfl) ?_
        refine hg_0_0 hx hb hts in_y_X1_compareStrings_X1 hown hK hP (hts _ (List.mem_cons_of_mem _ (List.mem_append_left _ (List.mem_append_left _ (List.mem_of_getElem? (i := 0) rfl))))) dX1_compareStrings_30 ?_
        refine lv_iload_n hx hb dX1_compareStrings_33 rfl (lv_at hl 2 rfl) ?_
        obtain ⟨q1, h⟩ := kb_ite1 h
        refine hl_3 hx hb hK hP q1 dX1_compareStrings_34 ?_
        refine lv_iconst (v := 4) hx hb dX1_compareStrings_35 (by decide) ?_
        refine lv_iushr (v := (((σ.2.2.1 3 ((L.1 2)).toNatClampNeg)).toUInt32 >>> ((4 : Int32).toUInt32 &&& Int32.toUInt32 31)).toInt32) hx hb dX1_compareStrings_36 rfl ?_
        refine lv_sipush (v := 4095) hx hb dX1_compareStrings_37 (by decide) ?_
        refine lv_iand hx hb dX1_compareStrings_40 ?_
        exact ih.2.2.2.2.1 (lI L 100 (((((((σ.2.2.1 3 ((L.1 2)).toNatClampNeg)).toUInt32 >>> ((4 : Int32).toUInt32 &&& Int32.toUInt32 31)).toInt32)) &&& 4095))) σ r h H locs ls hP hD hS (lv_sub hl [0, 1, 2, 3] rfl)
      · intro L σ r h H locs ls hP hD hS hl
        rw [y_X1_compareStrings] at h
        refine lv_istore (lv' := [(4, .int (L.1 100)), (0, .ref (a 0)), (1, .int (L.1 1)), (2, .int (L.1 2)), (3, .int (L.1 3))]) hx hb dX1_compareStrings_41 hl (by decide) rfl (fun ls hl => ?_)
        refine lv_iconst (v := 0) hx hb dX1_compareStrings_43 (by decide) ?_
        refine lv_istore (lv' := [(5, .int 0), (4, .int (L.1 100)), (0, .ref (a 0)), (1, .int (L.1 1)), (2, .int (L.1 2)), (3, .int (L.1 3))]) hx hb dX1_compareStrings_44 hl (by decide) rfl (fun ls hl => ?_)
        exact ih.2.2.2.2.2.1 (lI (lI L 4 ((L.1 100))) 5 0) σ r h H locs ls hP hD hS (lv_sub hl [2, 3, 4, 5, 1, 0] rfl)
      · intro L σ r h H locs ls hP hD hS hl
        rw [y_X1_compareStrings] at h
        refine lv_iload hx hb dX1_compareStrings_46 (lv_at hl 5 rfl) ?_
        refine lv_iload_n hx hb dX1_compareStrings_48 rfl (lv_at hl 3 rfl) ?_
        refine lv_icmp_ge (tgt := 161) hx hb dX1_compareStrings_49 (by decide) (fun c1 => ?_) (fun c1 => ?_)
        · rw [if_pos c1] at h
          exact ih.2.2.2.2.2.2.1 L σ r h H locs ls hP hD hS (lv_sub hl [3, 4] rfl)
        · rw [if_neg c1] at h
          refine lv_iload hx hb dX1_compareStrings_52 (lv_at hl 5 rfl) ?_
          refine lv_iload hx hb dX1_compareStrings_54 (lv_at hl 4 rfl) ?_
          refine lv_icmp_ge (tgt := 161) hx hb dX1_compareStrings_56 (by decide) (fun c2 => ?_) (fun c2 => ?_)
          · rw [if_pos c2] at h
            exact ih.2.2.2.2.2.2.1 L σ r h H locs ls hP hD hS (lv_sub hl [3, 4] rfl)
          · rw [if_neg c2] at h
            refine lv_iload_n hx hb dX1_compareStrings_59 rfl (lv_at hl 1 rfl) ?_
            refine lv_if_ge (tgt := 71) hx hb dX1_compareStrings_60 (by decide) (fun c3 => ?_) (fun c3 => ?_)
            · rw [if_pos c3] at h
              exact ih.2.2.2.2.2.2.2.1 L σ r h H locs ls hP hD hS (lv_sub hl [0, 1, 2, 3, 4, 5] rfl)
            · rw [if_neg c3] at h
              refine lv_iload_n hx hb dX1_compareStrings_63 rfl (lv_at hl 1 rfl) ?_
              refine lv_sipush (v := 255) hx hb dX1_compareStrings_64 (by decide) ?_
              refine lv_iand hx hb dX1_compareStrings_67 ?_
              refine lv_goto (tgt := 95) hx hb dX1_compareStrings_68 (by decide) ?_
              exact ih.2.2.2.2.2.2.2.2.1 (lI L 100 ((((L.1 1)) &&& 255))) σ r h H locs ls hP hD hS (lv_sub hl [0, 1, 2, 3, 4, 5] rfl)
      · intro L σ r h H locs ls hP hD hS hl
        rw [y_X1_compareStrings] at h
        refine lv_iload_n hx hb dX1_compareStrings_161 rfl (lv_at hl 0 rfl) ?_
        refine lv_iload hx hb dX1_compareStrings_162 (lv_at hl 1 rfl) ?_
        refine lv_icmp_ne (tgt := 171) hx hb dX1_compareStrings_164 (by decide) (fun c1 => ?_) (fun c1 => ?_)
        · rw [if_neg c1] at h
          exact ih.2.2.2.2.2.2.2.2.2.1 L σ r h H locs ls hP hD hS (lv_sub hl [0, 1] rfl)
        · rw [if_pos c1] at h
          refine lv_iconst (v := 0) hx hb dX1_compareStrings_167 (by decide) ?_
          refine lv_goto (tgt := 182) hx hb dX1_compareStrings_168 (by decide) ?_
          exact ih.2.2.2.2.2.2.2.2.2.2.1 (lI L 100 0) σ r h H locs ls hP hD hS (lv_sub hl [] rfl)
      · intro L σ r h H locs ls hP hD hS hl
        rw [y_X1_compareStrings] at h
        refine lv_aload_n hx hb dX1_compareStrings_71 rfl (lv_at hl 0 rfl) ?_
        refine hg_0_0 hx hb hts in_y_X1_compareStrings_X1 hown hK hP (hts _ (List.mem_cons_of_mem _ (List.mem_append_left _ (List.mem_append_left _ (List.mem_of_getElem? (i := 0) rfl))))) dX1_compareStrings_72 ?_
        refine lv_iload_n hx hb dX1_compareStrings_75 rfl (lv_at hl 1 rfl) ?_
        refine lv_iconst (v := 1) hx hb dX1_compareStrings_76 (by decide) ?_
        refine lv_iadd hx hb dX1_compareStrings_77 ?_
        refine lv_iload hx hb dX1_compareStrings_78 (lv_at hl 5 rfl) ?_
        refine lv_iconst (v := 2) hx hb dX1_compareStrings_80 (by decide) ?_
        refine lv_ishr hx hb dX1_compareStrings_81 ?_
        refine lv_iadd hx hb dX1_compareStrings_82 ?_
        obtain ⟨q1, h⟩ := kb_ite1 h
        refine hl_3 hx hb hK hP q1 dX1_compareStrings_83 ?_
        refine lv_iload hx hb dX1_compareStrings_84 (lv_at hl 5 rfl) ?_
        refine lv_iconst (v := 3) hx hb dX1_compareStrings_86 (by decide) ?_
        refine lv_iand hx hb dX1_compareStrings_87 ?_
        refine lv_iconst (v := 3) hx hb dX1_compareStrings_88 (by decide) ?_
        refine lv_ishl hx hb dX1_compareStrings_89 ?_
        refine lv_iushr (v := (((σ.2.2.1 3 ((((((L.1 1)) + 1)) + ((((L.1 5)) >>> ((2 : Int32) &&& 31))))).toNatClampNeg)).toUInt32 >>> (((((((L.1 5)) &&& 3)) <<< ((3 : Int32) &&& 31))).toUInt32 &&& Int32.toUInt32 31)).toInt32) hx hb dX1_compareStrings_90 rfl ?_
        refine lv_sipush (v := 255) hx hb dX1_compareStrings_91 (by decide) ?_
        refine lv_iand hx hb dX1_compareStrings_94 ?_
        exact ih.2.2.2.2.2.2.2.2.1 (lI L 100 (((((((σ.2.2.1 3 ((((((L.1 1)) + 1)) + ((((L.1 5)) >>> ((2 : Int32) &&& 31))))).toNatClampNeg)).toUInt32 >>> (((((((L.1 5)) &&& 3)) <<< ((3 : Int32) &&& 31))).toUInt32 &&& Int32.toUInt32 31)).toInt32)) &&& 255))) σ r h H locs ls hP hD hS (lv_sub hl [0, 1, 2, 3, 4, 5] rfl)
      · intro L σ r h H locs ls hP hD hS hl
        rw [y_X1_compareStrings] at h
        refine lv_istore (lv' := [(6, .int (L.1 100)), (0, .ref (a 0)), (1, .int (L.1 1)), (2, .int (L.1 2)), (3, .int (L.1 3)), (4, .int (L.1 4)), (5, .int (L.1 5))]) hx hb dX1_compareStrings_95 hl (by decide) rfl (fun ls hl => ?_)
        refine lv_iload_n hx hb dX1_compareStrings_97 rfl (lv_at hl 3 rfl) ?_
        refine lv_if_ge (tgt := 109) hx hb dX1_compareStrings_98 (by decide) (fun c1 => ?_) (fun c1 => ?_)
        · rw [if_pos c1] at h
          exact ih.2.2.2.2.2.2.2.2.2.2.2.1 (lI L 6 ((L.1 100))) σ r h H locs ls hP hD hS (lv_sub hl [1, 2, 3, 4, 5, 6, 0] rfl)
        · rw [if_neg c1] at h
          refine lv_iload_n hx hb dX1_compareStrings_101 rfl (lv_at hl 3 rfl) ?_
          refine lv_sipush (v := 255) hx hb dX1_compareStrings_102 (by decide) ?_
          refine lv_iand hx hb dX1_compareStrings_105 ?_
          refine lv_goto (tgt := 133) hx hb dX1_compareStrings_106 (by decide) ?_
          exact ih.2.2.2.2.2.2.2.2.2.2.2.2.1 (lI (lI L 6 ((L.1 100))) 100 ((((L.1 2)) &&& 255))) σ r h H locs ls hP hD hS (lv_sub hl [1, 2, 3, 4, 5, 6, 0] rfl)
      · intro L σ r h H locs ls hP hD hS hl
        rw [y_X1_compareStrings] at h
        refine lv_iload_n hx hb dX1_compareStrings_171 rfl (lv_at hl 0 rfl) ?_
        refine lv_iload hx hb dX1_compareStrings_172 (lv_at hl 1 rfl) ?_
        refine lv_icmp_ge (tgt := 181) hx hb dX1_compareStrings_174 (by decide) (fun c1 => ?_) (fun c1 => ?_)
        · rw [if_pos c1] at h
          exact ih.2.2.2.2.2.2.2.2.2.2.2.2.2.1 L σ r h H locs ls hP hD hS (lv_sub hl [] rfl)
        · rw [if_neg c1] at h
          refine lv_iconst (v := (-1)) hx hb dX1_compareStrings_177 (by decide) ?_
          refine lv_goto (tgt := 182) hx hb dX1_compareStrings_178 (by decide) ?_
          exact ih.2.2.2.2.2.2.2.2.2.2.1 (lI L 100 ((-1))) σ r h H locs ls hP hD hS (lv_sub hl [] rfl)
      · intro L σ r h H locs ls hP hD hS hl
        rw [y_X1_compareStrings] at h
        obtain rfl := Option.some.inj h
        exact W.iret (v := (L.1 100)) hx hb hr (fun t ht hW => ⟨⟨(L.1 100), (), rfl, rfl, by rw [ht]; exact hP, va_K.moved hW.alike hK, hD⟩, hS.F ht⟩) hS.2.2 dX1_compareStrings_182
      · intro L σ r h H locs ls hP hD hS hl
        rw [y_X1_compareStrings] at h
        refine lv_aload_n hx hb dX1_compareStrings_109 rfl (lv_at hl 0 rfl) ?_
        refine hg_0_0 hx hb hts in_y_X1_compareStrings_X1 hown hK hP (hts _ (List.mem_cons_of_mem _ (List.mem_append_left _ (List.mem_append_left _ (List.mem_of_getElem? (i := 0) rfl))))) dX1_compareStrings_110 ?_
        refine lv_iload_n hx hb dX1_compareStrings_113 rfl (lv_at hl 2 rfl) ?_
        refine lv_iconst (v := 1) hx hb dX1_compareStrings_114 (by decide) ?_
        refine lv_iadd hx hb dX1_compareStrings_115 ?_
        refine lv_iload hx hb dX1_compareStrings_116 (lv_at hl 5 rfl) ?_
        refine lv_iconst (v := 2) hx hb dX1_compareStrings_118 (by decide) ?_
        refine lv_ishr hx hb dX1_compareStrings_119 ?_
        refine lv_iadd hx hb dX1_compareStrings_120 ?_
        obtain ⟨q1, h⟩ := kb_ite1 h
        refine hl_3 hx hb hK hP q1 dX1_compareStrings_121 ?_
        refine lv_iload hx hb dX1_compareStrings_122 (lv_at hl 5 rfl) ?_
        refine lv_iconst (v := 3) hx hb dX1_compareStrings_124 (by decide) ?_
        refine lv_iand hx hb dX1_compareStrings_125 ?_
        refine lv_iconst (v := 3) hx hb dX1_compareStrings_126 (by decide) ?_
        refine lv_ishl hx hb dX1_compareStrings_127 ?_
        refine lv_iushr (v := (((σ.2.2.1 3 ((((((L.1 2)) + 1)) + ((((L.1 5)) >>> ((2 : Int32) &&& 31))))).toNatClampNeg)).toUInt32 >>> (((((((L.1 5)) &&& 3)) <<< ((3 : Int32) &&& 31))).toUInt32 &&& Int32.toUInt32 31)).toInt32) hx hb dX1_compareStrings_128 rfl ?_
        refine lv_sipush (v := 255) hx hb dX1_compareStrings_129 (by decide) ?_
        refine lv_iand hx hb dX1_compareStrings_132 ?_
        exact ih.2.2.2.2.2.2.2.2.2.2.2.2.1 (lI L 100 (((((((σ.2.2.1 3 ((((((L.1 2)) + 1)) + ((((L.1 5)) >>> ((2 : Int32) &&& 31))))).toNatClampNeg)).toUInt32 >>> (((((((L.1 5)) &&& 3)) <<< ((3 : Int32) &&& 31))).toUInt32 &&& Int32.toUInt32 31)).toInt32)) &&& 255))) σ r h H locs ls hP hD hS (lv_sub hl [0, 1, 2, 3, 4, 5, 6] rfl)
      · intro L σ r h H locs ls hP hD hS hl
        rw [y_X1_compareStrings] at h
        refine lv_istore (lv' := [(7, .int (L.1 100)), (0, .ref (a 0)), (1, .int (L.1 1)), (2, .int (L.1 2)), (3, .int (L.1 3)), (4, .int (L.1 4)), (5, .int (L.1 5)), (6, .int (L.1 6))]) hx hb dX1_compareStrings_133 hl (by decide) rfl (fun ls hl => ?_)
        refine lv_iload hx hb dX1_compareStrings_135 (lv_at hl 7 rfl) ?_
        refine lv_iload hx hb dX1_compareStrings_137 (lv_at hl 0 rfl) ?_
        refine lv_icmp_eq (tgt := 155) hx hb dX1_compareStrings_139 (by decide) (fun c1 => ?_) (fun c1 => ?_)
        · rw [if_pos c1] at h
          exact ih.2.2.2.2.2.2.2.2.2.2.2.2.2.2.1 L σ r h H locs ls hP hD hS (lv_sub hl [1, 2, 3, 4, 5, 6] rfl)
        · rw [if_neg c1] at h
          refine lv_iload hx hb dX1_compareStrings_142 (lv_at hl 7 rfl) ?_
          refine lv_iload hx hb dX1_compareStrings_144 (lv_at hl 0 rfl) ?_
          refine lv_icmp_ge (tgt := 153) hx hb dX1_compareStrings_146 (by decide) (fun c2 => ?_) (fun c2 => ?_)
          · rw [if_pos c2] at h
            exact ih.2.2.2.2.2.2.2.2.2.2.2.2.2.2.2.1 L σ r h H locs ls hP hD hS (lv_sub hl [] rfl)
          · rw [if_neg c2] at h
            refine lv_iconst (v := (-1)) hx hb dX1_compareStrings_149 (by decide) ?_
            refine lv_goto (tgt := 154) hx hb dX1_compareStrings_150 (by decide) ?_
            exact ih.2.2.2.2.2.2.2.2.2.2.2.2.2.2.2.2 (lI L 100 ((-1))) σ r h H locs ls hP hD hS (lv_sub hl [] rfl)
      · intro L σ r h H locs ls hP hD hS hl
        rw [y_X1_compareStrings] at h
        refine lv_iconst (v := 1) hx hb dX1_compareStrings_181 (by decide) ?_
        exact ih.2.2.2.2.2.2.2.2.2.2.1 (lI L 100 1) σ r h H locs ls hP hD hS (lv_sub hl [] rfl)
      · intro L σ r h H locs ls hP hD hS hl
        rw [y_X1_compareStrings] at h
        refine lv_iinc (v := ((L.1 5)) + 1) (lv' := [(5, .int (((L.1 5)) + 1)), (0, .ref (a 0)), (1, .int (L.1 1)), (2, .int (L.1 2)), (3, .int (L.1 3)), (4, .int (L.1 4))]) hx hb dX1_compareStrings_155 hl (k := 5) rfl rfl (by decide) rfl (fun ls hl => ?_)
        refine lv_goto (tgt := 46) hx hb dX1_compareStrings_158 (by decide) ?_
        exact ih.2.2.2.2.2.1 (lI L 5 ((((L.1 5)) + 1))) σ r h H locs ls hP hD hS (lv_sub hl [1, 2, 3, 4, 5, 0] rfl)
      · intro L σ r h H locs ls hP hD hS hl
        rw [y_X1_compareStrings] at h
        refine lv_iconst (v := 1) hx hb dX1_compareStrings_153 (by decide) ?_
        exact ih.2.2.2.2.2.2.2.2.2.2.2.2.2.2.2.2 (lI L 100 1) σ r h H locs ls hP hD hS (lv_sub hl [] rfl)
      · intro L σ r h H locs ls hP hD hS hl
        rw [y_X1_compareStrings] at h
        obtain rfl := Option.some.inj h
        exact W.iret (v := (L.1 100)) hx hb hr (fun t ht hW => ⟨⟨(L.1 100), (), rfl, rfl, by rw [ht]; exact hP, va_K.moved hW.alike hK, hD⟩, hS.F ht⟩) hS.2.2 dX1_compareStrings_154
  exact (blk k0).1 L0 σ0 r0 h0 s.heap [] ls hP hD hS hl
/-! H1: X1.compare -/
def t_X1_compare (X : Nat → Nat → Nat → LV → CS → Option (Int32 × CS)) (K d : Nat) (b : Nat) (L : LV) (σ : CS) : Option (Int32 × CS) := match b with
  | 0 => if ((L.1 1)) = ((L.1 2)) then (some (0, σ)) else (X d 0 1 L σ)
  | 1 => if 0 ≤ ((L.1 1)) then (X d 0 2 L σ) else (X d 0 3 (lI L 100 (((((((L.1 1)).toUInt32 >>> ((28 : Int32).toUInt32 &&& Int32.toUInt32 31)).toInt32)) &&& 7))) σ)
  | 2 => if ¬ (((L.1 1)) < 0 ∨ (sN σ 3) ≤ ((L.1 1)).toNatClampNeg) then (X d 0 3 (lI L 100 ((((σ.2.2.1 3 ((L.1 1)).toNatClampNeg)) &&& 7))) σ) else none
  | 3 => if 0 ≤ ((L.1 2)) then (X d 0 4 (lI L 3 ((L.1 100))) σ) else (X d 0 5 (lI (lI L 3 ((L.1 100))) 100 (((((((L.1 2)).toUInt32 >>> ((28 : Int32).toUInt32 &&& Int32.toUInt32 31)).toInt32)) &&& 7))) σ)
  | 4 => if ¬ (((L.1 2)) < 0 ∨ (sN σ 3) ≤ ((L.1 2)).toNatClampNeg) then (X d 0 5 (lI L 100 ((((σ.2.2.1 3 ((L.1 2)).toNatClampNeg)) &&& 7))) σ) else none
  | 5 => if ((L.1 3)) = ((L.1 100)) then (X d 0 6 L σ) else (if ((L.1 100)) ≤ ((L.1 3)) then (X d 0 7 L σ) else (X d 0 8 (lI L 100 ((-1))) σ))
  | 6 => if 0 ≤ ((L.1 1)) then (X d 0 9 L σ) else (if 0 ≤ ((L.1 2)) then (X d 0 9 L σ) else (if ((((L.1 2)) <<< ((4 : Int32) &&& 31))) ≤ ((((L.1 1)) <<< ((4 : Int32) &&& 31))) then (X d 0 10 L σ) else (X d 0 11 (lI L 100 ((-1))) σ)))
  | 7 => X d 0 8 (lI L 100 1) σ
  | 8 => some ((L.1 100), σ)
  | 9 => if 5 ≤ ((L.1 3)) then (X d 0 12 L σ) else (if ((L.1 3)) = 2 then (oc (y_X1_compareWholes K 0 (lI (lI lZ 1 ((L.1 1))) 2 ((L.1 2))) σ) (fun r3 => X d 0 14 (lI L 100 r3.1) r3.2)) else (X d 0 13 L σ))
  | 10 => X d 0 11 (lI L 100 1) σ
  | 11 => some ((L.1 100), σ)
  | 12 => if ¬ (((L.1 1)) < 0 ∨ (sN σ 3) ≤ ((L.1 1)).toNatClampNeg) then (if ¬ (((L.1 2)) < 0 ∨ (sN σ 3) ≤ ((L.1 2)).toNatClampNeg) then (X d 0 15 (lI (lI (lI L 5 (((((((σ.2.2.1 3 ((L.1 1)).toNatClampNeg)).toUInt32 >>> ((4 : Int32).toUInt32 &&& Int32.toUInt32 31)).toInt32)) &&& 4095))) 6 (((((((σ.2.2.1 3 ((L.1 2)).toNatClampNeg)).toUInt32 >>> ((4 : Int32).toUInt32 &&& Int32.toUInt32 31)).toInt32)) &&& 4095))) 7 1) σ) else none) else none
  | 13 => oc (y_X1_compareStrings K 0 (lI (lI lZ 1 ((L.1 1))) 2 ((L.1 2))) σ) (fun r1 => X d 0 14 (lI L 100 r1.1) r1.2)
  | 14 => some ((L.1 100), σ)
  | 15 => if ((L.1 5)) < ((L.1 7)) then (X d 0 16 L σ) else (if ((L.1 6)) < ((L.1 7)) then (X d 0 16 L σ) else (if ¬ (((((L.1 1)) + ((L.1 7)))) < 0 ∨ (sN σ 3) ≤ ((((L.1 1)) + ((L.1 7)))).toNatClampNeg) then (if ¬ (((((L.1 2)) + ((L.1 7)))) < 0 ∨ (sN σ 3) ≤ ((((L.1 2)) + ((L.1 7)))).toNatClampNeg) then (if ((σ.2.2.1 3 ((((L.1 1)) + ((L.1 7)))).toNatClampNeg)) = ((σ.2.2.1 3 ((((L.1 2)) + ((L.1 7)))).toNatClampNeg)) then (X d 0 18 (lI L 100 0) σ) else (X d 0 17 L σ)) else none) else none))
  | 16 => if ((L.1 5)) = ((L.1 6)) then (X d 0 20 (lI L 100 0) σ) else (X d 0 19 L σ)
  | 17 => if ¬ (((((L.1 1)) + ((L.1 7)))) < 0 ∨ (sN σ 3) ≤ ((((L.1 1)) + ((L.1 7)))).toNatClampNeg) then (if ¬ (((((L.1 2)) + ((L.1 7)))) < 0 ∨ (sN σ 3) ≤ ((((L.1 2)) + ((L.1 7)))).toNatClampNeg) then (oe d (fun e3 => oc (X e3 0 0 (lI (lI lZ 1 ((σ.2.2.1 3 ((((L.1 1)) + ((L.1 7)))).toNatClampNeg))) 2 ((σ.2.2.1 3 ((((L.1 2)) + ((L.1 7)))).toNatClampNeg))) σ) (fun r3 => X d 0 18 (lI L 100 r3.1) r3.2))) else none) else none
  | 18 => if ((L.1 100)) = 0 then (X d 0 21 L σ) else (some ((L.1 100), σ))
  | 19 => if ((L.1 6)) ≤ ((L.1 5)) then (X d 0 22 L σ) else (X d 0 20 (lI L 100 ((-1))) σ)
  | 20 => some ((L.1 100), σ)
  | 21 => X d 0 15 (lI L 7 ((((L.1 7)) + 1))) σ
  | 22 => X d 0 20 (lI L 100 1) σ
  | _ => none
theorem t_X1_compare_0 (X : Nat → Nat → Nat → LV → CS → Option (Int32 × CS)) (K d : Nat) (L : LV) (σ : CS) : t_X1_compare X K d 0 L σ = (if ((L.1 1)) = ((L.1 2)) then (some (0, σ)) else (X d 0 1 L σ)) := rfl
theorem t_X1_compare_1 (X : Nat → Nat → Nat → LV → CS → Option (Int32 × CS)) (K d : Nat) (L : LV) (σ : CS) : t_X1_compare X K d 1 L σ = (if 0 ≤ ((L.1 1)) then (X d 0 2 L σ) else (X d 0 3 (lI L 100 (((((((L.1 1)).toUInt32 >>> ((28 : Int32).toUInt32 &&& Int32.toUInt32 31)).toInt32)) &&& 7))) σ)) := rfl
theorem t_X1_compare_2 (X : Nat → Nat → Nat → LV → CS → Option (Int32 × CS)) (K d : Nat) (L : LV) (σ : CS) : t_X1_compare X K d 2 L σ = (if ¬ (((L.1 1)) < 0 ∨ (sN σ 3) ≤ ((L.1 1)).toNatClampNeg) then (X d 0 3 (lI L 100 ((((σ.2.2.1 3 ((L.1 1)).toNatClampNeg)) &&& 7))) σ) else none) := rfl
theorem t_X1_compare_3 (X : Nat → Nat → Nat → LV → CS → Option (Int32 × CS)) (K d : Nat) (L : LV) (σ : CS) : t_X1_compare X K d 3 L σ = (if 0 ≤ ((L.1 2)) then (X d 0 4 (lI L 3 ((L.1 100))) σ) else (X d 0 5 (lI (lI L 3 ((L.1 100))) 100 (((((((L.1 2)).toUInt32 >>> ((28 : Int32).toUInt32 &&& Int32.toUInt32 31)).toInt32)) &&& 7))) σ)) := rfl
theorem t_X1_compare_4 (X : Nat → Nat → Nat → LV → CS → Option (Int32 × CS)) (K d : Nat) (L : LV) (σ : CS) : t_X1_compare X K d 4 L σ = (if ¬ (((L.1 2)) < 0 ∨ (sN σ 3) ≤ ((L.1 2)).toNatClampNeg) then (X d 0 5 (lI L 100 ((((σ.2.2.1 3 ((L.1 2)).toNatClampNeg)) &&& 7))) σ) else none) := rfl
theorem t_X1_compare_5 (X : Nat → Nat → Nat → LV → CS → Option (Int32 × CS)) (K d : Nat) (L : LV) (σ : CS) : t_X1_compare X K d 5 L σ = (if ((L.1 3)) = ((L.1 100)) then (X d 0 6 L σ) else (if ((L.1 100)) ≤ ((L.1 3)) then (X d 0 7 L σ) else (X d 0 8 (lI L 100 ((-1))) σ))) := rfl
theorem t_X1_compare_6 (X : Nat → Nat → Nat → LV → CS → Option (Int32 × CS)) (K d : Nat) (L : LV) (σ : CS) : t_X1_compare X K d 6 L σ = (if 0 ≤ ((L.1 1)) then (X d 0 9 L σ) else (if 0 ≤ ((L.1 2)) then (X d 0 9 L σ) else (if ((((L.1 2)) <<< ((4 : Int32) &&& 31))) ≤ ((((L.1 1)) <<< ((4 : Int32) &&& 31))) then (X d 0 10 L σ) else (X d 0 11 (lI L 100 ((-1))) σ)))) := rfl
theorem t_X1_compare_7 (X : Nat → Nat → Nat → LV → CS → Option (Int32 × CS)) (K d : Nat) (L : LV) (σ : CS) : t_X1_compare X K d 7 L σ = (X d 0 8 (lI L 100 1) σ) := rfl
theorem t_X1_compare_8 (X : Nat → Nat → Nat → LV → CS → Option (Int32 × CS)) (K d : Nat) (L : LV) (σ : CS) : t_X1_compare X K d 8 L σ = (some ((L.1 100), σ)) := rfl
theorem t_X1_compare_9 (X : Nat → Nat → Nat → LV → CS → Option (Int32 × CS)) (K d : Nat) (L : LV) (σ : CS) : t_X1_compare X K d 9 L σ = (if 5 ≤ ((L.1 3)) then (X d 0 12 L σ) else (if ((L.1 3)) = 2 then (oc (y_X1_compareWholes K 0 (lI (lI lZ 1 ((L.1 1))) 2 ((L.1 2))) σ) (fun r3 => X d 0 14 (lI L 100 r3.1) r3.2)) else (X d 0 13 L σ))) := rfl
theorem t_X1_compare_10 (X : Nat → Nat → Nat → LV → CS → Option (Int32 × CS)) (K d : Nat) (L : LV) (σ : CS) : t_X1_compare X K d 10 L σ = (X d 0 11 (lI L 100 1) σ) := rfl
theorem t_X1_compare_11 (X : Nat → Nat → Nat → LV → CS → Option (Int32 × CS)) (K d : Nat) (L : LV) (σ : CS) : t_X1_compare X K d 11 L σ = (some ((L.1 100), σ)) := rfl
theorem t_X1_compare_12 (X : Nat → Nat → Nat → LV → CS → Option (Int32 × CS)) (K d : Nat) (L : LV) (σ : CS) : t_X1_compare X K d 12 L σ = (if ¬ (((L.1 1)) < 0 ∨ (sN σ 3) ≤ ((L.1 1)).toNatClampNeg) then (if ¬ (((L.1 2)) < 0 ∨ (sN σ 3) ≤ ((L.1 2)).toNatClampNeg) then (X d 0 15 (lI (lI (lI L 5 (((((((σ.2.2.1 3 ((L.1 1)).toNatClampNeg)).toUInt32 >>> ((4 : Int32).toUInt32 &&& Int32.toUInt32 31)).toInt32)) &&& 4095))) 6 (((((((σ.2.2.1 3 ((L.1 2)).toNatClampNeg)).toUInt32 >>> ((4 : Int32).toUInt32 &&& Int32.toUInt32 31)).toInt32)) &&& 4095))) 7 1) σ) else none) else none) := rfl
theorem t_X1_compare_13 (X : Nat → Nat → Nat → LV → CS → Option (Int32 × CS)) (K d : Nat) (L : LV) (σ : CS) : t_X1_compare X K d 13 L σ = (oc (y_X1_compareStrings K 0 (lI (lI lZ 1 ((L.1 1))) 2 ((L.1 2))) σ) (fun r1 => X d 0 14 (lI L 100 r1.1) r1.2)) := rfl
theorem t_X1_compare_14 (X : Nat → Nat → Nat → LV → CS → Option (Int32 × CS)) (K d : Nat) (L : LV) (σ : CS) : t_X1_compare X K d 14 L σ = (some ((L.1 100), σ)) := rfl
theorem t_X1_compare_15 (X : Nat → Nat → Nat → LV → CS → Option (Int32 × CS)) (K d : Nat) (L : LV) (σ : CS) : t_X1_compare X K d 15 L σ = (if ((L.1 5)) < ((L.1 7)) then (X d 0 16 L σ) else (if ((L.1 6)) < ((L.1 7)) then (X d 0 16 L σ) else (if ¬ (((((L.1 1)) + ((L.1 7)))) < 0 ∨ (sN σ 3) ≤ ((((L.1 1)) + ((L.1 7)))).toNatClampNeg) then (if ¬ (((((L.1 2)) + ((L.1 7)))) < 0 ∨ (sN σ 3) ≤ ((((L.1 2)) + ((L.1 7)))).toNatClampNeg) then (if ((σ.2.2.1 3 ((((L.1 1)) + ((L.1 7)))).toNatClampNeg)) = ((σ.2.2.1 3 ((((L.1 2)) + ((L.1 7)))).toNatClampNeg)) then (X d 0 18 (lI L 100 0) σ) else (X d 0 17 L σ)) else none) else none))) := rfl
theorem t_X1_compare_16 (X : Nat → Nat → Nat → LV → CS → Option (Int32 × CS)) (K d : Nat) (L : LV) (σ : CS) : t_X1_compare X K d 16 L σ = (if ((L.1 5)) = ((L.1 6)) then (X d 0 20 (lI L 100 0) σ) else (X d 0 19 L σ)) := rfl
theorem t_X1_compare_17 (X : Nat → Nat → Nat → LV → CS → Option (Int32 × CS)) (K d : Nat) (L : LV) (σ : CS) : t_X1_compare X K d 17 L σ = (if ¬ (((((L.1 1)) + ((L.1 7)))) < 0 ∨ (sN σ 3) ≤ ((((L.1 1)) + ((L.1 7)))).toNatClampNeg) then (if ¬ (((((L.1 2)) + ((L.1 7)))) < 0 ∨ (sN σ 3) ≤ ((((L.1 2)) + ((L.1 7)))).toNatClampNeg) then (oe d (fun e3 => oc (X e3 0 0 (lI (lI lZ 1 ((σ.2.2.1 3 ((((L.1 1)) + ((L.1 7)))).toNatClampNeg))) 2 ((σ.2.2.1 3 ((((L.1 2)) + ((L.1 7)))).toNatClampNeg))) σ) (fun r3 => X d 0 18 (lI L 100 r3.1) r3.2))) else none) else none) := rfl
theorem t_X1_compare_18 (X : Nat → Nat → Nat → LV → CS → Option (Int32 × CS)) (K d : Nat) (L : LV) (σ : CS) : t_X1_compare X K d 18 L σ = (if ((L.1 100)) = 0 then (X d 0 21 L σ) else (some ((L.1 100), σ))) := rfl
theorem t_X1_compare_19 (X : Nat → Nat → Nat → LV → CS → Option (Int32 × CS)) (K d : Nat) (L : LV) (σ : CS) : t_X1_compare X K d 19 L σ = (if ((L.1 6)) ≤ ((L.1 5)) then (X d 0 22 L σ) else (X d 0 20 (lI L 100 ((-1))) σ)) := rfl
theorem t_X1_compare_20 (X : Nat → Nat → Nat → LV → CS → Option (Int32 × CS)) (K d : Nat) (L : LV) (σ : CS) : t_X1_compare X K d 20 L σ = (some ((L.1 100), σ)) := rfl
theorem t_X1_compare_21 (X : Nat → Nat → Nat → LV → CS → Option (Int32 × CS)) (K d : Nat) (L : LV) (σ : CS) : t_X1_compare X K d 21 L σ = (X d 0 15 (lI L 7 ((((L.1 7)) + 1))) σ) := rfl
theorem t_X1_compare_22 (X : Nat → Nat → Nat → LV → CS → Option (Int32 × CS)) (K d : Nat) (L : LV) (σ : CS) : t_X1_compare X K d 22 L σ = (X d 0 20 (lI L 100 1) σ) := rfl
def y_H1 : Nat → Nat → Nat → Nat → LV → CS → Option (Int32 × CS)
  | 0 => fun _ _ _ _ _ => none
  | k + 1 => fun d m b L σ => match m with
    | 0 => t_X1_compare (y_H1 k) k d b L σ
    | _ => none
theorem y_H1_0 (k d b : Nat) (L : LV) (σ : CS) : y_H1 (k + 1) d 0 b L σ = t_X1_compare (y_H1 k) k d b L σ := rfl
def o_y_H1 : List Cond := [.code yX1_compare cX1_compare 9 (some .int), .fieldLink RX1 11 "SetHouse$Heap" "mem" "[I", .methodLink RX1 68 yX1_compareWholes, .instanceMethod yX1_compareWholes, .selects RX1 yX1_compareWholes yX1_compareWholes, .initialized RX1, .methodLink RX1 71 yX1_compareStrings, .instanceMethod yX1_compareStrings, .selects RX1 yX1_compareStrings yX1_compareStrings, .methodLink RX1 65 yX1_compare, .instanceMethod yX1_compare, .selects RX1 yX1_compare yX1_compare]
theorem o_y_H1_good : o_y_H1.all goodWord = true := by decide +kernel
def p_y_H1 : List Cond := o_y_H1 ++ ((.code yX1_compareWholes cX1_compareWholes 11 (some .int) :: p_y_X1_compareWholes) ++ ((.code yX1_compareStrings cX1_compareStrings 8 (some .int) :: p_y_X1_compareStrings) ++ []))
theorem p_y_H1_good : p_y_H1.all goodWord = true := nb_all2 o_y_H1_good (nb_all2 (nb_allc (by decide +kernel) p_y_X1_compareWholes_good) (nb_all2 (nb_allc (by decide +kernel) p_y_X1_compareStrings_good) rfl))
def w_y_X1_compare : List Cond := .code yX1_compare cX1_compare 9 (some .int) :: (p_y_H1 ++ fC)
theorem w_y_X1_compare_good : w_y_X1_compare.all goodWord = true := nb_allc (by decide +kernel) (nb_all2 p_y_H1_good fC_good)
theorem in_y_X1_compare_X1 : ∀ w ∈ wsX10, w ∈ w_y_X1_compare := fun _ h => List.mem_cons_of_mem _ (List.mem_append_right _ (List.mem_append_right _ (List.mem_append_left _ h)))
theorem hd_y_X1_compare : yX1_compare.cls = RX1 ∧ yX1_compare.cls ≠ "java/lang/invoke/MethodHandle" ∧ yX1_compare.cls ≠ "java/lang/invoke/VarHandle" ∧ (parseMethodDescriptor yX1_compare.desc).map (fun d => d.parameters.length) = some 2 := by decide +kernel
abbrev P_H1 (l : Launch) (dC : Nat → ClassId) (dI : Nat → Nat → Nat) (cy : Nat → ClassId) (a z : Nat → Nat) (k0 : Nat) : Prop := (∀ (d : Nat) (L0 : LV) (σ0 : CS) (r0 : Int32 × CS), y_H1 k0 d 0 0 L0 σ0 = some r0 → ∀ (sz : Nat), Met l yX1_compare w_y_X1_compare ({ frames := 1 + d, cells := 0, slots := 0, locals := 30 + 28 * d }) (va_Pc [.ref (a 0), .int (L0.1 1), .int (L0.1 2)] (nIn (dC, dI) cy sz (vC cy a z σ0))) (va_Qi (fun (x : Int32) (_ : Unit) => x = r0.1) (fun _ t => nOut (dC, dI) cy (va_A (vC cy a z σ0) sz) (vC cy a z r0.2) t) (va_A (vC cy a z σ0) sz)) 0 0 (va_A (vC cy a z σ0) sz))
theorem gg_y_X1_compare_X1_compareStrings : GoodIn w_y_X1_compare w_y_X1_compareStrings := goodIn_sub (fun w h => (List.mem_cons.mp h).elim (fun e => (List.mem_cons_of_mem _ (List.mem_append_left _ (List.mem_append_right _ (List.mem_append_right _ (List.mem_append_left _ (List.mem_cons.mpr (Or.inl e)))))))) (fun h => (List.mem_append.mp h).elim (fun h => (List.mem_cons_of_mem _ (List.mem_append_left _ (List.mem_append_right _ (List.mem_append_right _ (List.mem_append_left _ (List.mem_cons_of_mem _ h))))))) (fun h => List.mem_cons_of_mem _ (List.mem_append_right _ h)))) w_y_X1_compareStrings_good
theorem g_y_X1_compare_X1_compareStrings_V71 : GoodIn w_y_X1_compare (wsV RX1 71 RX1 yX1_compareStrings w_y_X1_compareStrings) := goodIn_app (nb_g4 (List.mem_cons_of_mem _ (List.mem_append_left _ (List.mem_append_left _ (List.mem_of_getElem? (i := 6) rfl)))) (List.mem_cons_of_mem _ (List.mem_append_left _ (List.mem_append_left _ (List.mem_of_getElem? (i := 7) rfl)))) (List.mem_cons_of_mem _ (List.mem_append_left _ (List.mem_append_left _ (List.mem_of_getElem? (i := 8) rfl)))) (List.mem_cons_of_mem _ (List.mem_append_left _ (List.mem_append_left _ (List.mem_of_getElem? (i := 5) rfl)))) (by decide +kernel)) gg_y_X1_compare_X1_compareStrings
theorem gg_y_X1_compare_X1_compareWholes : GoodIn w_y_X1_compare w_y_X1_compareWholes := goodIn_sub (fun w h => (List.mem_cons.mp h).elim (fun e => (List.mem_cons_of_mem _ (List.mem_append_left _ (List.mem_append_right _ (List.mem_append_left _ (List.mem_cons.mpr (Or.inl e))))))) (fun h => (List.mem_append.mp h).elim (fun h => (List.mem_cons_of_mem _ (List.mem_append_left _ (List.mem_append_right _ (List.mem_append_left _ (List.mem_cons_of_mem _ h)))))) (fun h => List.mem_cons_of_mem _ (List.mem_append_right _ h)))) w_y_X1_compareWholes_good
theorem g_y_X1_compare_X1_compareWholes_V68 : GoodIn w_y_X1_compare (wsV RX1 68 RX1 yX1_compareWholes w_y_X1_compareWholes) := goodIn_app (nb_g4 (List.mem_cons_of_mem _ (List.mem_append_left _ (List.mem_append_left _ (List.mem_of_getElem? (i := 2) rfl)))) (List.mem_cons_of_mem _ (List.mem_append_left _ (List.mem_append_left _ (List.mem_of_getElem? (i := 3) rfl)))) (List.mem_cons_of_mem _ (List.mem_append_left _ (List.mem_append_left _ (List.mem_of_getElem? (i := 4) rfl)))) (List.mem_cons_of_mem _ (List.mem_append_left _ (List.mem_append_left _ (List.mem_of_getElem? (i := 5) rfl)))) (by decide +kernel)) gg_y_X1_compare_X1_compareWholes
theorem gg_y_X1_compare_X1_compare : GoodIn w_y_X1_compare w_y_X1_compare := goodIn_sub (fun w h => (List.mem_cons.mp h).elim (fun e => e ▸ (List.mem_cons_of_mem _ (List.mem_append_left _ (List.mem_append_left _ (List.mem_of_getElem? (i := 0) rfl))))) (fun h => List.mem_cons_of_mem _ h)) w_y_X1_compare_good
theorem g_y_X1_compare_X1_compare_V65 : GoodIn w_y_X1_compare (wsV RX1 65 RX1 yX1_compare w_y_X1_compare) := goodIn_app (nb_g4 (List.mem_cons_of_mem _ (List.mem_append_left _ (List.mem_append_left _ (List.mem_of_getElem? (i := 9) rfl)))) (List.mem_cons_of_mem _ (List.mem_append_left _ (List.mem_append_left _ (List.mem_of_getElem? (i := 10) rfl)))) (List.mem_cons_of_mem _ (List.mem_append_left _ (List.mem_append_left _ (List.mem_of_getElem? (i := 11) rfl)))) (List.mem_cons_of_mem _ (List.mem_append_left _ (List.mem_append_left _ (List.mem_of_getElem? (i := 5) rfl)))) (by decide +kernel)) gg_y_X1_compare_X1_compare
set_option maxHeartbeats 40000000 in
set_option maxRecDepth 100000 in
theorem c_t_X1_compare (l : Launch) (dC : Nat → ClassId) (dI : Nat → Nat → Nat) (cy : Nat → ClassId) (a z : Nat → Nat) (k0 : Nat) (IH : ∀ j : Nat, j < k0 → P_H1 l dC dI cy a z j) (d : Nat) (L0 : LV) (σ0 : CS) (r0 : Int32 × CS) (h0 : y_H1 k0 d 0 0 L0 σ0 = some r0) (sz : Nat) : Met l yX1_compare w_y_X1_compare ({ frames := 1 + d, cells := 0, slots := 0, locals := 30 + 28 * d }) (va_Pc [.ref (a 0), .int (L0.1 1), .int (L0.1 2)] (nIn (dC, dI) cy sz (vC cy a z σ0))) (va_Qi (fun (x : Int32) (_ : Unit) => x = r0.1) (fun _ t => nOut (dC, dI) cy (va_A (vC cy a z σ0) sz) (vC cy a z r0.2) t) (va_A (vC cy a z σ0) sz)) 0 0 (va_A (vC cy a z σ0) sz) := by
  refine Met.ofW (cc := cX1_compare) (maxL := 9) (ret := (some .int)) (by decide) rfl ?_
  intro p e s m args below meth c s₁ B hml hv
  obtain ⟨rfl, hsz, hP, hK, hD0, hG⟩ := hv
  have hx := B.exec
  have hb := B.bytes
  have hr := B.returns
  have hts := atoms_spec (ws := w_y_X1_compare) B.pre
  have hown : s.vm.findClass RX1 = some m.cls := findClass_of_methodNamed B.named
  have hlocks := B.notSynchronized
  subst hsz
  have hD := hD0.self (sz := s.heap.size)
  generalize hAe : va_A (vC cy a z σ0) s.heap.size = A at hD ⊢
  have hA : ∀ q : Nat, s.heap.size ≤ q → A q := fun q h => by rw [← hAe]; exact Or.inr h
  have hS : va_S A s.heap s.heap [] := va_S.rf
  have hl := lv_entry ([.ref (a 0), .int (L0.1 1), .int (L0.1 2)]) (n := 9) (Nat.le_of_ble_eq_true rfl)
  rw [lg_entry_eq]
  generalize (lg_sl ([.ref (a 0), .int (L0.1 1), .int (L0.1 2)]) ++ List.replicate (9 - (lg_sl ([.ref (a 0), .int (L0.1 1), .int (L0.1 2)])).length) Slot.unset).toArray = ls at hl ⊢
  have hl : lv_has ls 9 [(0, .ref (a 0)), (1, .int (L0.1 1)), (2, .int (L0.1 2))] := hl
  have blk : ∀ k : Nat, k ≤ k0 → (bC p l e (headSpec w_y_X1_compare ({ frames := 1 + d, cells := 0, slots := 0, locals := 30 + 28 * d })).room s m #[.ref (a 0), .int (L0.1 1), .int (L0.1 2)] below meth c dC dI cy a z A (kI dC dI cy a z A below #[.ref (a 0), .int (L0.1 1), .int (L0.1 2)] s) 9 (y_H1 k d 0 0) (fun L => [(0, .ref (a 0)), (1, .int (L.1 1)), (2, .int (L.1 2))]) 0 (fun L => [])) ∧ (bC p l e (headSpec w_y_X1_compare ({ frames := 1 + d, cells := 0, slots := 0, locals := 30 + 28 * d })).room s m #[.ref (a 0), .int (L0.1 1), .int (L0.1 2)] below meth c dC dI cy a z A (kI dC dI cy a z A below #[.ref (a 0), .int (L0.1 1), .int (L0.1 2)] s) 9 (y_H1 k d 0 1) (fun L => [(0, .ref (a 0)), (1, .int (L.1 1)), (2, .int (L.1 2))]) 7 (fun L => [])) ∧ (bC p l e (headSpec w_y_X1_compare ({ frames := 1 + d, cells := 0, slots := 0, locals := 30 + 28 * d })).room s m #[.ref (a 0), .int (L0.1 1), .int (L0.1 2)] below meth c dC dI cy a z A (kI dC dI cy a z A below #[.ref (a 0), .int (L0.1 1), .int (L0.1 2)] s) 9 (y_H1 k d 0 2) (fun L => [(0, .ref (a 0)), (1, .int (L.1 1)), (2, .int (L.1 2))]) 21 (fun L => [])) ∧ (bC p l e (headSpec w_y_X1_compare ({ frames := 1 + d, cells := 0, slots := 0, locals := 30 + 28 * d })).room s m #[.ref (a 0), .int (L0.1 1), .int (L0.1 2)] below meth c dC dI cy a z A (kI dC dI cy a z A below #[.ref (a 0), .int (L0.1 1), .int (L0.1 2)] s) 9 (y_H1 k d 0 3) (fun L => [(0, .ref (a 0)), (1, .int (L.1 1)), (2, .int (L.1 2))]) 30 (fun L => [.int (L.1 100)])) ∧ (bC p l e (headSpec w_y_X1_compare ({ frames := 1 + d, cells := 0, slots := 0, locals := 30 + 28 * d })).room s m #[.ref (a 0), .int (L0.1 1), .int (L0.1 2)] below meth c dC dI cy a z A (kI dC dI cy a z A below #[.ref (a 0), .int (L0.1 1), .int (L0.1 2)] s) 9 (y_H1 k d 0 4) (fun L => [(0, .ref (a 0)), (1, .int (L.1 1)), (2, .int (L.1 2)), (3, .int (L.1 3))]) 45 (fun L => [])) ∧ (bC p l e (headSpec w_y_X1_compare ({ frames := 1 + d, cells := 0, slots := 0, locals := 30 + 28 * d })).room s m #[.ref (a 0), .int (L0.1 1), .int (L0.1 2)] below meth c dC dI cy a z A (kI dC dI cy a z A below #[.ref (a 0), .int (L0.1 1), .int (L0.1 2)] s) 9 (y_H1 k d 0 5) (fun L => [(0, .ref (a 0)), (1, .int (L.1 1)), (2, .int (L.1 2)), (3, .int (L.1 3))]) 54 (fun L => [.int (L.1 100)])) ∧ (bC p l e (headSpec w_y_X1_compare ({ frames := 1 + d, cells := 0, slots := 0, locals := 30 + 28 * d })).room s m #[.ref (a 0), .int (L0.1 1), .int (L0.1 2)] below meth c dC dI cy a z A (kI dC dI cy a z A below #[.ref (a 0), .int (L0.1 1), .int (L0.1 2)] s) 9 (y_H1 k d 0 6) (fun L => [(0, .ref (a 0)), (1, .int (L.1 1)), (2, .int (L.1 2)), (3, .int (L.1 3))]) 74 (fun L => [])) ∧ (bC p l e (headSpec w_y_X1_compare ({ frames := 1 + d, cells := 0, slots := 0, locals := 30 + 28 * d })).room s m #[.ref (a 0), .int (L0.1 1), .int (L0.1 2)] below meth c dC dI cy a z A (kI dC dI cy a z A below #[.ref (a 0), .int (L0.1 1), .int (L0.1 2)] s) 9 (y_H1 k d 0 7) (fun L => []) 72 (fun L => [])) ∧ (bC p l e (headSpec w_y_X1_compare ({ frames := 1 + d, cells := 0, slots := 0, locals := 30 + 28 * d })).room s m #[.ref (a 0), .int (L0.1 1), .int (L0.1 2)] below meth c dC dI cy a z A (kI dC dI cy a z A below #[.ref (a 0), .int (L0.1 1), .int (L0.1 2)] s) 9 (y_H1 k d 0 8) (fun L => []) 73 (fun L => [.int (L.1 100)])) ∧ (bC p l e (headSpec w_y_X1_compare ({ frames := 1 + d, cells := 0, slots := 0, locals := 30 + 28 * d })).room s m #[.ref (a 0), .int (L0.1 1), .int (L0.1 2)] below meth c dC dI cy a z A (kI dC dI cy a z A below #[.ref (a 0), .int (L0.1 1), .int (L0.1 2)] s) 9 (y_H1 k d 0 9) (fun L => [(0, .ref (a 0)), (1, .int (L.1 1)), (2, .int (L.1 2)), (3, .int (L.1 3))]) 97 (fun L => [])) ∧ (bC p l e (headSpec w_y_X1_compare ({ frames := 1 + d, cells := 0, slots := 0, locals := 30 + 28 * d })).room s m #[.ref (a 0), .int (L0.1 1), .int (L0.1 2)] below meth c dC dI cy a z A (kI dC dI cy a z A below #[.ref (a 0), .int (L0.1 1), .int (L0.1 2)] s) 9 (y_H1 k d 0 10) (fun L => []) 95 (fun L => [])) ∧ (bC p l e (headSpec w_y_X1_compare ({ frames := 1 + d, cells := 0, slots := 0, locals := 30 + 28 * d })).room s m #[.ref (a 0), .int (L0.1 1), .int (L0.1 2)] below meth c dC dI cy a z A (kI dC dI cy a z A below #[.ref (a 0), .int (L0.1 1), .int (L0.1 2)] s) 9 (y_H1 k d 0 11) (fun L => []) 96 (fun L => [.int (L.1 100)])) ∧ (bC p l e (headSpec w_y_X1_compare ({ frames := 1 + d, cells := 0, slots := 0, locals := 30 + 28 * d })).room s m #[.ref (a 0), .int (L0.1 1), .int (L0.1 2)] below meth c dC dI cy a z A (kI dC dI cy a z A below #[.ref (a 0), .int (L0.1 1), .int (L0.1 2)] s) 9 (y_H1 k d 0 12) (fun L => [(0, .ref (a 0)), (1, .int (L.1 1)), (2, .int (L.1 2))]) 123 (fun L => [])) ∧ (bC p l e (headSpec w_y_X1_compare ({ frames := 1 + d, cells := 0, slots := 0, locals := 30 + 28 * d })).room s m #[.ref (a 0), .int (L0.1 1), .int (L0.1 2)] below meth c dC dI cy a z A (kI dC dI cy a z A below #[.ref (a 0), .int (L0.1 1), .int (L0.1 2)] s) 9 (y_H1 k d 0 13) (fun L => [(0, .ref (a 0)), (1, .int (L.1 1)), (2, .int (L.1 2))]) 116 (fun L => [])) ∧ (bC p l e (headSpec w_y_X1_compare ({ frames := 1 + d, cells := 0, slots := 0, locals := 30 + 28 * d })).room s m #[.ref (a 0), .int (L0.1 1), .int (L0.1 2)] below meth c dC dI cy a z A (kI dC dI cy a z A below #[.ref (a 0), .int (L0.1 1), .int (L0.1 2)] s) 9 (y_H1 k d 0 14) (fun L => []) 122 (fun L => [.int (L.1 100)])) ∧ (bC p l e (headSpec w_y_X1_compare ({ frames := 1 + d, cells := 0, slots := 0, locals := 30 + 28 * d })).room s m #[.ref (a 0), .int (L0.1 1), .int (L0.1 2)] below meth c dC dI cy a z A (kI dC dI cy a z A below #[.ref (a 0), .int (L0.1 1), .int (L0.1 2)] s) 9 (y_H1 k d 0 15) (fun L => [(0, .ref (a 0)), (1, .int (L.1 1)), (2, .int (L.1 2)), (5, .int (L.1 5)), (6, .int (L.1 6)), (7, .int (L.1 7))]) 154 (fun L => [])) ∧ (bC p l e (headSpec w_y_X1_compare ({ frames := 1 + d, cells := 0, slots := 0, locals := 30 + 28 * d })).room s m #[.ref (a 0), .int (L0.1 1), .int (L0.1 2)] below meth c dC dI cy a z A (kI dC dI cy a z A below #[.ref (a 0), .int (L0.1 1), .int (L0.1 2)] s) 9 (y_H1 k d 0 16) (fun L => [(5, .int (L.1 5)), (6, .int (L.1 6))]) 231 (fun L => [])) ∧ (bC p l e (headSpec w_y_X1_compare ({ frames := 1 + d, cells := 0, slots := 0, locals := 30 + 28 * d })).room s m #[.ref (a 0), .int (L0.1 1), .int (L0.1 2)] below meth c dC dI cy a z A (kI dC dI cy a z A below #[.ref (a 0), .int (L0.1 1), .int (L0.1 2)] s) 9 (y_H1 k d 0 17) (fun L => [(0, .ref (a 0)), (1, .int (L.1 1)), (2, .int (L.1 2)), (5, .int (L.1 5)), (6, .int (L.1 6)), (7, .int (L.1 7))]) 193 (fun L => [])) ∧ (bC p l e (headSpec w_y_X1_compare ({ frames := 1 + d, cells := 0, slots := 0, locals := 30 + 28 * d })).room s m #[.ref (a 0), .int (L0.1 1), .int (L0.1 2)] below meth c dC dI cy a z A (kI dC dI cy a z A below #[.ref (a 0), .int (L0.1 1), .int (L0.1 2)] s) 9 (y_H1 k d 0 18) (fun L => [(0, .ref (a 0)), (1, .int (L.1 1)), (2, .int (L.1 2)), (5, .int (L.1 5)), (6, .int (L.1 6)), (7, .int (L.1 7))]) 215 (fun L => [.int (L.1 100)])) ∧ (bC p l e (headSpec w_y_X1_compare ({ frames := 1 + d, cells := 0, slots := 0, locals := 30 + 28 * d })).room s m #[.ref (a 0), .int (L0.1 1), .int (L0.1 2)] below meth c dC dI cy a z A (kI dC dI cy a z A below #[.ref (a 0), .int (L0.1 1), .int (L0.1 2)] s) 9 (y_H1 k d 0 19) (fun L => [(5, .int (L.1 5)), (6, .int (L.1 6))]) 242 (fun L => [])) ∧ (bC p l e (headSpec w_y_X1_compare ({ frames := 1 + d, cells := 0, slots := 0, locals := 30 + 28 * d })).room s m #[.ref (a 0), .int (L0.1 1), .int (L0.1 2)] below meth c dC dI cy a z A (kI dC dI cy a z A below #[.ref (a 0), .int (L0.1 1), .int (L0.1 2)] s) 9 (y_H1 k d 0 20) (fun L => []) 254 (fun L => [.int (L.1 100)])) ∧ (bC p l e (headSpec w_y_X1_compare ({ frames := 1 + d, cells := 0, slots := 0, locals := 30 + 28 * d })).room s m #[.ref (a 0), .int (L0.1 1), .int (L0.1 2)] below meth c dC dI cy a z A (kI dC dI cy a z A below #[.ref (a 0), .int (L0.1 1), .int (L0.1 2)] s) 9 (y_H1 k d 0 21) (fun L => [(0, .ref (a 0)), (1, .int (L.1 1)), (2, .int (L.1 2)), (5, .int (L.1 5)), (6, .int (L.1 6)), (7, .int (L.1 7))]) 225 (fun L => [])) ∧ (bC p l e (headSpec w_y_X1_compare ({ frames := 1 + d, cells := 0, slots := 0, locals := 30 + 28 * d })).room s m #[.ref (a 0), .int (L0.1 1), .int (L0.1 2)] below meth c dC dI cy a z A (kI dC dI cy a z A below #[.ref (a 0), .int (L0.1 1), .int (L0.1 2)] s) 9 (y_H1 k d 0 22) (fun L => []) 253 (fun L => [])) := by
    intro k
    induction k with
    | zero => exact fun _ => ⟨fun L σ r h => (by cases h), fun L σ r h => (by cases h), fun L σ r h => (by cases h), fun L σ r h => (by cases h), fun L σ r h => (by cases h), fun L σ r h => (by cases h), fun L σ r h => (by cases h), fun L σ r h => (by cases h), fun L σ r h => (by cases h), fun L σ r h => (by cases h), fun L σ r h => (by cases h), fun L σ r h => (by cases h), fun L σ r h => (by cases h), fun L σ r h => (by cases h), fun L σ r h => (by cases h), fun L σ r h => (by cases h), fun L σ r h => (by cases h), fun L σ r h => (by cases h), fun L σ r h => (by cases h), fun L σ r h => (by cases h), fun L σ r h => (by cases h), fun L σ r h => (by cases h), fun L σ r h => (by cases h)⟩
    | succ k ih =>
      intro hk
      replace ih := ih (by omega)
      refine ⟨?_, ?_, ?_, ?_, ?_, ?_, ?_, ?_, ?_, ?_, ?_, ?_, ?_, ?_, ?_, ?_, ?_, ?_, ?_, ?_, ?_, ?_, ?_⟩
      · intro L σ r h H locs ls hP hD hS hl
        rw [y_H1_0, t_X1_compare_0] at h
        refine lv_iload_n hx hb dX1_compare_0 rfl (lv_at hl 1 rfl) ?_
        refine lv_iload_n hx hb dX1_compare_1 rfl (lv_at hl 2 rfl) ?_
        refine lv_icmp_ne (tgt := 7) hx hb dX1_compare_2 (by decide) (fun c1 => ?_) (fun c1 => ?_)
        · rw [if_neg c1] at h
          exact ih.2.1 L σ r h H locs ls hP hD hS (lv_sub hl [0, 1, 2] rfl)
        · rw [if_pos c1] at h
          refine lv_iconst (v := 0) hx hb dX1_compare_5 (by decide) ?_
          obtain rfl := Option.some.inj h
          exact W.iret (v := 0) hx hb hr (fun t ht hW => ⟨⟨0, (), rfl, rfl, by rw [ht]; exact hP, va_K.moved hW.alike hK, hD⟩, hS.F ht⟩) hS.2.2 dX1_compare_6
      · intro L σ r h H locs ls hP hD hS hl
        rw [y_H1_0, t_X1_compare_1] at h
        refine lv_iload_n hx hb dX1_compare_7 rfl (lv_at hl 1 rfl) ?_
        refine lv_if_ge (tgt := 21) hx hb dX1_compare_8 (by decide) (fun c1 => ?_) (fun c1 => ?_)
        · rw [if_pos c1] at h
          exact ih.2.2.1 L σ r h H locs ls hP hD hS (lv_sub hl [0, 1, 2] rfl)
        · rw [if_neg c1] at h
          refine lv_iload_n hx hb dX1_compare_11 rfl (lv_at hl 1 rfl) ?_
          refine lv_bipush (v := 28) hx hb dX1_compare_12 (by decide) ?_
          refine lv_iushr (v := (((L.1 1)).toUInt32 >>> ((28 : Int32).toUInt32 &&& Int32.toUInt32 31)).toInt32) hx hb dX1_compare_14 rfl ?_
          refine lv_bipush (v := 7) hx hb dX1_compare_15 (by decide) ?_
          refine lv_iand hx hb dX1_compare_17 ?_
          refine lv_goto (tgt := 30) hx hb dX1_compare_18 (by decide) ?_
          exact ih.2.2.2.1 (lI L 100 (((((((L.1 1)).toUInt32 >>> ((28 : Int32).toUInt32 &&& Int32.toUInt32 31)).toInt32)) &&& 7))) σ r h H locs ls hP hD hS (lv_sub hl [0, 1, 2] rfl)
      · intro L σ r h H locs ls hP hD hS hl
        rw [y_H1_0, t_X1_compare_2] at h
        refine lv_aload_n hx hb dX1_compare_21 rfl (lv_at hl 0 rfl) ?_
        refine hg_0_0 hx hb hts in_y_X1_compare_X1 hown hK hP (hts _ (List.mem_cons_of_mem _ (List.mem_append_left _ (List.mem_append_left _ (List.mem_of_getElem? (i := 1) rfl))))) dX1_compare_22 ?_
        refine lv_iload_n hx hb dX1_compare_25 rfl (lv_at hl 1 rfl) ?_
        obtain ⟨q1, h⟩ := kb_ite1 h
        refine hl_3 hx hb hK hP q1 dX1_compare_26 ?_
        refine lv_bipush (v := 7) hx hb dX1_compare_27 (by decide) ?_
        refine lv_iand hx hb dX1_compare_29 ?_
        exact ih.2.2.2.1 (lI L 100 ((((σ.2.2.1 3 ((L.1 1)).toNatClampNeg)) &&& 7))) σ r h H locs ls hP hD hS (lv_sub hl [0, 1, 2] rfl)
      · intro L σ r h H locs ls hP hD hS hl
        rw [y_H1_0, t_X1_compare_3] at h
        refine lv_istore_n (lv' := [(3, .int (L.1 100)), (0, .ref (a 0)), (1, .int (L.1 1)), (2, .int (L.1 2))]) hx hb dX1_compare_30 rfl hl (by decide) rfl (fun ls hl => ?_)
        refine lv_iload_n hx hb dX1_compare_31 rfl (lv_at hl 3 rfl) ?_
        refine lv_if_ge (tgt := 45) hx hb dX1_compare_32 (by decide) (fun c1 => ?_) (fun c1 => ?_)
        · rw [if_pos c1] at h
          exact ih.2.2.2.2.1 (lI L 3 ((L.1 100))) σ r h H locs ls hP hD hS (lv_sub hl [1, 2, 3, 0] rfl)
        · rw [if_neg c1] at h
          refine lv_iload_n hx hb dX1_compare_35 rfl (lv_at hl 3 rfl) ?_
          refine lv_bipush (v := 28) hx hb dX1_compare_36 (by decide) ?_
          refine lv_iushr (v := (((L.1 2)).toUInt32 >>> ((28 : Int32).toUInt32 &&& Int32.toUInt32 31)).toInt32) hx hb dX1_compare_38 rfl ?_
          refine lv_bipush (v := 7) hx hb dX1_compare_39 (by decide) ?_
          refine lv_iand hx hb dX1_compare_41 ?_
          refine lv_goto (tgt := 54) hx hb dX1_compare_42 (by decide) ?_
          exact ih.2.2.2.2.2.1 (lI (lI L 3 ((L.1 100))) 100 (((((((L.1 2)).toUInt32 >>> ((28 : Int32).toUInt32 &&& Int32.toUInt32 31)).toInt32)) &&& 7))) σ r h H locs ls hP hD hS (lv_sub hl [1, 2, 3, 0] rfl)
      · intro L σ r h H locs ls hP hD hS hl
        rw [y_H1_0, t_X1_compare_4] at h
        refine lv_aload_n hx hb dX1_compare_45 rfl (lv_at hl 0 rfl) ?_
        refine hg_0_0 hx hb hts in_y_X1_compare_X1 hown hK hP (hts _ (List.mem_cons_of_mem _ (List.mem_append_left _ (List.mem_append_left _ (List.mem_of_getElem? (i := 1) rfl))))) dX1_compare_46 ?_
        refine lv_iload_n hx hb dX1_compare_49 rfl (lv_at hl 2 rfl) ?_
        obtain ⟨q1, h⟩ := kb_ite1 h
        refine hl_3 hx hb hK hP q1 dX1_compare_50 ?_
        refine lv_bipush (v := 7) hx hb dX1_compare_51 (by decide) ?_
        refine lv_iand hx hb dX1_compare_53 ?_
        exact ih.2.2.2.2.2.1 (lI L 100 ((((σ.2.2.1 3 ((L.1 2)).toNatClampNeg)) &&& 7))) σ r h H locs ls hP hD hS (lv_sub hl [0, 1, 2, 3] rfl)
      · intro L σ r h H locs ls hP hD hS hl
        rw [y_H1_0, t_X1_compare_5] at h
        refine lv_istore (lv' := [(4, .int (L.1 100)), (0, .ref (a 0)), (1, .int (L.1 1)), (2, .int (L.1 2)), (3, .int (L.1 3))]) hx hb dX1_compare_54 hl (by decide) rfl (fun ls hl => ?_)
        refine lv_iload_n hx hb dX1_compare_56 rfl (lv_at hl 4 rfl) ?_
        refine lv_iload hx hb dX1_compare_57 (lv_at hl 0 rfl) ?_
        refine lv_icmp_eq (tgt := 74) hx hb dX1_compare_59 (by decide) (fun c1 => ?_) (fun c1 => ?_)
        · rw [if_pos c1] at h
          exact ih.2.2.2.2.2.2.1 L σ r h H locs ls hP hD hS (lv_sub hl [1, 2, 3, 4] rfl)
        · rw [if_neg c1] at h
          refine lv_iload_n hx hb dX1_compare_62 rfl (lv_at hl 4 rfl) ?_
          refine lv_iload hx hb dX1_compare_63 (lv_at hl 0 rfl) ?_
          refine lv_icmp_ge (tgt := 72) hx hb dX1_compare_65 (by decide) (fun c2 => ?_) (fun c2 => ?_)
          · rw [if_pos c2] at h
            exact ih.2.2.2.2.2.2.2.1 L σ r h H locs ls hP hD hS (lv_sub hl [] rfl)
          · rw [if_neg c2] at h
            refine lv_iconst (v := (-1)) hx hb dX1_compare_68 (by decide) ?_
            refine lv_goto (tgt := 73) hx hb dX1_compare_69 (by decide) ?_
            exact ih.2.2.2.2.2.2.2.2.1 (lI L 100 ((-1))) σ r h H locs ls hP hD hS (lv_sub hl [] rfl)
      · intro L σ r h H locs ls hP hD hS hl
        rw [y_H1_0, t_X1_compare_6] at h
        refine lv_iload_n hx hb dX1_compare_74 rfl (lv_at hl 1 rfl) ?_
        refine lv_if_ge (tgt := 97) hx hb dX1_compare_75 (by decide) (fun c1 => ?_) (fun c1 => ?_)
        · rw [if_pos c1] at h
          exact ih.2.2.2.2.2.2.2.2.2.1 L σ r h H locs ls hP hD hS (lv_sub hl [0, 1, 2, 3] rfl)
        · rw [if_neg c1] at h
          refine lv_iload_n hx hb dX1_compare_78 rfl (lv_at hl 2 rfl) ?_
          refine lv_if_ge (tgt := 97) hx hb dX1_compare_79 (by decide) (fun c2 => ?_) (fun c2 => ?_)
          · rw [if_pos c2] at h
            exact ih.2.2.2.2.2.2.2.2.2.1 L σ r h H locs ls hP hD hS (lv_sub hl [0, 1, 2, 3] rfl)
          · rw [if_neg c2] at h
            refine lv_iload_n hx hb dX1_compare_82 rfl (lv_at hl 1 rfl) ?_
            refine lv_iconst (v := 4) hx hb dX1_compare_83 (by decide) ?_
            refine lv_ishl hx hb dX1_compare_84 ?_
            refine lv_iload_n hx hb dX1_compare_85 rfl (lv_at hl 2 rfl) ?_
            refine lv_iconst (v := 4) hx hb dX1_compare_86 (by decide) ?_
            refine lv_ishl hx hb dX1_compare_87 ?_
            refine lv_icmp_ge (tgt := 95) hx hb dX1_compare_88 (by decide) (fun c3 => ?_) (fun c3 => ?_)
            · rw [if_pos c3] at h
              exact ih.2.2.2.2.2.2.2.2.2.2.1 L σ r h H locs ls hP hD hS (lv_sub hl [] rfl)
            · rw [if_neg c3] at h
              refine lv_iconst (v := (-1)) hx hb dX1_compare_91 (by decide) ?_
              refine lv_goto (tgt := 96) hx hb dX1_compare_92 (by decide) ?_
              exact ih.2.2.2.2.2.2.2.2.2.2.2.1 (lI L 100 ((-1))) σ r h H locs ls hP hD hS (lv_sub hl [] rfl)
      · intro L σ r h H locs ls hP hD hS hl
        rw [y_H1_0, t_X1_compare_7] at h
        refine lv_iconst (v := 1) hx hb dX1_compare_72 (by decide) ?_
        exact ih.2.2.2.2.2.2.2.2.1 (lI L 100 1) σ r h H locs ls hP hD hS (lv_sub hl [] rfl)
      · intro L σ r h H locs ls hP hD hS hl
        rw [y_H1_0, t_X1_compare_8] at h
        obtain rfl := Option.some.inj h
        exact W.iret (v := (L.1 100)) hx hb hr (fun t ht hW => ⟨⟨(L.1 100), (), rfl, rfl, by rw [ht]; exact hP, va_K.moved hW.alike hK, hD⟩, hS.F ht⟩) hS.2.2 dX1_compare_73
      · intro L σ r h H locs ls hP hD hS hl
        rw [y_H1_0, t_X1_compare_9] at h
        refine lv_iload_n hx hb dX1_compare_97 rfl (lv_at hl 3 rfl) ?_
        refine lv_iconst (v := 5) hx hb dX1_compare_98 (by decide) ?_
        refine lv_icmp_ge (tgt := 123) hx hb dX1_compare_99 (by decide) (fun c1 => ?_) (fun c1 => ?_)
        · rw [if_pos c1] at h
          exact ih.2.2.2.2.2.2.2.2.2.2.2.2.1 L σ r h H locs ls hP hD hS (lv_sub hl [0, 1, 2] rfl)
        · rw [if_neg c1] at h
          refine lv_iload_n hx hb dX1_compare_102 rfl (lv_at hl 3 rfl) ?_
          refine lv_iconst (v := 2) hx hb dX1_compare_103 (by decide) ?_
          refine lv_icmp_ne (tgt := 116) hx hb dX1_compare_104 (by decide) (fun c2 => ?_) (fun c2 => ?_)
          · rw [if_neg c2] at h
            exact ih.2.2.2.2.2.2.2.2.2.2.2.2.2.1 L σ r h H locs ls hP hD hS (lv_sub hl [0, 1, 2] rfl)
          · rw [if_pos c2] at h
            refine lv_aload_n hx hb dX1_compare_107 rfl (lv_at hl 0 rfl) ?_
            refine lv_iload_n hx hb dX1_compare_108 rfl (lv_at hl 1 rfl) ?_
            refine lv_iload_n hx hb dX1_compare_109 rfl (lv_at hl 2 rfl) ?_
            obtain ⟨r3, hc3, h⟩ := oc_ex h
            refine kc_i (va_runV (As := [.int (L.1 1), .int (L.1 2)]) (rest := []) ⟨hx, hb, hml, hown, hts⟩ (c_y_X1_compareWholes l dC dI cy a z k (lI (lI lZ 1 ((L.1 1))) 2 ((L.1 2))) σ r3 hc3 H.size) (cwV 2 hts g_y_X1_compare_X1_compareWholes_V68 rfl rfl rfl hd_y_X1_compareWholes (by show 0 + 1 ≤ 1 + d ∧ 8 + (11 + 11) + 0 ≤ 30 + 28 * d; omega)) ⟨nb_blind, va_recv hK hP (ci := 1) (q0 := 0) rfl rfl, (kb_pre hK hG hP hD)⟩ rfl rfl hl.1 rfl (lv_room (Nat.le_of_ble_eq_true rfl)) dX1_compare_110 ⟨Nat.le_refl _, Nat.le_refl _⟩) hA hP hD hS (fun H locs hP hD hS => ?_)
            refine lv_goto (tgt := 122) hx hb dX1_compare_113 (by decide) ?_
            exact ih.2.2.2.2.2.2.2.2.2.2.2.2.2.2.1 (lI L 100 r3.1) r3.2 r h H locs ls hP hD hS (lv_sub hl [] rfl)
      · intro L σ r h H locs ls hP hD hS hl
        rw [y_H1_0, t_X1_compare_10] at h
        refine lv_iconst (v := 1) hx hb dX1_compare_95 (by decide) ?_
        exact ih.2.2.2.2.2.2.2.2.2.2.2.1 (lI L 100 1) σ r h H locs ls hP hD hS (lv_sub hl [] rfl)
      · intro L σ r h H locs ls hP hD hS hl
        rw [y_H1_0, t_X1_compare_11] at h
        obtain rfl := Option.some.inj h
        exact W.iret (v := (L.1 100)) hx hb hr (fun t ht hW => ⟨⟨(L.1 100), (), rfl, rfl, by rw [ht]; exact hP, va_K.moved hW.alike hK, hD⟩, hS.F ht⟩) hS.2.2 dX1_compare_96
      · intro L σ r h H locs ls hP hD hS hl
        rw [y_H1_0, t_X1_compare_12] at h
        refine lv_aload_n hx hb dX1_compare_123 rfl (lv_at hl 0 rfl) ?_
        refine hg_0_0 hx hb hts in_y_X1_compare_X1 hown hK hP (hts _ (List.mem_cons_of_mem _ (List.mem_append_left _ (List.mem_append_left _ (List.mem_of_getElem? (i := 1) rfl))))) dX1_compare_124 ?_
        refine lv_iload_n hx hb dX1_compare_127 rfl (lv_at hl 1 rfl) ?_
        obtain ⟨q1, h⟩ := kb_ite1 h
        refine hl_3 hx hb hK hP q1 dX1_compare_128 ?_
        refine lv_iconst (v := 4) hx hb dX1_compare_129 (by decide) ?_
        refine lv_iushr (v := (((σ.2.2.1 3 ((L.1 1)).toNatClampNeg)).toUInt32 >>> ((4 : Int32).toUInt32 &&& Int32.toUInt32 31)).toInt32) hx hb dX1_compare_130 rfl ?_
        refine lv_sipush (v := 4095) hx hb dX1_compare_131 (by decide) ?_
        refine lv_iand hx hb dX1_compare_134 ?_
        refine lv_istore (lv' := [(5, .int ((((((σ.2.2.1 3 ((L.1 1)).toNatClampNeg)).toUInt32 >>> ((4 : Int32).toUInt32 &&& Int32.toUInt32 31)).toInt32)) &&& 4095)), (0, .ref (a 0)), (1, .int (L.1 1)), (2, .int (L.1 2))]) hx hb dX1_compare_135 hl (by decide) rfl (fun ls hl => ?_)
        refine lv_aload_n hx hb dX1_compare_137 rfl (lv_at hl 1 rfl) ?_
        refine hg_0_0 hx hb hts in_y_X1_compare_X1 hown hK hP (hts _ (List.mem_cons_of_mem _ (List.mem_append_left _ (List.mem_append_left _ (List.mem_of_getElem? (i := 1) rfl))))) dX1_compare_138 ?_
        refine lv_iload_n hx hb dX1_compare_141 rfl (lv_at hl 3 rfl) ?_
        obtain ⟨q2, h⟩ := kb_ite1 h
        refine hl_3 hx hb hK hP q2 dX1_compare_142 ?_
        refine lv_iconst (v := 4) hx hb dX1_compare_143 (by decide) ?_
        refine lv_iushr (v := (((σ.2.2.1 3 ((L.1 2)).toNatClampNeg)).toUInt32 >>> ((4 : Int32).toUInt32 &&& Int32.toUInt32 31)).toInt32) hx hb dX1_compare_144 rfl ?_
        refine lv_sipush (v := 4095) hx hb dX1_compare_145 (by decide) ?_
        refine lv_iand hx hb dX1_compare_148 ?_
        refine lv_istore (lv' := [(6, .int ((((((σ.2.2.1 3 ((L.1 2)).toNatClampNeg)).toUInt32 >>> ((4 : Int32).toUInt32 &&& Int32.toUInt32 31)).toInt32)) &&& 4095)), (5, .int ((((((σ.2.2.1 3 ((L.1 1)).toNatClampNeg)).toUInt32 >>> ((4 : Int32).toUInt32 &&& Int32.toUInt32 31)).toInt32)) &&& 4095)), (0, .ref (a 0)), (1, .int (L.1 1)), (2, .int (L.1 2))]) hx hb dX1_compare_149 hl (by decide) rfl (fun ls hl => ?_)
        refine lv_iconst (v := 1) hx hb dX1_compare_151 (by decide) ?_
        refine lv_istore (lv' := [(7, .int 1), (6, .int ((((((σ.2.2.1 3 ((L.1 2)).toNatClampNeg)).toUInt32 >>> ((4 : Int32).toUInt32 &&& Int32.toUInt32 31)).toInt32)) &&& 4095)), (5, .int ((((((σ.2.2.1 3 ((L.1 1)).toNatClampNeg)).toUInt32 >>> ((4 : Int32).toUInt32 &&& Int32.toUInt32 31)).toInt32)) &&& 4095)), (0, .ref (a 0)), (1, .int (L.1 1)), (2, .int (L.1 2))]) hx hb dX1_compare_152 hl (by decide) rfl (fun ls hl => ?_)
        exact ih.2.2.2.2.2.2.2.2.2.2.2.2.2.2.2.1 (lI (lI (lI L 5 (((((((σ.2.2.1 3 ((L.1 1)).toNatClampNeg)).toUInt32 >>> ((4 : Int32).toUInt32 &&& Int32.toUInt32 31)).toInt32)) &&& 4095))) 6 (((((((σ.2.2.1 3 ((L.1 2)).toNatClampNeg)).toUInt32 >>> ((4 : Int32).toUInt32 &&& Int32.toUInt32 31)).toInt32)) &&& 4095))) 7 1) σ r h H locs ls hP hD hS (lv_sub hl [3, 4, 5, 2, 1, 0] rfl)
      · intro L σ r h H locs ls hP hD hS hl
        rw [y_H1_0, t_X1_compare_13] at h
        refine lv_aload_n hx hb dX1_compare_116 rfl (lv_at hl 0 rfl) ?_
        refine lv_iload_n hx hb dX1_compare_117 rfl (lv_at hl 1 rfl) ?_
        refine lv_iload_n hx hb dX1_compare_118 rfl (lv_at hl 2 rfl) ?_
        obtain ⟨r1, hc1, h⟩ := oc_ex h
        refine kc_i (va_runV (As := [.int (L.1 1), .int (L.1 2)]) (rest := []) ⟨hx, hb, hml, hown, hts⟩ (c_y_X1_compareStrings l dC dI cy a z k (lI (lI lZ 1 ((L.1 1))) 2 ((L.1 2))) σ r1 hc1 H.size) (cwV 2 hts g_y_X1_compare_X1_compareStrings_V71 rfl rfl rfl hd_y_X1_compareStrings (by show 0 + 1 ≤ 1 + d ∧ 8 + (8 + 11) + 0 ≤ 30 + 28 * d; omega)) ⟨nb_blind, va_recv hK hP (ci := 1) (q0 := 0) rfl rfl, (kb_pre hK hG hP hD)⟩ rfl rfl hl.1 rfl (lv_room (Nat.le_of_ble_eq_true rfl)) dX1_compare_119 ⟨Nat.le_refl _, Nat.le_refl _⟩) hA hP hD hS (fun H locs hP hD hS => ?_)
        exact ih.2.2.2.2.2.2.2.2.2.2.2.2.2.2.1 (lI L 100 r1.1) r1.2 r h H locs ls hP hD hS (lv_sub hl [] rfl)
      · intro L σ r h H locs ls hP hD hS hl
        rw [y_H1_0, t_X1_compare_14] at h
        obtain rfl := Option.some.inj h
        exact W.iret (v := (L.1 100)) hx hb hr (fun t ht hW => ⟨⟨(L.1 100), (), rfl, rfl, by rw [ht]; exact hP, va_K.moved hW.alike hK, hD⟩, hS.F ht⟩) hS.2.2 dX1_compare_122
      · intro L σ r h H locs ls hP hD hS hl
        rw [y_H1_0, t_X1_compare_15] at h
        refine lv_iload hx hb dX1_compare_154 (lv_at hl 5 rfl) ?_
        refine lv_iload hx hb dX1_compare_156 (lv_at hl 3 rfl) ?_
        refine lv_icmp_gt (tgt := 231) hx hb dX1_compare_158 (by decide) (fun c1 => ?_) (fun c1 => ?_)
        · rw [if_pos c1] at h
          exact ih.2.2.2.2.2.2.2.2.2.2.2.2.2.2.2.2.1 L σ r h H locs ls hP hD hS (lv_sub hl [3, 4] rfl)
        · rw [if_neg c1] at h
          refine lv_iload hx hb dX1_compare_161 (lv_at hl 5 rfl) ?_
          refine lv_iload hx hb dX1_compare_163 (lv_at hl 4 rfl) ?_
          refine lv_icmp_gt (tgt := 231) hx hb dX1_compare_165 (by decide) (fun c2 => ?_) (fun c2 => ?_)
          · rw [if_pos c2] at h
            exact ih.2.2.2.2.2.2.2.2.2.2.2.2.2.2.2.2.1 L σ r h H locs ls hP hD hS (lv_sub hl [3, 4] rfl)
          · rw [if_neg c2] at h
            refine lv_aload_n hx hb dX1_compare_168 rfl (lv_at hl 0 rfl) ?_
            refine hg_0_0 hx hb hts in_y_X1_compare_X1 hown hK hP (hts _ (List.mem_cons_of_mem _ (List.mem_append_left _ (List.mem_append_left _ (List.mem_of_getElem? (i := 1) rfl))))) dX1_compare_169 ?_
            refine lv_iload_n hx hb dX1_compare_172 rfl (lv_at hl 1 rfl) ?_
            refine lv_iload hx hb dX1_compare_173 (lv_at hl 5 rfl) ?_
            refine lv_iadd hx hb dX1_compare_175 ?_
            obtain ⟨q3, h⟩ := kb_ite1 h
            refine hl_3 hx hb hK hP q3 dX1_compare_176 ?_
            refine lv_aload_n hx hb dX1_compare_177 rfl (lv_at hl 0 rfl) ?_
            refine hg_0_0 hx hb hts in_y_X1_compare_X1 hown hK hP (hts _ (List.mem_cons_of_mem _ (List.mem_append_left _ (List.mem_append_left _ (List.mem_of_getElem? (i := 1) rfl))))) dX1_compare_178 ?_
            refine lv_iload_n hx hb dX1_compare_181 rfl (lv_at hl 2 rfl) ?_
            refine lv_iload hx hb dX1_compare_182 (lv_at hl 5 rfl) ?_
            refine lv_iadd hx hb dX1_compare_184 ?_
            obtain ⟨q4, h⟩ := kb_ite1 h
            refine hl_3 hx hb hK hP q4 dX1_compare_185 ?_
            refine lv_icmp_ne (tgt := 193) hx hb dX1_compare_186 (by decide) (fun c5 => ?_) (fun c5 => ?_)
            · rw [if_neg c5] at h
              exact ih.2.2.2.2.2.2.2.2.2.2.2.2.2.2.2.2.2.1 L σ r h H locs ls hP hD hS (lv_sub hl [0, 1, 2, 3, 4, 5] rfl)
            · rw [if_pos c5] at h
              refine lv_iconst (v := 0) hx hb dX1_compare_189 (by decide) ?_
              refine lv_goto (tgt := 215) hx hb dX1_compare_190 (by decide) ?_
              exact ih.2.2.2.2.2.2.2.2.2.2.2.2.2.2.2.2.2.2.1 (lI L 100 0) σ r h H locs ls hP hD hS (lv_sub hl [0, 1, 2, 3, 4, 5] rfl)
      · intro L σ r h H locs ls hP hD hS hl
        rw [y_H1_0, t_X1_compare_16] at h
        refine lv_iload hx hb dX1_compare_231 (lv_at hl 0 rfl) ?_
        refine lv_iload hx hb dX1_compare_233 (lv_at hl 1 rfl) ?_
        refine lv_icmp_ne (tgt := 242) hx hb dX1_compare_235 (by decide) (fun c1 => ?_) (fun c1 => ?_)
        · rw [if_neg c1] at h
          exact ih.2.2.2.2.2.2.2.2.2.2.2.2.2.2.2.2.2.2.2.1 L σ r h H locs ls hP hD hS (lv_sub hl [0, 1] rfl)
        · rw [if_pos c1] at h
          refine lv_iconst (v := 0) hx hb dX1_compare_238 (by decide) ?_
          refine lv_goto (tgt := 254) hx hb dX1_compare_239 (by decide) ?_
          exact ih.2.2.2.2.2.2.2.2.2.2.2.2.2.2.2.2.2.2.2.2.1 (lI L 100 0) σ r h H locs ls hP hD hS (lv_sub hl [] rfl)
      · intro L σ r h H locs ls hP hD hS hl
        rw [y_H1_0, t_X1_compare_17] at h
        refine lv_aload_n hx hb dX1_compare_193 rfl (lv_at hl 0 rfl) ?_
        refine lv_aload_n hx hb dX1_compare_194 rfl (lv_at hl 0 rfl) ?_
        refine hg_0_0 hx hb hts in_y_X1_compare_X1 hown hK hP (hts _ (List.mem_cons_of_mem _ (List.mem_append_left _ (List.mem_append_left _ (List.mem_of_getElem? (i := 1) rfl))))) dX1_compare_195 ?_
        refine lv_iload_n hx hb dX1_compare_198 rfl (lv_at hl 1 rfl) ?_
        refine lv_iload hx hb dX1_compare_199 (lv_at hl 5 rfl) ?_
        refine lv_iadd hx hb dX1_compare_201 ?_
        obtain ⟨q1, h⟩ := kb_ite1 h
        refine hl_3 hx hb hK hP q1 dX1_compare_202 ?_
        refine lv_aload_n hx hb dX1_compare_203 rfl (lv_at hl 0 rfl) ?_
        refine hg_0_0 hx hb hts in_y_X1_compare_X1 hown hK hP (hts _ (List.mem_cons_of_mem _ (List.mem_append_left _ (List.mem_append_left _ (List.mem_of_getElem? (i := 1) rfl))))) dX1_compare_204 ?_
        refine lv_iload_n hx hb dX1_compare_207 rfl (lv_at hl 2 rfl) ?_
        refine lv_iload hx hb dX1_compare_208 (lv_at hl 5 rfl) ?_
        refine lv_iadd hx hb dX1_compare_210 ?_
        obtain ⟨q2, h⟩ := kb_ite1 h
        refine hl_3 hx hb hK hP q2 dX1_compare_211 ?_
        obtain ⟨e3, he3, h⟩ := oe_ex h
        obtain ⟨r3, hc3, h⟩ := oc_ex h
        refine kc_i (va_runV (As := [.int (σ.2.2.1 3 ((((L.1 1)) + ((L.1 7)))).toNatClampNeg), .int (σ.2.2.1 3 ((((L.1 2)) + ((L.1 7)))).toNatClampNeg)]) (rest := []) ⟨hx, hb, hml, hown, hts⟩ ((IH k (by omega)) e3 (lI (lI lZ 1 ((σ.2.2.1 3 ((((L.1 1)) + ((L.1 7)))).toNatClampNeg))) 2 ((σ.2.2.1 3 ((((L.1 2)) + ((L.1 7)))).toNatClampNeg))) σ r3 hc3 H.size) (cwV 2 hts g_y_X1_compare_X1_compare_V65 rfl rfl rfl hd_y_X1_compare (by show (1 + e3) + 1 ≤ 1 + d ∧ 8 + (9 + 11) + (30 + 28 * e3) ≤ 30 + 28 * d; omega)) ⟨nb_blind, va_recv hK hP (ci := 1) (q0 := 0) rfl rfl, (kb_pre hK hG hP hD)⟩ rfl rfl hl.1 rfl (lv_room (Nat.le_of_ble_eq_true rfl)) dX1_compare_212 ⟨Nat.le_refl _, Nat.le_refl _⟩) hA hP hD hS (fun H locs hP hD hS => ?_)
        exact ih.2.2.2.2.2.2.2.2.2.2.2.2.2.2.2.2.2.2.1 (lI L 100 r3.1) r3.2 r h H locs ls hP hD hS (lv_sub hl [0, 1, 2, 3, 4, 5] rfl)
      · intro L σ r h H locs ls hP hD hS hl
        rw [y_H1_0, t_X1_compare_18] at h
        refine lv_istore (lv' := [(8, .int (L.1 100)), (0, .ref (a 0)), (1, .int (L.1 1)), (2, .int (L.1 2)), (5, .int (L.1 5)), (6, .int (L.1 6)), (7, .int (L.1 7))]) hx hb dX1_compare_215 hl (by decide) rfl (fun ls hl => ?_)
        refine lv_iload hx hb dX1_compare_217 (lv_at hl 0 rfl) ?_
        refine lv_if_eq (tgt := 225) hx hb dX1_compare_219 (by decide) (fun c1 => ?_) (fun c1 => ?_)
        · rw [if_pos c1] at h
          exact ih.2.2.2.2.2.2.2.2.2.2.2.2.2.2.2.2.2.2.2.2.2.1 L σ r h H locs ls hP hD hS (lv_sub hl [1, 2, 3, 4, 5, 6] rfl)
        · rw [if_neg c1] at h
          refine lv_iload hx hb dX1_compare_222 (lv_at hl 0 rfl) ?_
          obtain rfl := Option.some.inj h
          exact W.iret (v := (L.1 100)) hx hb hr (fun t ht hW => ⟨⟨(L.1 100), (), rfl, rfl, by rw [ht]; exact hP, va_K.moved hW.alike hK, hD⟩, hS.F ht⟩) hS.2.2 dX1_compare_224
      · intro L σ r h H locs ls hP hD hS hl
        rw [y_H1_0, t_X1_compare_19] at h
        refine lv_iload hx hb dX1_compare_242 (lv_at hl 0 rfl) ?_
        refine lv_iload hx hb dX1_compare_244 (lv_at hl 1 rfl) ?_
        refine lv_icmp_ge (tgt := 253) hx hb dX1_compare_246 (by decide) (fun c1 => ?_) (fun c1 => ?_)
        · rw [if_pos c1] at h
          exact ih.2.2.2.2.2.2.2.2.2.2.2.2.2.2.2.2.2.2.2.2.2.2 L σ r h H locs ls hP hD hS (lv_sub hl [] rfl)
        · rw [if_neg c1] at h
          refine lv_iconst (v := (-1)) hx hb dX1_compare_249 (by decide) ?_
          refine lv_goto (tgt := 254) hx hb dX1_compare_250 (by decide) ?_
          exact ih.2.2.2.2.2.2.2.2.2.2.2.2.2.2.2.2.2.2.2.2.1 (lI L 100 ((-1))) σ r h H locs ls hP hD hS (lv_sub hl [] rfl)
      · intro L σ r h H locs ls hP hD hS hl
        rw [y_H1_0, t_X1_compare_20] at h
        obtain rfl := Option.some.inj h
        exact W.iret (v := (L.1 100)) hx hb hr (fun t ht hW => ⟨⟨(L.1 100), (), rfl, rfl, by rw [ht]; exact hP, va_K.moved hW.alike hK, hD⟩, hS.F ht⟩) hS.2.2 dX1_compare_254
      · intro L σ r h H locs ls hP hD hS hl
        rw [y_H1_0, t_X1_compare_21] at h
        refine lv_iinc (v := ((L.1 7)) + 1) (lv' := [(7, .int (((L.1 7)) + 1)), (0, .ref (a 0)), (1, .int (L.1 1)), (2, .int (L.1 2)), (5, .int (L.1 5)), (6, .int (L.1 6))]) hx hb dX1_compare_225 hl (k := 5) rfl rfl (by decide) rfl (fun ls hl => ?_)
        refine lv_goto (tgt := 154) hx hb dX1_compare_228 (by decide) ?_
        exact ih.2.2.2.2.2.2.2.2.2.2.2.2.2.2.2.1 (lI L 7 ((((L.1 7)) + 1))) σ r h H locs ls hP hD hS (lv_sub hl [1, 2, 3, 4, 5, 0] rfl)
      · intro L σ r h H locs ls hP hD hS hl
        rw [y_H1_0, t_X1_compare_22] at h
        refine lv_iconst (v := 1) hx hb dX1_compare_253 (by decide) ?_
        exact ih.2.2.2.2.2.2.2.2.2.2.2.2.2.2.2.2.2.2.2.2.1 (lI L 100 1) σ r h H locs ls hP hD hS (lv_sub hl [] rfl)
  exact (blk k0 (Nat.le_refl _)).1 L0 σ0 r0 h0 s.heap [] ls hP hD hS hl
theorem c_H1 (l : Launch) (dC : Nat → ClassId) (dI : Nat → Nat → Nat) (cy : Nat → ClassId) (a z : Nat → Nat) : ∀ k0 : Nat, P_H1 l dC dI cy a z k0 := by
  intro k0
  induction k0 using Nat.strongRecOn with
  | ind k0 IH => exact c_t_X1_compare l dC dI cy a z k0 IH
def y_X1_compare (k b : Nat) (L : LV) (σ : CS) : Option (Int32 × CS) := y_H1 k 60 0 b L σ
theorem c_y_X1_compare (l : Launch) (dC : Nat → ClassId) (dI : Nat → Nat → Nat) (cy : Nat → ClassId) (a z : Nat → Nat) (k0 : Nat) (L0 : LV) (σ0 : CS) (r0 : Int32 × CS) (h0 : y_X1_compare k0 0 L0 σ0 = some r0) (sz : Nat) : Met l yX1_compare w_y_X1_compare ({ frames := 61, cells := 0, slots := 0, locals := 1710 }) (va_Pc [.ref (a 0), .int (L0.1 1), .int (L0.1 2)] (nIn (dC, dI) cy sz (vC cy a z σ0))) (va_Qi (fun (x : Int32) (_ : Unit) => x = r0.1) (fun _ t => nOut (dC, dI) cy (va_A (vC cy a z σ0) sz) (vC cy a z r0.2) t) (va_A (vC cy a z σ0) sz)) 0 0 (va_A (vC cy a z σ0) sz) := (c_H1 l dC dI cy a z k0) 60 L0 σ0 r0 h0 sz
/-! X0_placeOf -/
def y_X0_placeOf : Nat → Nat → LV → CS → Option (Int32 × CS)
  | 0, _, _, _ => none
  | k + 1, 0, L, σ => oc (y_X1_length k 0 (lI lZ 1 ((L.1 1))) σ) (fun r1 => y_X0_placeOf k 1 (lI (lI (lI L 4 ((L.1 2))) 5 r1.1) 6 0) r1.2)
  | k + 1, 1, L, σ => if 32 ≤ ((L.1 6)) then (y_X0_placeOf k 2 L σ) else (if ((L.1 5)) ≤ ((L.1 4)) then (y_X0_placeOf k 2 L σ) else (oc (y_X1_member k 0 (lI (lI lZ 1 ((L.1 1))) 2 (((((((L.1 4)) + ((L.1 5)))).toUInt32 >>> ((1 : Int32).toUInt32 &&& Int32.toUInt32 31)).toInt32))) σ) (fun r3 => oc (y_X1_compare k 0 (lI (lI lZ 1 r3.1) 2 ((L.1 3))) r3.2) (fun r4 => if 0 ≤ r4.1 then (y_X0_placeOf k 3 (lI L 7 (((((((L.1 4)) + ((L.1 5)))).toUInt32 >>> ((1 : Int32).toUInt32 &&& Int32.toUInt32 31)).toInt32))) r4.2) else (y_X0_placeOf k 4 (lI L 4 (((((((((L.1 4)) + ((L.1 5)))).toUInt32 >>> ((1 : Int32).toUInt32 &&& Int32.toUInt32 31)).toInt32)) + 1))) r4.2)))))
  | k + 1, 2, L, σ => some ((L.1 4), σ)
  | k + 1, 3, L, σ => y_X0_placeOf k 4 (lI L 5 ((L.1 7))) σ
  | k + 1, 4, L, σ => y_X0_placeOf k 1 (lI L 6 ((((L.1 6)) + 1))) σ
  | _ + 1, _ + 5, _, _ => none
def o_y_X0_placeOf : List Cond := [.fieldLink RX0 22 "SetHouse$Algebra" "heap" "LSetHouse$Heap;", .methodLink RX0 100 yX1_length, .instanceMethod yX1_length, .selects RX1 yX1_length yX1_length, .initialized RX1, .methodLink RX0 154 yX1_member, .instanceMethod yX1_member, .selects RX1 yX1_member yX1_member, .methodLink RX0 91 yX1_compare, .instanceMethod yX1_compare, .selects RX1 yX1_compare yX1_compare]
theorem o_y_X0_placeOf_good : o_y_X0_placeOf.all goodWord = true := by decide +kernel
def p_y_X0_placeOf : List Cond := o_y_X0_placeOf ++ ((.code yX1_length cX1_length 2 (some .int) :: p_y_X1_length) ++ ((.code yX1_member cX1_member 3 (some .int) :: p_y_X1_member) ++ ((.code yX1_compare cX1_compare 9 (some .int) :: p_y_H1) ++ [])))
theorem p_y_X0_placeOf_good : p_y_X0_placeOf.all goodWord = true := nb_all2 o_y_X0_placeOf_good (nb_all2 (nb_allc (by decide +kernel) p_y_X1_length_good) (nb_all2 (nb_allc (by decide +kernel) p_y_X1_member_good) (nb_all2 (nb_allc (by decide +kernel) p_y_H1_good) rfl)))
def w_y_X0_placeOf : List Cond := .code yX0_placeOf cX0_placeOf 8 (some .int) :: (p_y_X0_placeOf ++ fC)
theorem w_y_X0_placeOf_good : w_y_X0_placeOf.all goodWord = true := nb_allc (by decide +kernel) (nb_all2 p_y_X0_placeOf_good fC_good)
theorem in_y_X0_placeOf_X0 : ∀ w ∈ wsX00, w ∈ w_y_X0_placeOf := fun _ h => List.mem_cons_of_mem _ (List.mem_append_right _ (List.mem_append_left _ h))
theorem hd_y_X0_placeOf : yX0_placeOf.cls = RX0 ∧ yX0_placeOf.cls ≠ "java/lang/invoke/MethodHandle" ∧ yX0_placeOf.cls ≠ "java/lang/invoke/VarHandle" ∧ (parseMethodDescriptor yX0_placeOf.desc).map (fun d => d.parameters.length) = some 3 := by decide +kernel
theorem gg_y_X0_placeOf_X1_compare : GoodIn w_y_X0_placeOf w_y_X1_compare := goodIn_sub (fun w h => (List.mem_cons.mp h).elim (fun e => (List.mem_cons_of_mem _ (List.mem_append_left _ (List.mem_append_right _ (List.mem_append_right _ (List.mem_append_right _ (List.mem_append_left _ (List.mem_cons.mpr (Or.inl e))))))))) (fun h => (List.mem_append.mp h).elim (fun h => (List.mem_cons_of_mem _ (List.mem_append_left _ (List.mem_append_right _ (List.mem_append_right _ (List.mem_append_right _ (List.mem_append_left _ (List.mem_cons_of_mem _ h)))))))) (fun h => List.mem_cons_of_mem _ (List.mem_append_right _ h)))) w_y_X1_compare_good
theorem g_y_X0_placeOf_X1_compare_V91 : GoodIn w_y_X0_placeOf (wsV RX0 91 RX1 yX1_compare w_y_X1_compare) := goodIn_app (nb_g4 (List.mem_cons_of_mem _ (List.mem_append_left _ (List.mem_append_left _ (List.mem_of_getElem? (i := 8) rfl)))) (List.mem_cons_of_mem _ (List.mem_append_left _ (List.mem_append_left _ (List.mem_of_getElem? (i := 9) rfl)))) (List.mem_cons_of_mem _ (List.mem_append_left _ (List.mem_append_left _ (List.mem_of_getElem? (i := 10) rfl)))) (List.mem_cons_of_mem _ (List.mem_append_left _ (List.mem_append_left _ (List.mem_of_getElem? (i := 4) rfl)))) (by decide +kernel)) gg_y_X0_placeOf_X1_compare
theorem gg_y_X0_placeOf_X1_length : GoodIn w_y_X0_placeOf w_y_X1_length := goodIn_sub (fun w h => (List.mem_cons.mp h).elim (fun e => (List.mem_cons_of_mem _ (List.mem_append_left _ (List.mem_append_right _ (List.mem_append_left _ (List.mem_cons.mpr (Or.inl e))))))) (fun h => (List.mem_append.mp h).elim (fun h => (List.mem_cons_of_mem _ (List.mem_append_left _ (List.mem_append_right _ (List.mem_append_left _ (List.mem_cons_of_mem _ h)))))) (fun h => List.mem_cons_of_mem _ (List.mem_append_right _ h)))) w_y_X1_length_good
theorem g_y_X0_placeOf_X1_length_V100 : GoodIn w_y_X0_placeOf (wsV RX0 100 RX1 yX1_length w_y_X1_length) := goodIn_app (nb_g4 (List.mem_cons_of_mem _ (List.mem_append_left _ (List.mem_append_left _ (List.mem_of_getElem? (i := 1) rfl)))) (List.mem_cons_of_mem _ (List.mem_append_left _ (List.mem_append_left _ (List.mem_of_getElem? (i := 2) rfl)))) (List.mem_cons_of_mem _ (List.mem_append_left _ (List.mem_append_left _ (List.mem_of_getElem? (i := 3) rfl)))) (List.mem_cons_of_mem _ (List.mem_append_left _ (List.mem_append_left _ (List.mem_of_getElem? (i := 4) rfl)))) (by decide +kernel)) gg_y_X0_placeOf_X1_length
theorem gg_y_X0_placeOf_X1_member : GoodIn w_y_X0_placeOf w_y_X1_member := goodIn_sub (fun w h => (List.mem_cons.mp h).elim (fun e => (List.mem_cons_of_mem _ (List.mem_append_left _ (List.mem_append_right _ (List.mem_append_right _ (List.mem_append_left _ (List.mem_cons.mpr (Or.inl e)))))))) (fun h => (List.mem_append.mp h).elim (fun h => (List.mem_cons_of_mem _ (List.mem_append_left _ (List.mem_append_right _ (List.mem_append_right _ (List.mem_append_left _ (List.mem_cons_of_mem _ h))))))) (fun h => List.mem_cons_of_mem _ (List.mem_append_right _ h)))) w_y_X1_member_good
theorem g_y_X0_placeOf_X1_member_V154 : GoodIn w_y_X0_placeOf (wsV RX0 154 RX1 yX1_member w_y_X1_member) := goodIn_app (nb_g4 (List.mem_cons_of_mem _ (List.mem_append_left _ (List.mem_append_left _ (List.mem_of_getElem? (i := 5) rfl)))) (List.mem_cons_of_mem _ (List.mem_append_left _ (List.mem_append_left _ (List.mem_of_getElem? (i := 6) rfl)))) (List.mem_cons_of_mem _ (List.mem_append_left _ (List.mem_append_left _ (List.mem_of_getElem? (i := 7) rfl)))) (List.mem_cons_of_mem _ (List.mem_append_left _ (List.mem_append_left _ (List.mem_of_getElem? (i := 4) rfl)))) (by decide +kernel)) gg_y_X0_placeOf_X1_member
set_option maxHeartbeats 40000000 in
set_option maxRecDepth 100000 in
theorem c_y_X0_placeOf (l : Launch) (dC : Nat → ClassId) (dI : Nat → Nat → Nat) (cy : Nat → ClassId) (a z : Nat → Nat) (k0 : Nat) (L0 : LV) (σ0 : CS) (r0 : Int32 × CS) (h0 : y_X0_placeOf k0 0 L0 σ0 = some r0) (sz : Nat) : Met l yX0_placeOf w_y_X0_placeOf ({ frames := 62, cells := 0, slots := 0, locals := 1738 }) (va_Pc [.ref (a 14), .int (L0.1 1), .int (L0.1 2), .int (L0.1 3)] (nIn (dC, dI) cy sz (vC cy a z σ0))) (va_Qi (fun (x : Int32) (_ : Unit) => x = r0.1) (fun _ t => nOut (dC, dI) cy (va_A (vC cy a z σ0) sz) (vC cy a z r0.2) t) (va_A (vC cy a z σ0) sz)) 0 0 (va_A (vC cy a z σ0) sz) := by
  refine Met.ofW (cc := cX0_placeOf) (maxL := 8) (ret := (some .int)) (by decide) rfl ?_
  intro p e s m args below meth c s₁ B hml hv
  obtain ⟨rfl, hsz, hP, hK, hD0, hG⟩ := hv
  have hx := B.exec
  have hb := B.bytes
  have hr := B.returns
  have hts := atoms_spec (ws := w_y_X0_placeOf) B.pre
  have hown : s.vm.findClass RX0 = some m.cls := findClass_of_methodNamed B.named
  have hlocks := B.notSynchronized
  subst hsz
  have hD := hD0.self (sz := s.heap.size)
  generalize hAe : va_A (vC cy a z σ0) s.heap.size = A at hD ⊢
  have hA : ∀ q : Nat, s.heap.size ≤ q → A q := fun q h => by rw [← hAe]; exact Or.inr h
  have hS : va_S A s.heap s.heap [] := va_S.rf
  have hl := lv_entry ([.ref (a 14), .int (L0.1 1), .int (L0.1 2), .int (L0.1 3)]) (n := 8) (Nat.le_of_ble_eq_true rfl)
  rw [lg_entry_eq]
  generalize (lg_sl ([.ref (a 14), .int (L0.1 1), .int (L0.1 2), .int (L0.1 3)]) ++ List.replicate (8 - (lg_sl ([.ref (a 14), .int (L0.1 1), .int (L0.1 2), .int (L0.1 3)])).length) Slot.unset).toArray = ls at hl ⊢
  have hl : lv_has ls 8 [(0, .ref (a 14)), (1, .int (L0.1 1)), (2, .int (L0.1 2)), (3, .int (L0.1 3))] := hl
  have blk : ∀ k : Nat, (bC p l e (headSpec w_y_X0_placeOf ({ frames := 62, cells := 0, slots := 0, locals := 1738 })).room s m #[.ref (a 14), .int (L0.1 1), .int (L0.1 2), .int (L0.1 3)] below meth c dC dI cy a z A (kI dC dI cy a z A below #[.ref (a 14), .int (L0.1 1), .int (L0.1 2), .int (L0.1 3)] s) 8 (y_X0_placeOf k 0) (fun L => [(0, .ref (a 14)), (1, .int (L.1 1)), (2, .int (L.1 2)), (3, .int (L.1 3))]) 0 (fun L => [])) ∧ (bC p l e (headSpec w_y_X0_placeOf ({ frames := 62, cells := 0, slots := 0, locals := 1738 })).room s m #[.ref (a 14), .int (L0.1 1), .int (L0.1 2), .int (L0.1 3)] below meth c dC dI cy a z A (kI dC dI cy a z A below #[.ref (a 14), .int (L0.1 1), .int (L0.1 2), .int (L0.1 3)] s) 8 (y_X0_placeOf k 1) (fun L => [(0, .ref (a 14)), (1, .int (L.1 1)), (3, .int (L.1 3)), (4, .int (L.1 4)), (5, .int (L.1 5)), (6, .int (L.1 6))]) 16 (fun L => [])) ∧ (bC p l e (headSpec w_y_X0_placeOf ({ frames := 62, cells := 0, slots := 0, locals := 1738 })).room s m #[.ref (a 14), .int (L0.1 1), .int (L0.1 2), .int (L0.1 3)] below meth c dC dI cy a z A (kI dC dI cy a z A below #[.ref (a 14), .int (L0.1 1), .int (L0.1 2), .int (L0.1 3)] s) 8 (y_X0_placeOf k 2) (fun L => [(4, .int (L.1 4))]) 79 (fun L => [])) ∧ (bC p l e (headSpec w_y_X0_placeOf ({ frames := 62, cells := 0, slots := 0, locals := 1738 })).room s m #[.ref (a 14), .int (L0.1 1), .int (L0.1 2), .int (L0.1 3)] below meth c dC dI cy a z A (kI dC dI cy a z A below #[.ref (a 14), .int (L0.1 1), .int (L0.1 2), .int (L0.1 3)] s) 8 (y_X0_placeOf k 3) (fun L => [(0, .ref (a 14)), (1, .int (L.1 1)), (3, .int (L.1 3)), (4, .int (L.1 4)), (6, .int (L.1 6)), (7, .int (L.1 7))]) 69 (fun L => [])) ∧ (bC p l e (headSpec w_y_X0_placeOf ({ frames := 62, cells := 0, slots := 0, locals := 1738 })).room s m #[.ref (a 14), .int (L0.1 1), .int (L0.1 2), .int (L0.1 3)] below meth c dC dI cy a z A (kI dC dI cy a z A below #[.ref (a 14), .int (L0.1 1), .int (L0.1 2), .int (L0.1 3)] s) 8 (y_X0_placeOf k 4) (fun L => [(0, .ref (a 14)), (1, .int (L.1 1)), (3, .int (L.1 3)), (4, .int (L.1 4)), (5, .int (L.1 5)), (6, .int (L.1 6))]) 73 (fun L => [])) := by
    intro k
    induction k with
    | zero => exact ⟨fun L σ r h => (by cases h), fun L σ r h => (by cases h), fun L σ r h => (by cases h), fun L σ r h => (by cases h), fun L σ r h => (by cases h)⟩
    | succ k ih =>
      refine ⟨?_, ?_, ?_, ?_, ?_⟩
      · intro L σ r h H locs ls hP hD hS hl
        rw [y_X0_placeOf] at h
        refine lv_iload_n hx hb dX0_placeOf_0 rfl (lv_at hl 2 rfl) ?_
        refine lv_istore (lv' := [(4, .int (L.1 2)), (0, .ref (a 14)), (1, .int (L.1 1)), (2, .int (L.1 2)), (3, .int (L.1 3))]) hx hb dX0_placeOf_1 hl (by decide) rfl (fun ls hl => ?_)
        refine lv_aload_n hx hb dX0_placeOf_3 rfl (lv_at hl 1 rfl) ?_
        refine hg_14_0 hx hb hts in_y_X0_placeOf_X0 hown hK hP (hts _ (List.mem_cons_of_mem _ (List.mem_append_left _ (List.mem_append_left _ (List.mem_of_getElem? (i := 0) rfl))))) dX0_placeOf_4 ?_
        refine lv_iload_n hx hb dX0_placeOf_7 rfl (lv_at hl 2 rfl) ?_
        obtain ⟨r1, hc1, h⟩ := oc_ex h
        refine kc_i (va_runV (As := [.int (L.1 1)]) (rest := []) ⟨hx, hb, hml, hown, hts⟩ (c_y_X1_length l dC dI cy a z k (lI lZ 1 ((L.1 1))) σ r1 hc1 H.size) (cwV 1 hts g_y_X0_placeOf_X1_length_V100 rfl rfl rfl hd_y_X1_length ⟨Nat.le_of_ble_eq_true rfl, Nat.le_of_ble_eq_true rfl⟩) ⟨nb_blind, va_recv hK hP (ci := 1) (q0 := 0) rfl rfl, (kb_pre hK hG hP hD)⟩ rfl rfl hl.1 rfl (lv_room (Nat.le_of_ble_eq_true rfl)) dX0_placeOf_8 ⟨Nat.le_refl _, Nat.le_refl _⟩) hA hP hD hS (fun H locs hP hD hS => ?_)
        refine lv_istore (lv' := [(5, .int r1.1), (4, .int (L.1 2)), (0, .ref (a 14)), (1, .int (L.1 1)), (2, .int (L.1 2)), (3, .int (L.1 3))]) hx hb dX0_placeOf_11 hl (by decide) rfl (fun ls hl => ?_)
        refine lv_iconst (v := 0) hx hb dX0_placeOf_13 (by decide) ?_
        refine lv_istore (lv' := [(6, .int 0), (5, .int r1.1), (4, .int (L.1 2)), (0, .ref (a 14)), (1, .int (L.1 1)), (2, .int (L.1 2)), (3, .int (L.1 3))]) hx hb dX0_placeOf_14 hl (by decide) rfl (fun ls hl => ?_)
        exact ih.2.1 (lI (lI (lI L 4 ((L.1 2))) 5 r1.1) 6 0) r1.2 r h H locs ls hP hD hS (lv_sub hl [3, 4, 6, 2, 1, 0] rfl)
      · intro L σ r h H locs ls hP hD hS hl
        rw [y_X0_placeOf] at h
        refine lv_iload hx hb dX0_placeOf_16 (lv_at hl 5 rfl) ?_
        refine lv_bipush (v := 32) hx hb dX0_placeOf_18 (by decide) ?_
        refine lv_icmp_ge (tgt := 79) hx hb dX0_placeOf_20 (by decide) (fun c1 => ?_) (fun c1 => ?_)
        · rw [if_pos c1] at h
          exact ih.2.2.1 L σ r h H locs ls hP hD hS (lv_sub hl [3] rfl)
        · rw [if_neg c1] at h
          refine lv_iload hx hb dX0_placeOf_23 (lv_at hl 3 rfl) ?_
          refine lv_iload hx hb dX0_placeOf_25 (lv_at hl 4 rfl) ?_
          refine lv_icmp_ge (tgt := 79) hx hb dX0_placeOf_27 (by decide) (fun c2 => ?_) (fun c2 => ?_)
          · rw [if_pos c2] at h
            exact ih.2.2.1 L σ r h H locs ls hP hD hS (lv_sub hl [3] rfl)
          · rw [if_neg c2] at h
            refine lv_iload hx hb dX0_placeOf_30 (lv_at hl 3 rfl) ?_
            refine lv_iload hx hb dX0_placeOf_32 (lv_at hl 4 rfl) ?_
            refine lv_iadd hx hb dX0_placeOf_34 ?_
            refine lv_iconst (v := 1) hx hb dX0_placeOf_35 (by decide) ?_
            refine lv_iushr (v := (((((L.1 4)) + ((L.1 5)))).toUInt32 >>> ((1 : Int32).toUInt32 &&& Int32.toUInt32 31)).toInt32) hx hb dX0_placeOf_36 rfl ?_
            refine lv_istore (lv' := [(7, .int ((((((L.1 4)) + ((L.1 5)))).toUInt32 >>> ((1 : Int32).toUInt32 &&& Int32.toUInt32 31)).toInt32)), (0, .ref (a 14)), (1, .int (L.1 1)), (3, .int (L.1 3)), (4, .int (L.1 4)), (5, .int (L.1 5)), (6, .int (L.1 6))]) hx hb dX0_placeOf_37 hl (by decide) rfl (fun ls hl => ?_)
            refine lv_aload_n hx hb dX0_placeOf_39 rfl (lv_at hl 1 rfl) ?_
            refine hg_14_0 hx hb hts in_y_X0_placeOf_X0 hown hK hP (hts _ (List.mem_cons_of_mem _ (List.mem_append_left _ (List.mem_append_left _ (List.mem_of_getElem? (i := 0) rfl))))) dX0_placeOf_40 ?_
            refine lv_aload_n hx hb dX0_placeOf_43 rfl (lv_at hl 1 rfl) ?_
            refine hg_14_0 hx hb hts in_y_X0_placeOf_X0 hown hK hP (hts _ (List.mem_cons_of_mem _ (List.mem_append_left _ (List.mem_append_left _ (List.mem_of_getElem? (i := 0) rfl))))) dX0_placeOf_44 ?_
            refine lv_iload_n hx hb dX0_placeOf_47 rfl (lv_at hl 2 rfl) ?_
            refine lv_iload hx hb dX0_placeOf_48 (lv_at hl 0 rfl) ?_
            obtain ⟨r3, hc3, h⟩ := oc_ex h
            refine kc_i (va_runV (As := [.int (L.1 1), .int ((((((L.1 4)) + ((L.1 5)))).toUInt32 >>> ((1 : Int32).toUInt32 &&& Int32.toUInt32 31)).toInt32)]) (rest := [.ref (a 0)]) ⟨hx, hb, hml, hown, hts⟩ (c_y_X1_member l dC dI cy a z k (lI (lI lZ 1 ((L.1 1))) 2 (((((((L.1 4)) + ((L.1 5)))).toUInt32 >>> ((1 : Int32).toUInt32 &&& Int32.toUInt32 31)).toInt32))) σ r3 hc3 H.size) (cwV 2 hts g_y_X0_placeOf_X1_member_V154 rfl rfl rfl hd_y_X1_member ⟨Nat.le_of_ble_eq_true rfl, Nat.le_of_ble_eq_true rfl⟩) ⟨nb_blind, va_recv hK hP (ci := 1) (q0 := 0) rfl rfl, (kb_pre hK hG hP hD)⟩ rfl rfl hl.1 rfl (lv_room (Nat.le_of_ble_eq_true rfl)) dX0_placeOf_50 ⟨Nat.le_refl _, Nat.le_refl _⟩) hA hP hD hS (fun H locs hP hD hS => ?_)
            refine lv_iload_n hx hb dX0_placeOf_53 rfl (lv_at hl 3 rfl) ?_
            obtain ⟨r4, hc4, h⟩ := oc_ex h
            refine kc_i (va_runV (As := [.int r3.1, .int (L.1 3)]) (rest := []) ⟨hx, hb, hml, hown, hts⟩ (c_y_X1_compare l dC dI cy a z k (lI (lI lZ 1 r3.1) 2 ((L.1 3))) r3.2 r4 hc4 H.size) (cwV 2 hts g_y_X0_placeOf_X1_compare_V91 rfl rfl rfl hd_y_X1_compare ⟨Nat.le_of_ble_eq_true rfl, Nat.le_of_ble_eq_true rfl⟩) ⟨nb_blind, va_recv hK hP (ci := 1) (q0 := 0) rfl rfl, (kb_pre hK hG hP hD)⟩ rfl rfl hl.1 rfl (lv_room (Nat.le_of_ble_eq_true rfl)) dX0_placeOf_54 ⟨Nat.le_refl _, Nat.le_refl _⟩) hA hP hD hS (fun H locs hP hD hS => ?_)
            refine lv_if_ge (tgt := 69) hx hb dX0_placeOf_57 (by decide) (fun c5 => ?_) (fun c5 => ?_)
            · rw [if_pos c5] at h
              exact ih.2.2.2.1 (lI L 7 (((((((L.1 4)) + ((L.1 5)))).toUInt32 >>> ((1 : Int32).toUInt32 &&& Int32.toUInt32 31)).toInt32))) r4.2 r h H locs ls hP hD hS (lv_sub hl [1, 2, 3, 4, 6, 0] rfl)
            · rw [if_neg c5] at h
              refine lv_iload hx hb dX0_placeOf_60 (lv_at hl 0 rfl) ?_
              refine lv_iconst (v := 1) hx hb dX0_placeOf_62 (by decide) ?_
              refine lv_iadd hx hb dX0_placeOf_63 ?_
              refine lv_istore (lv' := [(4, .int ((((((((L.1 4)) + ((L.1 5)))).toUInt32 >>> ((1 : Int32).toUInt32 &&& Int32.toUInt32 31)).toInt32)) + 1)), (7, .int ((((((L.1 4)) + ((L.1 5)))).toUInt32 >>> ((1 : Int32).toUInt32 &&& Int32.toUInt32 31)).toInt32)), (0, .ref (a 14)), (1, .int (L.1 1)), (3, .int (L.1 3)), (5, .int (L.1 5)), (6, .int (L.1 6))]) hx hb dX0_placeOf_64 hl (by decide) rfl (fun ls hl => ?_)
              refine lv_goto (tgt := 73) hx hb dX0_placeOf_66 (by decide) ?_
              exact ih.2.2.2.2 (lI L 4 (((((((((L.1 4)) + ((L.1 5)))).toUInt32 >>> ((1 : Int32).toUInt32 &&& Int32.toUInt32 31)).toInt32)) + 1))) r4.2 r h H locs ls hP hD hS (lv_sub hl [2, 3, 4, 0, 5, 6] rfl)
      · intro L σ r h H locs ls hP hD hS hl
        rw [y_X0_placeOf] at h
        refine lv_iload hx hb dX0_placeOf_79 (lv_at hl 0 rfl) ?_
        obtain rfl := Option.some.inj h
        exact W.iret (v := (L.1 4)) hx hb hr (fun t ht hW => ⟨⟨(L.1 4), (), rfl, rfl, by rw [ht]; exact hP, va_K.moved hW.alike hK, hD⟩, hS.F ht⟩) hS.2.2 dX0_placeOf_81
      · intro L σ r h H locs ls hP hD hS hl
        rw [y_X0_placeOf] at h
        refine lv_iload hx hb dX0_placeOf_69 (lv_at hl 5 rfl) ?_
        refine lv_istore (lv' := [(5, .int (L.1 7)), (0, .ref (a 14)), (1, .int (L.1 1)), (3, .int (L.1 3)), (4, .int (L.1 4)), (6, .int (L.1 6)), (7, .int (L.1 7))]) hx hb dX0_placeOf_71 hl (by decide) rfl (fun ls hl => ?_)
        exact ih.2.2.2.2 (lI L 5 ((L.1 7))) σ r h H locs ls hP hD hS (lv_sub hl [1, 2, 3, 4, 0, 5] rfl)
      · intro L σ r h H locs ls hP hD hS hl
        rw [y_X0_placeOf] at h
        refine lv_iinc (v := ((L.1 6)) + 1) (lv' := [(6, .int (((L.1 6)) + 1)), (0, .ref (a 14)), (1, .int (L.1 1)), (3, .int (L.1 3)), (4, .int (L.1 4)), (5, .int (L.1 5))]) hx hb dX0_placeOf_73 hl (k := 5) rfl rfl (by decide) rfl (fun ls hl => ?_)
        refine lv_goto (tgt := 16) hx hb dX0_placeOf_76 (by decide) ?_
        exact ih.2.1 (lI L 6 ((((L.1 6)) + 1))) σ r h H locs ls hP hD hS (lv_sub hl [1, 2, 3, 4, 5, 0] rfl)
  exact (blk k0).1 L0 σ0 r0 h0 s.heap [] ls hP hD hS hl
/-! X1_same -/
def y_X1_same : Nat → Nat → LV → CS → Option (Int32 × CS)
  | 0, _, _, _ => none
  | k + 1, 0, L, σ => if ((L.1 1)) = ((L.1 2)) then (y_X1_same k 1 L σ) else (if ((L.1 1)) < 0 then (y_X1_same k 2 L σ) else (if ((L.1 2)) < 0 then (y_X1_same k 2 L σ) else (if ¬ (((L.1 1)) < 0 ∨ (sN σ 3) ≤ ((L.1 1)).toNatClampNeg) then (if ¬ (((L.1 2)) < 0 ∨ (sN σ 3) ≤ ((L.1 2)).toNatClampNeg) then (if ((σ.2.2.1 3 ((L.1 1)).toNatClampNeg)) = ((σ.2.2.1 3 ((L.1 2)).toNatClampNeg)) then (oc (y_X1_compare k 0 (lI (lI lZ 1 ((L.1 1))) 2 ((L.1 2))) σ) (fun r7 => if r7.1 = 0 then (y_X1_same k 1 L r7.2) else (y_X1_same k 2 L r7.2))) else (y_X1_same k 2 L σ)) else none) else none)))
  | k + 1, 1, L, σ => y_X1_same k 3 (lI L 100 1) σ
  | k + 1, 2, L, σ => y_X1_same k 3 (lI L 100 0) σ
  | k + 1, 3, L, σ => if ((L.1 100)) = 0 ∨ ((L.1 100)) = 1 then some ((L.1 100), σ) else none
  | _ + 1, _ + 4, _, _ => none
def o_y_X1_same : List Cond := [.fieldLink RX1 11 "SetHouse$Heap" "mem" "[I", .methodLink RX1 65 yX1_compare, .instanceMethod yX1_compare, .selects RX1 yX1_compare yX1_compare, .initialized RX1]
theorem o_y_X1_same_good : o_y_X1_same.all goodWord = true := by decide +kernel
def p_y_X1_same : List Cond := o_y_X1_same ++ ((.code yX1_compare cX1_compare 9 (some .int) :: p_y_H1) ++ [])
theorem p_y_X1_same_good : p_y_X1_same.all goodWord = true := nb_all2 o_y_X1_same_good (nb_all2 (nb_allc (by decide +kernel) p_y_H1_good) rfl)
def w_y_X1_same : List Cond := .code yX1_same cX1_same 3 (some .boolean) :: (p_y_X1_same ++ fC)
theorem w_y_X1_same_good : w_y_X1_same.all goodWord = true := nb_allc (by decide +kernel) (nb_all2 p_y_X1_same_good fC_good)
theorem in_y_X1_same_X1 : ∀ w ∈ wsX10, w ∈ w_y_X1_same := fun _ h => List.mem_cons_of_mem _ (List.mem_append_right _ (List.mem_append_right _ (List.mem_append_left _ h)))
theorem hd_y_X1_same : yX1_same.cls = RX1 ∧ yX1_same.cls ≠ "java/lang/invoke/MethodHandle" ∧ yX1_same.cls ≠ "java/lang/invoke/VarHandle" ∧ (parseMethodDescriptor yX1_same.desc).map (fun d => d.parameters.length) = some 2 := by decide +kernel
theorem gg_y_X1_same_X1_compare : GoodIn w_y_X1_same w_y_X1_compare := goodIn_sub (fun w h => (List.mem_cons.mp h).elim (fun e => (List.mem_cons_of_mem _ (List.mem_append_left _ (List.mem_append_right _ (List.mem_append_left _ (List.mem_cons.mpr (Or.inl e))))))) (fun h => (List.mem_append.mp h).elim (fun h => (List.mem_cons_of_mem _ (List.mem_append_left _ (List.mem_append_right _ (List.mem_append_left _ (List.mem_cons_of_mem _ h)))))) (fun h => List.mem_cons_of_mem _ (List.mem_append_right _ h)))) w_y_X1_compare_good
theorem g_y_X1_same_X1_compare_V65 : GoodIn w_y_X1_same (wsV RX1 65 RX1 yX1_compare w_y_X1_compare) := goodIn_app (nb_g4 (List.mem_cons_of_mem _ (List.mem_append_left _ (List.mem_append_left _ (List.mem_of_getElem? (i := 1) rfl)))) (List.mem_cons_of_mem _ (List.mem_append_left _ (List.mem_append_left _ (List.mem_of_getElem? (i := 2) rfl)))) (List.mem_cons_of_mem _ (List.mem_append_left _ (List.mem_append_left _ (List.mem_of_getElem? (i := 3) rfl)))) (List.mem_cons_of_mem _ (List.mem_append_left _ (List.mem_append_left _ (List.mem_of_getElem? (i := 4) rfl)))) (by decide +kernel)) gg_y_X1_same_X1_compare
set_option maxHeartbeats 40000000 in
set_option maxRecDepth 100000 in
theorem c_y_X1_same (l : Launch) (dC : Nat → ClassId) (dI : Nat → Nat → Nat) (cy : Nat → ClassId) (a z : Nat → Nat) (k0 : Nat) (L0 : LV) (σ0 : CS) (r0 : Int32 × CS) (h0 : y_X1_same k0 0 L0 σ0 = some r0) (sz : Nat) : Met l yX1_same w_y_X1_same ({ frames := 62, cells := 0, slots := 0, locals := 1738 }) (va_Pc [.ref (a 0), .int (L0.1 1), .int (L0.1 2)] (nIn (dC, dI) cy sz (vC cy a z σ0))) (va_Qi (fun (x : Int32) (_ : Unit) => x = r0.1) (fun _ t => nOut (dC, dI) cy (va_A (vC cy a z σ0) sz) (vC cy a z r0.2) t) (va_A (vC cy a z σ0) sz)) 0 0 (va_A (vC cy a z σ0) sz) := by
  refine Met.ofW (cc := cX1_same) (maxL := 3) (ret := (some .boolean)) (by decide) rfl ?_
  intro p e s m args below meth c s₁ B hml hv
  obtain ⟨rfl, hsz, hP, hK, hD0, hG⟩ := hv
  have hx := B.exec
  have hb := B.bytes
  have hr := B.returns
  have hts := atoms_spec (ws := w_y_X1_same) B.pre
  have hown : s.vm.findClass RX1 = some m.cls := findClass_of_methodNamed B.named
  have hlocks := B.notSynchronized
  subst hsz
  have hD := hD0.self (sz := s.heap.size)
  generalize hAe : va_A (vC cy a z σ0) s.heap.size = A at hD ⊢
  have hA : ∀ q : Nat, s.heap.size ≤ q → A q := fun q h => by rw [← hAe]; exact Or.inr h
  have hS : va_S A s.heap s.heap [] := va_S.rf
  have hl := lv_entry ([.ref (a 0), .int (L0.1 1), .int (L0.1 2)]) (n := 3) (Nat.le_of_ble_eq_true rfl)
  rw [lg_entry_eq]
  generalize (lg_sl ([.ref (a 0), .int (L0.1 1), .int (L0.1 2)]) ++ List.replicate (3 - (lg_sl ([.ref (a 0), .int (L0.1 1), .int (L0.1 2)])).length) Slot.unset).toArray = ls at hl ⊢
  have hl : lv_has ls 3 [(0, .ref (a 0)), (1, .int (L0.1 1)), (2, .int (L0.1 2))] := hl
  have blk : ∀ k : Nat, (bC p l e (headSpec w_y_X1_same ({ frames := 62, cells := 0, slots := 0, locals := 1738 })).room s m #[.ref (a 0), .int (L0.1 1), .int (L0.1 2)] below meth c dC dI cy a z A (kI dC dI cy a z A below #[.ref (a 0), .int (L0.1 1), .int (L0.1 2)] s) 3 (y_X1_same k 0) (fun L => [(0, .ref (a 0)), (1, .int (L.1 1)), (2, .int (L.1 2))]) 0 (fun L => [])) ∧ (bC p l e (headSpec w_y_X1_same ({ frames := 62, cells := 0, slots := 0, locals := 1738 })).room s m #[.ref (a 0), .int (L0.1 1), .int (L0.1 2)] below meth c dC dI cy a z A (kI dC dI cy a z A below #[.ref (a 0), .int (L0.1 1), .int (L0.1 2)] s) 3 (y_X1_same k 1) (fun L => []) 37 (fun L => [])) ∧ (bC p l e (headSpec w_y_X1_same ({ frames := 62, cells := 0, slots := 0, locals := 1738 })).room s m #[.ref (a 0), .int (L0.1 1), .int (L0.1 2)] below meth c dC dI cy a z A (kI dC dI cy a z A below #[.ref (a 0), .int (L0.1 1), .int (L0.1 2)] s) 3 (y_X1_same k 2) (fun L => []) 41 (fun L => [])) ∧ (bC p l e (headSpec w_y_X1_same ({ frames := 62, cells := 0, slots := 0, locals := 1738 })).room s m #[.ref (a 0), .int (L0.1 1), .int (L0.1 2)] below meth c dC dI cy a z A (kI dC dI cy a z A below #[.ref (a 0), .int (L0.1 1), .int (L0.1 2)] s) 3 (y_X1_same k 3) (fun L => []) 42 (fun L => [.int (L.1 100)])) := by
    intro k
    induction k with
    | zero => exact ⟨fun L σ r h => (by cases h), fun L σ r h => (by cases h), fun L σ r h => (by cases h), fun L σ r h => (by cases h)⟩
    | succ k ih =>
      refine ⟨?_, ?_, ?_, ?_⟩
      · intro L σ r h H locs ls hP hD hS hl
        rw [y_X1_same] at h
        refine lv_iload_n hx hb dX1_same_0 rfl (lv_at hl 1 rfl) ?_
        refine lv_iload_n hx hb dX1_same_1 rfl (lv_at hl 2 rfl) ?_
        refine lv_icmp_eq (tgt := 37) hx hb dX1_same_2 (by decide) (fun c1 => ?_) (fun c1 => ?_)
        · rw [if_pos c1] at h
          exact ih.2.1 L σ r h H locs ls hP hD hS (lv_sub hl [] rfl)
        · rw [if_neg c1] at h
          refine lv_iload_n hx hb dX1_same_5 rfl (lv_at hl 1 rfl) ?_
          refine lv_if_lt (tgt := 41) hx hb dX1_same_6 (by decide) (fun c2 => ?_) (fun c2 => ?_)
          · rw [if_pos c2] at h
            exact ih.2.2.1 L σ r h H locs ls hP hD hS (lv_sub hl [] rfl)
          · rw [if_neg c2] at h
            refine lv_iload_n hx hb dX1_same_9 rfl (lv_at hl 2 rfl) ?_
            refine lv_if_lt (tgt := 41) hx hb dX1_same_10 (by decide) (fun c3 => ?_) (fun c3 => ?_)
            · rw [if_pos c3] at h
              exact ih.2.2.1 L σ r h H locs ls hP hD hS (lv_sub hl [] rfl)
            · rw [if_neg c3] at h
              refine lv_aload_n hx hb dX1_same_13 rfl (lv_at hl 0 rfl) ?_
              refine hg_0_0 hx hb hts in_y_X1_same_X1 hown hK hP (hts _ (List.mem_cons_of_mem _ (List.mem_append_left _ (List.mem_append_left _ (List.mem_of_getElem? (i := 0) rfl))))) dX1_same_14 ?_
              refine lv_iload_n hx hb dX1_same_17 rfl (lv_at hl 1 rfl) ?_
              obtain ⟨q4, h⟩ := kb_ite1 h
              refine hl_3 hx hb hK hP q4 dX1_same_18 ?_
              refine lv_aload_n hx hb dX1_same_19 rfl (lv_at hl 0 rfl) ?_
              refine hg_0_0 hx hb hts in_y_X1_same_X1 hown hK hP (hts _ (List.mem_cons_of_mem _ (List.mem_append_left _ (List.mem_append_left _ (List.mem_of_getElem? (i := 0) rfl))))) dX1_same_20 ?_
              refine lv_iload_n hx hb dX1_same_23 rfl (lv_at hl 2 rfl) ?_
              obtain ⟨q5, h⟩ := kb_ite1 h
              refine hl_3 hx hb hK hP q5 dX1_same_24 ?_
              refine lv_icmp_ne (tgt := 41) hx hb dX1_same_25 (by decide) (fun c6 => ?_) (fun c6 => ?_)
              · rw [if_neg c6] at h
                exact ih.2.2.1 L σ r h H locs ls hP hD hS (lv_sub hl [] rfl)
              · rw [if_pos c6] at h
                refine lv_aload_n hx hb dX1_same_28 rfl (lv_at hl 0 rfl) ?_
                refine lv_iload_n hx hb dX1_same_29 rfl (lv_at hl 1 rfl) ?_
                refine lv_iload_n hx hb dX1_same_30 rfl (lv_at hl 2 rfl) ?_
                obtain ⟨r7, hc7, h⟩ := oc_ex h
                refine kc_i (va_runV (As := [.int (L.1 1), .int (L.1 2)]) (rest := []) ⟨hx, hb, hml, hown, hts⟩ (c_y_X1_compare l dC dI cy a z k (lI (lI lZ 1 ((L.1 1))) 2 ((L.1 2))) σ r7 hc7 H.size) (cwV 2 hts g_y_X1_same_X1_compare_V65 rfl rfl rfl hd_y_X1_compare ⟨Nat.le_of_ble_eq_true rfl, Nat.le_of_ble_eq_true rfl⟩) ⟨nb_blind, va_recv hK hP (ci := 1) (q0 := 0) rfl rfl, (kb_pre hK hG hP hD)⟩ rfl rfl hl.1 rfl (lv_room (Nat.le_of_ble_eq_true rfl)) dX1_same_31 ⟨Nat.le_refl _, Nat.le_refl _⟩) hA hP hD hS (fun H locs hP hD hS => ?_)
                refine lv_if_ne (tgt := 41) hx hb dX1_same_34 (by decide) (fun c8 => ?_) (fun c8 => ?_)
                · rw [if_neg c8] at h
                  exact ih.2.2.1 L r7.2 r h H locs ls hP hD hS (lv_sub hl [] rfl)
                · rw [if_pos c8] at h
                  exact ih.2.1 L r7.2 r h H locs ls hP hD hS (lv_sub hl [] rfl)
      · intro L σ r h H locs ls hP hD hS hl
        rw [y_X1_same] at h
        refine lv_iconst (v := 1) hx hb dX1_same_37 (by decide) ?_
        refine lv_goto (tgt := 42) hx hb dX1_same_38 (by decide) ?_
        exact ih.2.2.2 (lI L 100 1) σ r h H locs ls hP hD hS (lv_sub hl [] rfl)
      · intro L σ r h H locs ls hP hD hS hl
        rw [y_X1_same] at h
        refine lv_iconst (v := 0) hx hb dX1_same_41 (by decide) ?_
        exact ih.2.2.2 (lI L 100 0) σ r h H locs ls hP hD hS (lv_sub hl [] rfl)
      · intro L σ r h H locs ls hP hD hS hl
        rw [y_X1_same] at h
        obtain ⟨q1, h⟩ := kb_ite1 h
        obtain rfl := Option.some.inj h
        exact W.zret (v := (L.1 100)) hx hb hr (nb_bz q1) (fun t ht hW => ⟨⟨(L.1 100), (), rfl, rfl, by rw [ht]; exact hP, va_K.moved hW.alike hK, hD⟩, hS.F ht⟩) hS.2.2 dX1_same_42
  exact (blk k0).1 L0 σ0 r0 h0 s.heap [] ls hP hD hS hl
/-! X1_makeRow__a16 -/
def y_X1_makeRow__a16 : Nat → Nat → LV → CS → Option (Int32 × CS)
  | 0, _, _, _ => none
  | k + 1, 0, L, σ => if 0 < ((L.1 4)) then (y_X1_makeRow__a16 k 1 L σ) else (if ((L.1 1)) = 6 then (y_X1_makeRow__a16 k 3 (lI L 100 2) σ) else (y_X1_makeRow__a16 k 2 L σ))
  | k + 1, 1, L, σ => if ((L.1 1)) = 6 then (y_X1_makeRow__a16 k 5 (lI (lI (lI L 5 1) 6 0) 100 1) σ) else (y_X1_makeRow__a16 k 4 (lI (lI L 5 1) 6 0) σ)
  | k + 1, 2, L, σ => y_X1_makeRow__a16 k 3 (lI L 100 1) σ
  | k + 1, 3, L, σ => some ((L.1 100), σ)
  | k + 1, 4, L, σ => y_X1_makeRow__a16 k 5 (lI L 100 0) σ
  | k + 1, 5, L, σ => y_X1_makeRow__a16 k 6 (lI (lI L 7 ((L.1 100))) 8 ((L.1 3))) σ
  | k + 1, 6, L, σ => if ((((L.1 3)) + ((L.1 4)))) ≤ ((L.1 8)) then (y_X1_makeRow__a16 k 7 L σ) else (if 1000 < ((L.1 5)) then (y_X1_makeRow__a16 k 7 L σ) else (if ¬ (((L.1 8)) < 0 ∨ 2048 ≤ ((L.1 8)).toNatClampNeg) then (if ((σ.2.2.1 16 ((L.1 8)).toNatClampNeg)) < 0 then (y_X1_makeRow__a16 k 8 (lI L 9 ((σ.2.2.1 16 ((L.1 8)).toNatClampNeg))) σ) else (if ¬ (((σ.2.2.1 16 ((L.1 8)).toNatClampNeg)) < 0 ∨ (sN σ 3) ≤ ((σ.2.2.1 16 ((L.1 8)).toNatClampNeg)).toNatClampNeg) then (if ((L.1 6)) ≤ (((((σ.2.2.1 3 ((σ.2.2.1 16 ((L.1 8)).toNatClampNeg)).toNatClampNeg)).toUInt32 >>> ((26 : Int32).toUInt32 &&& Int32.toUInt32 31)).toInt32)) then (y_X1_makeRow__a16 k 9 (lI (lI L 5 ((((L.1 5)) + (((((((σ.2.2.1 3 ((σ.2.2.1 16 ((L.1 8)).toNatClampNeg)).toNatClampNeg)).toUInt32 >>> ((16 : Int32).toUInt32 &&& Int32.toUInt32 31)).toInt32)) &&& 1023))))) 10 ((σ.2.2.1 3 ((σ.2.2.1 16 ((L.1 8)).toNatClampNeg)).toNatClampNeg))) σ) else (y_X1_makeRow__a16 k 10 (lI (lI (lI L 5 ((((L.1 5)) + (((((((σ.2.2.1 3 ((σ.2.2.1 16 ((L.1 8)).toNatClampNeg)).toNatClampNeg)).toUInt32 >>> ((16 : Int32).toUInt32 &&& Int32.toUInt32 31)).toInt32)) &&& 1023))))) 10 ((σ.2.2.1 3 ((σ.2.2.1 16 ((L.1 8)).toNatClampNeg)).toNatClampNeg))) 100 ((L.1 6))) σ)) else none)) else none))
  | k + 1, 7, L, σ => if 1000 < ((L.1 5)) then (y_X1_makeRow__a16 k 11 L σ) else (if ((L.1 6)) < 30 then (y_X1_makeRow__a16 k 12 L σ) else (y_X1_makeRow__a16 k 11 L σ))
  | k + 1, 8, L, σ => if ((((L.1 9)) &&& ((-268435456)))) = ((-1073741824)) then (y_X1_makeRow__a16 k 13 (lI L 100 ((L.1 5))) σ) else (if ((((L.1 9)) &&& ((-268435456)))) = ((-1610612736)) then (if ((L.1 9)) = ((-1610612736)) then (y_X1_makeRow__a16 k 14 (lI L 100 ((L.1 5))) σ) else (y_X1_makeRow__a16 k 13 (lI L 100 ((L.1 5))) σ)) else (y_X1_makeRow__a16 k 14 (lI L 100 ((L.1 5))) σ))
  | k + 1, 9, L, σ => y_X1_makeRow__a16 k 10 (lI L 100 (((((L.1 10)).toUInt32 >>> ((26 : Int32).toUInt32 &&& Int32.toUInt32 31)).toInt32))) σ
  | k + 1, 10, L, σ => if ((L.1 7)) = 0 then (y_X1_makeRow__a16 k 15 (lI L 6 ((L.1 100))) σ) else (if ((((L.1 10)) &&& 65535)) = 37 then (y_X1_makeRow__a16 k 16 (lI (lI L 6 ((L.1 100))) 100 1) σ) else (y_X1_makeRow__a16 k 15 (lI L 6 ((L.1 100))) σ))
  | k + 1, 11, L, σ => some ((-268435451), σ)
  | k + 1, 12, L, σ => if ((1 + ((L.1 4)))) ≤ ((((Int32.ofNat (sN σ 3))) - ((σ.1 1)))) then (y_X1_makeRow__a16 k 17 (lI L 8 ((σ.1 1))) σ) else (some ((-268435450), σ))
  | k + 1, 13, L, σ => y_X1_makeRow__a16 k 18 (lI (lI L 100 2) 101 ((L.1 100))) σ
  | k + 1, 14, L, σ => y_X1_makeRow__a16 k 18 (lI (lI L 100 1) 101 ((L.1 100))) σ
  | k + 1, 15, L, σ => y_X1_makeRow__a16 k 16 (lI L 100 0) σ
  | k + 1, 16, L, σ => y_X1_makeRow__a16 k 19 (lI L 7 ((L.1 100))) σ
  | k + 1, 17, L, σ => if ((L.1 7)) = 0 then (y_X1_makeRow__a16 k 20 (lI (lI L 100 ((L.1 1))) 101 ((L.1 8))) (uI σ 1 ((((((L.1 8)) + 1)) + ((L.1 4)))))) else (y_X1_makeRow__a16 k 21 (lI (lI (lI L 100 8) 101 ((L.1 1))) 102 ((L.1 8))) (uI σ 1 ((((((L.1 8)) + 1)) + ((L.1 4))))))
  | k + 1, 18, L, σ => y_X1_makeRow__a16 k 19 (lI (lI L 5 ((((L.1 101)) + ((L.1 100))))) 7 0) σ
  | k + 1, 19, L, σ => y_X1_makeRow__a16 k 6 (lI L 8 ((((L.1 8)) + 1))) σ
  | k + 1, 20, L, σ => y_X1_makeRow__a16 k 21 (lI (lI (lI L 100 0) 101 ((L.1 100))) 102 ((L.1 101))) σ
  | k + 1, 21, L, σ => if ¬ (((L.1 102)) < 0 ∨ (sN σ 3) ≤ ((L.1 102)).toNatClampNeg) then (if ¬ ((L.1 3)) < 0 ∧ ¬ ((((L.1 8)) + 1)) < 0 ∧ ¬ ((L.1 4)) < 0 ∧ ((L.1 3)).toNatClampNeg + ((L.1 4)).toNatClampNeg ≤ 2048 ∧ ((((L.1 8)) + 1)).toNatClampNeg + ((L.1 4)).toNatClampNeg ≤ (sN (uA σ 3 ((L.1 102)).toNatClampNeg ((((((((((L.1 101)) ||| ((L.1 100)))) ||| ((((L.1 4)) <<< ((4 : Int32) &&& 31))))) ||| ((((L.1 5)) <<< ((16 : Int32) &&& 31))))) ||| ((((((L.1 6)) + 1)) <<< ((26 : Int32) &&& 31)))))) 3) then (some ((L.1 8), (uF (uA σ 3 ((L.1 102)).toNatClampNeg ((((((((((L.1 101)) ||| ((L.1 100)))) ||| ((((L.1 4)) <<< ((4 : Int32) &&& 31))))) ||| ((((L.1 5)) <<< ((16 : Int32) &&& 31))))) ||| ((((((L.1 6)) + 1)) <<< ((26 : Int32) &&& 31)))))) 3 (va_cpy ((uA σ 3 ((L.1 102)).toNatClampNeg ((((((((((L.1 101)) ||| ((L.1 100)))) ||| ((((L.1 4)) <<< ((4 : Int32) &&& 31))))) ||| ((((L.1 5)) <<< ((16 : Int32) &&& 31))))) ||| ((((((L.1 6)) + 1)) <<< ((26 : Int32) &&& 31)))))).2.2.1 16) ((uA σ 3 ((L.1 102)).toNatClampNeg ((((((((((L.1 101)) ||| ((L.1 100)))) ||| ((((L.1 4)) <<< ((4 : Int32) &&& 31))))) ||| ((((L.1 5)) <<< ((16 : Int32) &&& 31))))) ||| ((((((L.1 6)) + 1)) <<< ((26 : Int32) &&& 31)))))).2.2.1 3) ((L.1 3)).toNatClampNeg ((((L.1 8)) + 1)).toNatClampNeg ((L.1 4)).toNatClampNeg)))) else none) else none
  | _ + 1, _ + 22, _, _ => none
def o_y_X1_makeRow__a16 : List Cond := [.fieldLink RX1 11 "SetHouse$Heap" "mem" "[I", .constant RX1 33 (-268435456), .constant RX1 34 (-1073741824), .constant RX1 35 (-1610612736), .constant RX1 64 (65535), .constant RX1 52 (-268435451), .fieldLink RX1 15 "SetHouse$Heap" "top" "I", .constant RX1 53 (-268435450), .methodLink RX1 54 arraycopyName, .native arraycopyName, .static arraycopyName, .initialized "java/lang/System"]
theorem o_y_X1_makeRow__a16_good : o_y_X1_makeRow__a16.all goodWord = true := by decide +kernel
def p_y_X1_makeRow__a16 : List Cond := o_y_X1_makeRow__a16 ++ []
theorem p_y_X1_makeRow__a16_good : p_y_X1_makeRow__a16.all goodWord = true := nb_all2 o_y_X1_makeRow__a16_good rfl
def w_y_X1_makeRow__a16 : List Cond := .code yX1_makeRow cX1_makeRow 11 (some .int) :: (p_y_X1_makeRow__a16 ++ fC)
theorem w_y_X1_makeRow__a16_good : w_y_X1_makeRow__a16.all goodWord = true := nb_allc (by decide +kernel) (nb_all2 p_y_X1_makeRow__a16_good fC_good)
theorem in_y_X1_makeRow__a16_X1 : ∀ w ∈ wsX10, w ∈ w_y_X1_makeRow__a16 := fun _ h => List.mem_cons_of_mem _ (List.mem_append_right _ (List.mem_append_right _ (List.mem_append_left _ h)))
theorem hd_y_X1_makeRow__a16 : yX1_makeRow.cls = RX1 ∧ yX1_makeRow.cls ≠ "java/lang/invoke/MethodHandle" ∧ yX1_makeRow.cls ≠ "java/lang/invoke/VarHandle" ∧ (parseMethodDescriptor yX1_makeRow.desc).map (fun d => d.parameters.length) = some 4 := by decide +kernel
set_option maxHeartbeats 40000000 in
set_option maxRecDepth 100000 in
theorem c_y_X1_makeRow__a16 (l : Launch) (dC : Nat → ClassId) (dI : Nat → Nat → Nat) (cy : Nat → ClassId) (a z : Nat → Nat) (k0 : Nat) (L0 : LV) (σ0 : CS) (r0 : Int32 × CS) (h0 : y_X1_makeRow__a16 k0 0 L0 σ0 = some r0) (sz : Nat) : Met l yX1_makeRow w_y_X1_makeRow__a16 ({ frames := 1, cells := 0, slots := 0, locals := 60 }) (va_Pc [.ref (a 0), .int (L0.1 1), .ref (a 16), .int (L0.1 3), .int (L0.1 4)] (nIn (dC, dI) cy sz (vC cy a z σ0))) (va_Qi (fun (x : Int32) (_ : Unit) => x = r0.1) (fun _ t => nOut (dC, dI) cy (va_A (vC cy a z σ0) sz) (vC cy a z r0.2) t) (va_A (vC cy a z σ0) sz)) 0 0 (va_A (vC cy a z σ0) sz) := by
  refine Met.ofW (cc := cX1_makeRow) (maxL := 11) (ret := (some .int)) (by decide) rfl ?_
  intro p e s m args below meth c s₁ B hml hv
  obtain ⟨rfl, hsz, hP, hK, hD0, hG⟩ := hv
  have hx := B.exec
  have hb := B.bytes
  have hr := B.returns
  have hts := atoms_spec (ws := w_y_X1_makeRow__a16) B.pre
  have hown : s.vm.findClass RX1 = some m.cls := findClass_of_methodNamed B.named
  have hlocks := B.notSynchronized
  subst hsz
  have hD := hD0.self (sz := s.heap.size)
  generalize hAe : va_A (vC cy a z σ0) s.heap.size = A at hD ⊢
  have hA : ∀ q : Nat, s.heap.size ≤ q → A q := fun q h => by rw [← hAe]; exact Or.inr h
  have hS : va_S A s.heap s.heap [] := va_S.rf
  have hl := lv_entry ([.ref (a 0), .int (L0.1 1), .ref (a 16), .int (L0.1 3), .int (L0.1 4)]) (n := 11) (Nat.le_of_ble_eq_true rfl)
  rw [lg_entry_eq]
  generalize (lg_sl ([.ref (a 0), .int (L0.1 1), .ref (a 16), .int (L0.1 3), .int (L0.1 4)]) ++ List.replicate (11 - (lg_sl ([.ref (a 0), .int (L0.1 1), .ref (a 16), .int (L0.1 3), .int (L0.1 4)])).length) Slot.unset).toArray = ls at hl ⊢
  have hl : lv_has ls 11 [(0, .ref (a 0)), (1, .int (L0.1 1)), (2, .ref (a 16)), (3, .int (L0.1 3)), (4, .int (L0.1 4))] := hl
  have blk : ∀ k : Nat, (bC p l e (headSpec w_y_X1_makeRow__a16 ({ frames := 1, cells := 0, slots := 0, locals := 60 })).room s m #[.ref (a 0), .int (L0.1 1), .ref (a 16), .int (L0.1 3), .int (L0.1 4)] below meth c dC dI cy a z A (kI dC dI cy a z A below #[.ref (a 0), .int (L0.1 1), .ref (a 16), .int (L0.1 3), .int (L0.1 4)] s) 11 (y_X1_makeRow__a16 k 0) (fun L => [(0, .ref (a 0)), (1, .int (L.1 1)), (2, .ref (a 16)), (3, .int (L.1 3)), (4, .int (L.1 4))]) 0 (fun L => [])) ∧ (bC p l e (headSpec w_y_X1_makeRow__a16 ({ frames := 1, cells := 0, slots := 0, locals := 60 })).room s m #[.ref (a 0), .int (L0.1 1), .ref (a 16), .int (L0.1 3), .int (L0.1 4)] below meth c dC dI cy a z A (kI dC dI cy a z A below #[.ref (a 0), .int (L0.1 1), .ref (a 16), .int (L0.1 3), .int (L0.1 4)] s) 11 (y_X1_makeRow__a16 k 1) (fun L => [(0, .ref (a 0)), (1, .int (L.1 1)), (2, .ref (a 16)), (3, .int (L.1 3)), (4, .int (L.1 4))]) 17 (fun L => [])) ∧ (bC p l e (headSpec w_y_X1_makeRow__a16 ({ frames := 1, cells := 0, slots := 0, locals := 60 })).room s m #[.ref (a 0), .int (L0.1 1), .ref (a 16), .int (L0.1 3), .int (L0.1 4)] below meth c dC dI cy a z A (kI dC dI cy a z A below #[.ref (a 0), .int (L0.1 1), .ref (a 16), .int (L0.1 3), .int (L0.1 4)] s) 11 (y_X1_makeRow__a16 k 2) (fun L => []) 15 (fun L => [])) ∧ (bC p l e (headSpec w_y_X1_makeRow__a16 ({ frames := 1, cells := 0, slots := 0, locals := 60 })).room s m #[.ref (a 0), .int (L0.1 1), .ref (a 16), .int (L0.1 3), .int (L0.1 4)] below meth c dC dI cy a z A (kI dC dI cy a z A below #[.ref (a 0), .int (L0.1 1), .ref (a 16), .int (L0.1 3), .int (L0.1 4)] s) 11 (y_X1_makeRow__a16 k 3) (fun L => []) 16 (fun L => [.int (L.1 100)])) ∧ (bC p l e (headSpec w_y_X1_makeRow__a16 ({ frames := 1, cells := 0, slots := 0, locals := 60 })).room s m #[.ref (a 0), .int (L0.1 1), .ref (a 16), .int (L0.1 3), .int (L0.1 4)] below meth c dC dI cy a z A (kI dC dI cy a z A below #[.ref (a 0), .int (L0.1 1), .ref (a 16), .int (L0.1 3), .int (L0.1 4)] s) 11 (y_X1_makeRow__a16 k 4) (fun L => [(0, .ref (a 0)), (1, .int (L.1 1)), (2, .ref (a 16)), (3, .int (L.1 3)), (4, .int (L.1 4)), (5, .int (L.1 5)), (6, .int (L.1 6))]) 33 (fun L => [])) ∧ (bC p l e (headSpec w_y_X1_makeRow__a16 ({ frames := 1, cells := 0, slots := 0, locals := 60 })).room s m #[.ref (a 0), .int (L0.1 1), .ref (a 16), .int (L0.1 3), .int (L0.1 4)] below meth c dC dI cy a z A (kI dC dI cy a z A below #[.ref (a 0), .int (L0.1 1), .ref (a 16), .int (L0.1 3), .int (L0.1 4)] s) 11 (y_X1_makeRow__a16 k 5) (fun L => [(0, .ref (a 0)), (1, .int (L.1 1)), (2, .ref (a 16)), (3, .int (L.1 3)), (4, .int (L.1 4)), (5, .int (L.1 5)), (6, .int (L.1 6))]) 34 (fun L => [.int (L.1 100)])) ∧ (bC p l e (headSpec w_y_X1_makeRow__a16 ({ frames := 1, cells := 0, slots := 0, locals := 60 })).room s m #[.ref (a 0), .int (L0.1 1), .ref (a 16), .int (L0.1 3), .int (L0.1 4)] below meth c dC dI cy a z A (kI dC dI cy a z A below #[.ref (a 0), .int (L0.1 1), .ref (a 16), .int (L0.1 3), .int (L0.1 4)] s) 11 (y_X1_makeRow__a16 k 6) (fun L => [(0, .ref (a 0)), (1, .int (L.1 1)), (2, .ref (a 16)), (3, .int (L.1 3)), (4, .int (L.1 4)), (5, .int (L.1 5)), (6, .int (L.1 6)), (7, .int (L.1 7)), (8, .int (L.1 8))]) 39 (fun L => [])) ∧ (bC p l e (headSpec w_y_X1_makeRow__a16 ({ frames := 1, cells := 0, slots := 0, locals := 60 })).room s m #[.ref (a 0), .int (L0.1 1), .ref (a 16), .int (L0.1 3), .int (L0.1 4)] below meth c dC dI cy a z A (kI dC dI cy a z A below #[.ref (a 0), .int (L0.1 1), .ref (a 16), .int (L0.1 3), .int (L0.1 4)] s) 11 (y_X1_makeRow__a16 k 7) (fun L => [(0, .ref (a 0)), (1, .int (L.1 1)), (2, .ref (a 16)), (3, .int (L.1 3)), (4, .int (L.1 4)), (5, .int (L.1 5)), (6, .int (L.1 6)), (7, .int (L.1 7))]) 184 (fun L => [])) ∧ (bC p l e (headSpec w_y_X1_makeRow__a16 ({ frames := 1, cells := 0, slots := 0, locals := 60 })).room s m #[.ref (a 0), .int (L0.1 1), .ref (a 16), .int (L0.1 3), .int (L0.1 4)] below meth c dC dI cy a z A (kI dC dI cy a z A below #[.ref (a 0), .int (L0.1 1), .ref (a 16), .int (L0.1 3), .int (L0.1 4)] s) 11 (y_X1_makeRow__a16 k 8) (fun L => [(0, .ref (a 0)), (1, .int (L.1 1)), (2, .ref (a 16)), (3, .int (L.1 3)), (4, .int (L.1 4)), (5, .int (L.1 5)), (6, .int (L.1 6)), (8, .int (L.1 8)), (9, .int (L.1 9))]) 137 (fun L => [])) ∧ (bC p l e (headSpec w_y_X1_makeRow__a16 ({ frames := 1, cells := 0, slots := 0, locals := 60 })).room s m #[.ref (a 0), .int (L0.1 1), .ref (a 16), .int (L0.1 3), .int (L0.1 4)] below meth c dC dI cy a z A (kI dC dI cy a z A below #[.ref (a 0), .int (L0.1 1), .ref (a 16), .int (L0.1 3), .int (L0.1 4)] s) 11 (y_X1_makeRow__a16 k 9) (fun L => [(0, .ref (a 0)), (1, .int (L.1 1)), (2, .ref (a 16)), (3, .int (L.1 3)), (4, .int (L.1 4)), (5, .int (L.1 5)), (7, .int (L.1 7)), (8, .int (L.1 8)), (10, .int (L.1 10))]) 105 (fun L => [])) ∧ (bC p l e (headSpec w_y_X1_makeRow__a16 ({ frames := 1, cells := 0, slots := 0, locals := 60 })).room s m #[.ref (a 0), .int (L0.1 1), .ref (a 16), .int (L0.1 3), .int (L0.1 4)] below meth c dC dI cy a z A (kI dC dI cy a z A below #[.ref (a 0), .int (L0.1 1), .ref (a 16), .int (L0.1 3), .int (L0.1 4)] s) 11 (y_X1_makeRow__a16 k 10) (fun L => [(0, .ref (a 0)), (1, .int (L.1 1)), (2, .ref (a 16)), (3, .int (L.1 3)), (4, .int (L.1 4)), (5, .int (L.1 5)), (7, .int (L.1 7)), (8, .int (L.1 8)), (10, .int (L.1 10))]) 110 (fun L => [.int (L.1 100)])) ∧ (bC p l e (headSpec w_y_X1_makeRow__a16 ({ frames := 1, cells := 0, slots := 0, locals := 60 })).room s m #[.ref (a 0), .int (L0.1 1), .ref (a 16), .int (L0.1 3), .int (L0.1 4)] below meth c dC dI cy a z A (kI dC dI cy a z A below #[.ref (a 0), .int (L0.1 1), .ref (a 16), .int (L0.1 3), .int (L0.1 4)] s) 11 (y_X1_makeRow__a16 k 11) (fun L => []) 199 (fun L => [])) ∧ (bC p l e (headSpec w_y_X1_makeRow__a16 ({ frames := 1, cells := 0, slots := 0, locals := 60 })).room s m #[.ref (a 0), .int (L0.1 1), .ref (a 16), .int (L0.1 3), .int (L0.1 4)] below meth c dC dI cy a z A (kI dC dI cy a z A below #[.ref (a 0), .int (L0.1 1), .ref (a 16), .int (L0.1 3), .int (L0.1 4)] s) 11 (y_X1_makeRow__a16 k 12) (fun L => [(0, .ref (a 0)), (1, .int (L.1 1)), (2, .ref (a 16)), (3, .int (L.1 3)), (4, .int (L.1 4)), (5, .int (L.1 5)), (6, .int (L.1 6)), (7, .int (L.1 7))]) 202 (fun L => [])) ∧ (bC p l e (headSpec w_y_X1_makeRow__a16 ({ frames := 1, cells := 0, slots := 0, locals := 60 })).room s m #[.ref (a 0), .int (L0.1 1), .ref (a 16), .int (L0.1 3), .int (L0.1 4)] below meth c dC dI cy a z A (kI dC dI cy a z A below #[.ref (a 0), .int (L0.1 1), .ref (a 16), .int (L0.1 3), .int (L0.1 4)] s) 11 (y_X1_makeRow__a16 k 13) (fun L => [(0, .ref (a 0)), (1, .int (L.1 1)), (2, .ref (a 16)), (3, .int (L.1 3)), (4, .int (L.1 4)), (6, .int (L.1 6)), (8, .int (L.1 8))]) 167 (fun L => [.int (L.1 100)])) ∧ (bC p l e (headSpec w_y_X1_makeRow__a16 ({ frames := 1, cells := 0, slots := 0, locals := 60 })).room s m #[.ref (a 0), .int (L0.1 1), .ref (a 16), .int (L0.1 3), .int (L0.1 4)] below meth c dC dI cy a z A (kI dC dI cy a z A below #[.ref (a 0), .int (L0.1 1), .ref (a 16), .int (L0.1 3), .int (L0.1 4)] s) 11 (y_X1_makeRow__a16 k 14) (fun L => [(0, .ref (a 0)), (1, .int (L.1 1)), (2, .ref (a 16)), (3, .int (L.1 3)), (4, .int (L.1 4)), (6, .int (L.1 6)), (8, .int (L.1 8))]) 171 (fun L => [.int (L.1 100)])) ∧ (bC p l e (headSpec w_y_X1_makeRow__a16 ({ frames := 1, cells := 0, slots := 0, locals := 60 })).room s m #[.ref (a 0), .int (L0.1 1), .ref (a 16), .int (L0.1 3), .int (L0.1 4)] below meth c dC dI cy a z A (kI dC dI cy a z A below #[.ref (a 0), .int (L0.1 1), .ref (a 16), .int (L0.1 3), .int (L0.1 4)] s) 11 (y_X1_makeRow__a16 k 15) (fun L => [(0, .ref (a 0)), (1, .int (L.1 1)), (2, .ref (a 16)), (3, .int (L.1 3)), (4, .int (L.1 4)), (5, .int (L.1 5)), (6, .int (L.1 6)), (8, .int (L.1 8))]) 131 (fun L => [])) ∧ (bC p l e (headSpec w_y_X1_makeRow__a16 ({ frames := 1, cells := 0, slots := 0, locals := 60 })).room s m #[.ref (a 0), .int (L0.1 1), .ref (a 16), .int (L0.1 3), .int (L0.1 4)] below meth c dC dI cy a z A (kI dC dI cy a z A below #[.ref (a 0), .int (L0.1 1), .ref (a 16), .int (L0.1 3), .int (L0.1 4)] s) 11 (y_X1_makeRow__a16 k 16) (fun L => [(0, .ref (a 0)), (1, .int (L.1 1)), (2, .ref (a 16)), (3, .int (L.1 3)), (4, .int (L.1 4)), (5, .int (L.1 5)), (6, .int (L.1 6)), (8, .int (L.1 8))]) 132 (fun L => [.int (L.1 100)])) ∧ (bC p l e (headSpec w_y_X1_makeRow__a16 ({ frames := 1, cells := 0, slots := 0, locals := 60 })).room s m #[.ref (a 0), .int (L0.1 1), .ref (a 16), .int (L0.1 3), .int (L0.1 4)] below meth c dC dI cy a z A (kI dC dI cy a z A below #[.ref (a 0), .int (L0.1 1), .ref (a 16), .int (L0.1 3), .int (L0.1 4)] s) 11 (y_X1_makeRow__a16 k 17) (fun L => [(0, .ref (a 0)), (1, .int (L.1 1)), (2, .ref (a 16)), (3, .int (L.1 3)), (4, .int (L.1 4)), (5, .int (L.1 5)), (6, .int (L.1 6)), (7, .int (L.1 7)), (8, .int (L.1 8))]) 226 (fun L => [])) ∧ (bC p l e (headSpec w_y_X1_makeRow__a16 ({ frames := 1, cells := 0, slots := 0, locals := 60 })).room s m #[.ref (a 0), .int (L0.1 1), .ref (a 16), .int (L0.1 3), .int (L0.1 4)] below meth c dC dI cy a z A (kI dC dI cy a z A below #[.ref (a 0), .int (L0.1 1), .ref (a 16), .int (L0.1 3), .int (L0.1 4)] s) 11 (y_X1_makeRow__a16 k 18) (fun L => [(0, .ref (a 0)), (1, .int (L.1 1)), (2, .ref (a 16)), (3, .int (L.1 3)), (4, .int (L.1 4)), (6, .int (L.1 6)), (8, .int (L.1 8))]) 172 (fun L => [.int (L.1 100), .int (L.1 101)])) ∧ (bC p l e (headSpec w_y_X1_makeRow__a16 ({ frames := 1, cells := 0, slots := 0, locals := 60 })).room s m #[.ref (a 0), .int (L0.1 1), .ref (a 16), .int (L0.1 3), .int (L0.1 4)] below meth c dC dI cy a z A (kI dC dI cy a z A below #[.ref (a 0), .int (L0.1 1), .ref (a 16), .int (L0.1 3), .int (L0.1 4)] s) 11 (y_X1_makeRow__a16 k 19) (fun L => [(0, .ref (a 0)), (1, .int (L.1 1)), (2, .ref (a 16)), (3, .int (L.1 3)), (4, .int (L.1 4)), (5, .int (L.1 5)), (6, .int (L.1 6)), (7, .int (L.1 7)), (8, .int (L.1 8))]) 178 (fun L => [])) ∧ (bC p l e (headSpec w_y_X1_makeRow__a16 ({ frames := 1, cells := 0, slots := 0, locals := 60 })).room s m #[.ref (a 0), .int (L0.1 1), .ref (a 16), .int (L0.1 3), .int (L0.1 4)] below meth c dC dI cy a z A (kI dC dI cy a z A below #[.ref (a 0), .int (L0.1 1), .ref (a 16), .int (L0.1 3), .int (L0.1 4)] s) 11 (y_X1_makeRow__a16 k 20) (fun L => [(0, .ref (a 0)), (2, .ref (a 16)), (3, .int (L.1 3)), (4, .int (L.1 4)), (5, .int (L.1 5)), (6, .int (L.1 6)), (8, .int (L.1 8))]) 254 (fun L => [.int (L.1 100), .int (L.1 101), .ref (z 3)])) ∧ (bC p l e (headSpec w_y_X1_makeRow__a16 ({ frames := 1, cells := 0, slots := 0, locals := 60 })).room s m #[.ref (a 0), .int (L0.1 1), .ref (a 16), .int (L0.1 3), .int (L0.1 4)] below meth c dC dI cy a z A (kI dC dI cy a z A below #[.ref (a 0), .int (L0.1 1), .ref (a 16), .int (L0.1 3), .int (L0.1 4)] s) 11 (y_X1_makeRow__a16 k 21) (fun L => [(0, .ref (a 0)), (2, .ref (a 16)), (3, .int (L.1 3)), (4, .int (L.1 4)), (5, .int (L.1 5)), (6, .int (L.1 6)), (8, .int (L.1 8))]) 255 (fun L => [.int (L.1 100), .int (L.1 101), .int (L.1 102), .ref (z 3)])) := by
    intro k
    induction k with
    | zero => exact ⟨fun L σ r h => (by cases h), fun L σ r h => (by cases h), fun L σ r h => (by cases h), fun L σ r h => (by cases h), fun L σ r h => (by cases h), fun L σ r h => (by cases h), fun L σ r h => (by cases h), fun L σ r h => (by cases h), fun L σ r h => (by cases h), fun L σ r h => (by cases h), fun L σ r h => (by cases h), fun L σ r h => (by cases h), fun L σ r h => (by cases h), fun L σ r h => (by cases h), fun L σ r h => (by cases h), fun L σ r h => (by cases h), fun L σ r h => (by cases h), fun L σ r h => (by cases h), fun L σ r h => (by cases h), fun L σ r h => (by cases h), fun L σ r h => (by cases h), fun L σ r h => (by cases h)⟩
    | succ k ih =>
      refine ⟨?_, ?_, ?_, ?_, ?_, ?_, ?_, ?_, ?_, ?_, ?_, ?_, ?_, ?_, ?_, ?_, ?_, ?_, ?_, ?_, ?_, ?_⟩
      · intro L σ r h H locs ls hP hD hS hl
        rw [y_X1_makeRow__a16] at h
        refine lv_iload hx hb dX1_makeRow_0 (lv_at hl 4 rfl) ?_
        refine lv_if_gt (tgt := 17) hx hb dX1_makeRow_2 (by decide) (fun c1 => ?_) (fun c1 => ?_)
        · rw [if_pos c1] at h
          exact ih.2.1 L σ r h H locs ls hP hD hS (lv_sub hl [0, 1, 2, 3, 4] rfl)
        · rw [if_neg c1] at h
          refine lv_iload_n hx hb dX1_makeRow_5 rfl (lv_at hl 1 rfl) ?_
          refine lv_bipush (v := 6) hx hb dX1_makeRow_6 (by decide) ?_
          refine lv_icmp_ne (tgt := 15) hx hb dX1_makeRow_8 (by decide) (fun c2 => ?_) (fun c2 => ?_)
          · rw [if_neg c2] at h
            exact ih.2.2.1 L σ r h H locs ls hP hD hS (lv_sub hl [] rfl)
          · rw [if_pos c2] at h
            refine lv_iconst (v := 2) hx hb dX1_makeRow_11 (by decide) ?_
            refine lv_goto (tgt := 16) hx hb dX1_makeRow_12 (by decide) ?_
            exact ih.2.2.2.1 (lI L 100 2) σ r h H locs ls hP hD hS (lv_sub hl [] rfl)
      · intro L σ r h H locs ls hP hD hS hl
        rw [y_X1_makeRow__a16] at h
        refine lv_iconst (v := 1) hx hb dX1_makeRow_17 (by decide) ?_
        refine lv_istore (lv' := [(5, .int 1), (0, .ref (a 0)), (1, .int (L.1 1)), (2, .ref (a 16)), (3, .int (L.1 3)), (4, .int (L.1 4))]) hx hb dX1_makeRow_18 hl (by decide) rfl (fun ls hl => ?_)
        refine lv_iconst (v := 0) hx hb dX1_makeRow_20 (by decide) ?_
        refine lv_istore (lv' := [(6, .int 0), (5, .int 1), (0, .ref (a 0)), (1, .int (L.1 1)), (2, .ref (a 16)), (3, .int (L.1 3)), (4, .int (L.1 4))]) hx hb dX1_makeRow_21 hl (by decide) rfl (fun ls hl => ?_)
        refine lv_iload_n hx hb dX1_makeRow_23 rfl (lv_at hl 3 rfl) ?_
        refine lv_bipush (v := 6) hx hb dX1_makeRow_24 (by decide) ?_
        refine lv_icmp_ne (tgt := 33) hx hb dX1_makeRow_26 (by decide) (fun c1 => ?_) (fun c1 => ?_)
        · rw [if_neg c1] at h
          exact ih.2.2.2.2.1 (lI (lI L 5 1) 6 0) σ r h H locs ls hP hD hS (lv_sub hl [2, 3, 4, 5, 6, 1, 0] rfl)
        · rw [if_pos c1] at h
          refine lv_iconst (v := 1) hx hb dX1_makeRow_29 (by decide) ?_
          refine lv_goto (tgt := 34) hx hb dX1_makeRow_30 (by decide) ?_
          exact ih.2.2.2.2.2.1 (lI (lI (lI L 5 1) 6 0) 100 1) σ r h H locs ls hP hD hS (lv_sub hl [2, 3, 4, 5, 6, 1, 0] rfl)
      · intro L σ r h H locs ls hP hD hS hl
        rw [y_X1_makeRow__a16] at h
        refine lv_iconst (v := 1) hx hb dX1_makeRow_15 (by decide) ?_
        exact ih.2.2.2.1 (lI L 100 1) σ r h H locs ls hP hD hS (lv_sub hl [] rfl)
      · intro L σ r h H locs ls hP hD hS hl
        rw [y_X1_makeRow__a16] at h
        obtain rfl := Option.some.inj h
        exact W.iret (v := (L.1 100)) hx hb hr (fun t ht hW => ⟨⟨(L.1 100), (), rfl, rfl, by rw [ht]; exact hP, va_K.moved hW.alike hK, hD⟩, hS.F ht⟩) hS.2.2 dX1_makeRow_16
      · intro L σ r h H locs ls hP hD hS hl
        rw [y_X1_makeRow__a16] at h
        refine lv_iconst (v := 0) hx hb dX1_makeRow_33 (by decide) ?_
        exact ih.2.2.2.2.2.1 (lI L 100 0) σ r h H locs ls hP hD hS (lv_sub hl [0, 1, 2, 3, 4, 5, 6] rfl)
      · intro L σ r h H locs ls hP hD hS hl
        rw [y_X1_makeRow__a16] at h
        refine lv_istore (lv' := [(7, .int (L.1 100)), (0, .ref (a 0)), (1, .int (L.1 1)), (2, .ref (a 16)), (3, .int (L.1 3)), (4, .int (L.1 4)), (5, .int (L.1 5)), (6, .int (L.1 6))]) hx hb dX1_makeRow_34 hl (by decide) rfl (fun ls hl => ?_)
        refine lv_iload_n hx hb dX1_makeRow_36 rfl (lv_at hl 4 rfl) ?_
        refine lv_istore (lv' := [(8, .int (L.1 3)), (7, .int (L.1 100)), (0, .ref (a 0)), (1, .int (L.1 1)), (2, .ref (a 16)), (3, .int (L.1 3)), (4, .int (L.1 4)), (5, .int (L.1 5)), (6, .int (L.1 6))]) hx hb dX1_makeRow_37 hl (by decide) rfl (fun ls hl => ?_)
        exact ih.2.2.2.2.2.2.1 (lI (lI L 7 ((L.1 100))) 8 ((L.1 3))) σ r h H locs ls hP hD hS (lv_sub hl [2, 3, 4, 5, 6, 7, 8, 1, 0] rfl)
      · intro L σ r h H locs ls hP hD hS hl
        rw [y_X1_makeRow__a16] at h
        refine lv_iload hx hb dX1_makeRow_39 (lv_at hl 8 rfl) ?_
        refine lv_iload_n hx hb dX1_makeRow_41 rfl (lv_at hl 3 rfl) ?_
        refine lv_iload hx hb dX1_makeRow_42 (lv_at hl 4 rfl) ?_
        refine lv_iadd hx hb dX1_makeRow_44 ?_
        refine lv_icmp_ge (tgt := 184) hx hb dX1_makeRow_45 (by decide) (fun c1 => ?_) (fun c1 => ?_)
        · rw [if_pos c1] at h
          exact ih.2.2.2.2.2.2.2.1 L σ r h H locs ls hP hD hS (lv_sub hl [0, 1, 2, 3, 4, 5, 6, 7] rfl)
        · rw [if_neg c1] at h
          refine lv_iload hx hb dX1_makeRow_48 (lv_at hl 5 rfl) ?_
          refine lv_sipush (v := 1000) hx hb dX1_makeRow_50 (by decide) ?_
          refine lv_icmp_gt (tgt := 184) hx hb dX1_makeRow_53 (by decide) (fun c2 => ?_) (fun c2 => ?_)
          · rw [if_pos c2] at h
            exact ih.2.2.2.2.2.2.2.1 L σ r h H locs ls hP hD hS (lv_sub hl [0, 1, 2, 3, 4, 5, 6, 7] rfl)
          · rw [if_neg c2] at h
            refine lv_aload_n hx hb dX1_makeRow_56 rfl (lv_at hl 2 rfl) ?_
            refine lv_iload hx hb dX1_makeRow_57 (lv_at hl 8 rfl) ?_
            obtain ⟨q3, h⟩ := kb_ite1 h
            refine hl_16 hx hb hK hP q3 dX1_makeRow_59 ?_
            refine lv_istore (lv' := [(9, .int (σ.2.2.1 16 ((L.1 8)).toNatClampNeg)), (0, .ref (a 0)), (1, .int (L.1 1)), (2, .ref (a 16)), (3, .int (L.1 3)), (4, .int (L.1 4)), (5, .int (L.1 5)), (6, .int (L.1 6)), (7, .int (L.1 7)), (8, .int (L.1 8))]) hx hb dX1_makeRow_60 hl (by decide) rfl (fun ls hl => ?_)
            refine lv_iload hx hb dX1_makeRow_62 (lv_at hl 0 rfl) ?_
            refine lv_if_lt (tgt := 137) hx hb dX1_makeRow_64 (by decide) (fun c4 => ?_) (fun c4 => ?_)
            · rw [if_pos c4] at h
              exact ih.2.2.2.2.2.2.2.2.1 (lI L 9 ((σ.2.2.1 16 ((L.1 8)).toNatClampNeg))) σ r h H locs ls hP hD hS (lv_sub hl [1, 2, 3, 4, 5, 6, 7, 9, 0] rfl)
            · rw [if_neg c4] at h
              refine lv_aload_n hx hb dX1_makeRow_67 rfl (lv_at hl 1 rfl) ?_
              refine hg_0_0 hx hb hts in_y_X1_makeRow__a16_X1 hown hK hP (hts _ (List.mem_cons_of_mem _ (List.mem_append_left _ (List.mem_append_left _ (List.mem_of_getElem? (i := 0) rfl))))) dX1_makeRow_68 ?_
              refine lv_iload hx hb dX1_makeRow_71 (lv_at hl 0 rfl) ?_
              obtain ⟨q5, h⟩ := kb_ite1 h
              refine hl_3 hx hb hK hP q5 dX1_makeRow_73 ?_
              refine lv_istore (lv' := [(10, .int (σ.2.2.1 3 ((σ.2.2.1 16 ((L.1 8)).toNatClampNeg)).toNatClampNeg)), (9, .int (σ.2.2.1 16 ((L.1 8)).toNatClampNeg)), (0, .ref (a 0)), (1, .int (L.1 1)), (2, .ref (a 16)), (3, .int (L.1 3)), (4, .int (L.1 4)), (5, .int (L.1 5)), (6, .int (L.1 6)), (7, .int (L.1 7)), (8, .int (L.1 8))]) hx hb dX1_makeRow_74 hl (by decide) rfl (fun ls hl => ?_)
              refine lv_iload hx hb dX1_makeRow_76 (lv_at hl 7 rfl) ?_
              refine lv_iload hx hb dX1_makeRow_78 (lv_at hl 0 rfl) ?_
              refine lv_bipush (v := 16) hx hb dX1_makeRow_80 (by decide) ?_
              refine lv_iushr (v := (((σ.2.2.1 3 ((σ.2.2.1 16 ((L.1 8)).toNatClampNeg)).toNatClampNeg)).toUInt32 >>> ((16 : Int32).toUInt32 &&& Int32.toUInt32 31)).toInt32) hx hb dX1_makeRow_82 rfl ?_
              refine lv_sipush (v := 1023) hx hb dX1_makeRow_83 (by decide) ?_
              refine lv_iand hx hb dX1_makeRow_86 ?_
              refine lv_iadd hx hb dX1_makeRow_87 ?_
              refine lv_istore (lv' := [(5, .int (((L.1 5)) + (((((((σ.2.2.1 3 ((σ.2.2.1 16 ((L.1 8)).toNatClampNeg)).toNatClampNeg)).toUInt32 >>> ((16 : Int32).toUInt32 &&& Int32.toUInt32 31)).toInt32)) &&& 1023)))), (10, .int (σ.2.2.1 3 ((σ.2.2.1 16 ((L.1 8)).toNatClampNeg)).toNatClampNeg)), (9, .int (σ.2.2.1 16 ((L.1 8)).toNatClampNeg)), (0, .ref (a 0)), (1, .int (L.1 1)), (2, .ref (a 16)), (3, .int (L.1 3)), (4, .int (L.1 4)), (6, .int (L.1 6)), (7, .int (L.1 7)), (8, .int (L.1 8))]) hx hb dX1_makeRow_88 hl (by decide) rfl (fun ls hl => ?_)
              refine lv_iload hx hb dX1_makeRow_90 (lv_at hl 8 rfl) ?_
              refine lv_iload hx hb dX1_makeRow_92 (lv_at hl 1 rfl) ?_
              refine lv_bipush (v := 26) hx hb dX1_makeRow_94 (by decide) ?_
              refine lv_iushr (v := (((σ.2.2.1 3 ((σ.2.2.1 16 ((L.1 8)).toNatClampNeg)).toNatClampNeg)).toUInt32 >>> ((26 : Int32).toUInt32 &&& Int32.toUInt32 31)).toInt32) hx hb dX1_makeRow_96 rfl ?_
              refine lv_icmp_le (tgt := 105) hx hb dX1_makeRow_97 (by decide) (fun c6 => ?_) (fun c6 => ?_)
              · rw [if_pos c6] at h
                exact ih.2.2.2.2.2.2.2.2.2.1 (lI (lI L 5 ((((L.1 5)) + (((((((σ.2.2.1 3 ((σ.2.2.1 16 ((L.1 8)).toNatClampNeg)).toNatClampNeg)).toUInt32 >>> ((16 : Int32).toUInt32 &&& Int32.toUInt32 31)).toInt32)) &&& 1023))))) 10 ((σ.2.2.1 3 ((σ.2.2.1 16 ((L.1 8)).toNatClampNeg)).toNatClampNeg))) σ r h H locs ls hP hD hS (lv_sub hl [3, 4, 5, 6, 7, 0, 9, 10, 1] rfl)
              · rw [if_neg c6] at h
                refine lv_iload hx hb dX1_makeRow_100 (lv_at hl 8 rfl) ?_
                refine lv_goto (tgt := 110) hx hb dX1_makeRow_102 (by decide) ?_
                exact ih.2.2.2.2.2.2.2.2.2.2.1 (lI (lI (lI L 5 ((((L.1 5)) + (((((((σ.2.2.1 3 ((σ.2.2.1 16 ((L.1 8)).toNatClampNeg)).toNatClampNeg)).toUInt32 >>> ((16 : Int32).toUInt32 &&& Int32.toUInt32 31)).toInt32)) &&& 1023))))) 10 ((σ.2.2.1 3 ((σ.2.2.1 16 ((L.1 8)).toNatClampNeg)).toNatClampNeg))) 100 ((L.1 6))) σ r h H locs ls hP hD hS (lv_sub hl [3, 4, 5, 6, 7, 0, 9, 10, 1] rfl)
      · intro L σ r h H locs ls hP hD hS hl
        rw [y_X1_makeRow__a16] at h
        refine lv_iload hx hb dX1_makeRow_184 (lv_at hl 5 rfl) ?_
        refine lv_sipush (v := 1000) hx hb dX1_makeRow_186 (by decide) ?_
        refine lv_icmp_gt (tgt := 199) hx hb dX1_makeRow_189 (by decide) (fun c1 => ?_) (fun c1 => ?_)
        · rw [if_pos c1] at h
          exact ih.2.2.2.2.2.2.2.2.2.2.2.1 L σ r h H locs ls hP hD hS (lv_sub hl [] rfl)
        · rw [if_neg c1] at h
          refine lv_iload hx hb dX1_makeRow_192 (lv_at hl 6 rfl) ?_
          refine lv_bipush (v := 30) hx hb dX1_makeRow_194 (by decide) ?_
          refine lv_icmp_lt (tgt := 202) hx hb dX1_makeRow_196 (by decide) (fun c2 => ?_) (fun c2 => ?_)
          · rw [if_pos c2] at h
            exact ih.2.2.2.2.2.2.2.2.2.2.2.2.1 L σ r h H locs ls hP hD hS (lv_sub hl [0, 1, 2, 3, 4, 5, 6, 7] rfl)
          · rw [if_neg c2] at h
            exact ih.2.2.2.2.2.2.2.2.2.2.2.1 L σ r h H locs ls hP hD hS (lv_sub hl [] rfl)
      · intro L σ r h H locs ls hP hD hS hl
        rw [y_X1_makeRow__a16] at h
        refine lv_iload hx hb dX1_makeRow_137 (lv_at hl 8 rfl) ?_
        refine lv_ldc (v := (-268435456)) hx hb hown (hts _ (List.mem_cons_of_mem _ (List.mem_append_left _ (List.mem_append_left _ (List.mem_of_getElem? (i := 1) rfl))))) dX1_makeRow_139 ?_
        refine lv_iand hx hb dX1_makeRow_141 ?_
        refine lv_istore (lv' := [(10, .int (((L.1 9)) &&& ((-268435456)))), (0, .ref (a 0)), (1, .int (L.1 1)), (2, .ref (a 16)), (3, .int (L.1 3)), (4, .int (L.1 4)), (5, .int (L.1 5)), (6, .int (L.1 6)), (8, .int (L.1 8)), (9, .int (L.1 9))]) hx hb dX1_makeRow_142 hl (by decide) rfl (fun ls hl => ?_)
        refine lv_iload hx hb dX1_makeRow_144 (lv_at hl 6 rfl) ?_
        refine lv_iload hx hb dX1_makeRow_146 (lv_at hl 0 rfl) ?_
        refine lv_ldc (v := (-1073741824)) hx hb hown (hts _ (List.mem_cons_of_mem _ (List.mem_append_left _ (List.mem_append_left _ (List.mem_of_getElem? (i := 2) rfl))))) dX1_makeRow_148 ?_
        refine lv_icmp_eq (tgt := 167) hx hb dX1_makeRow_150 (by decide) (fun c1 => ?_) (fun c1 => ?_)
        · rw [if_pos c1] at h
          exact ih.2.2.2.2.2.2.2.2.2.2.2.2.2.1 (lI L 100 ((L.1 5))) σ r h H locs ls hP hD hS (lv_sub hl [1, 2, 3, 4, 5, 7, 8] rfl)
        · rw [if_neg c1] at h
          refine lv_iload hx hb dX1_makeRow_153 (lv_at hl 0 rfl) ?_
          refine lv_ldc (v := (-1610612736)) hx hb hown (hts _ (List.mem_cons_of_mem _ (List.mem_append_left _ (List.mem_append_left _ (List.mem_of_getElem? (i := 3) rfl))))) dX1_makeRow_155 ?_
          refine lv_icmp_ne (tgt := 171) hx hb dX1_makeRow_157 (by decide) (fun c2 => ?_) (fun c2 => ?_)
          · rw [if_neg c2] at h
            exact ih.2.2.2.2.2.2.2.2.2.2.2.2.2.2.1 (lI L 100 ((L.1 5))) σ r h H locs ls hP hD hS (lv_sub hl [1, 2, 3, 4, 5, 7, 8] rfl)
          · rw [if_pos c2] at h
            refine lv_iload hx hb dX1_makeRow_160 (lv_at hl 9 rfl) ?_
            refine lv_ldc (v := (-1610612736)) hx hb hown (hts _ (List.mem_cons_of_mem _ (List.mem_append_left _ (List.mem_append_left _ (List.mem_of_getElem? (i := 3) rfl))))) dX1_makeRow_162 ?_
            refine lv_icmp_eq (tgt := 171) hx hb dX1_makeRow_164 (by decide) (fun c3 => ?_) (fun c3 => ?_)
            · rw [if_pos c3] at h
              exact ih.2.2.2.2.2.2.2.2.2.2.2.2.2.2.1 (lI L 100 ((L.1 5))) σ r h H locs ls hP hD hS (lv_sub hl [1, 2, 3, 4, 5, 7, 8] rfl)
            · rw [if_neg c3] at h
              exact ih.2.2.2.2.2.2.2.2.2.2.2.2.2.1 (lI L 100 ((L.1 5))) σ r h H locs ls hP hD hS (lv_sub hl [1, 2, 3, 4, 5, 7, 8] rfl)
      · intro L σ r h H locs ls hP hD hS hl
        rw [y_X1_makeRow__a16] at h
        refine lv_iload hx hb dX1_makeRow_105 (lv_at hl 8 rfl) ?_
        refine lv_bipush (v := 26) hx hb dX1_makeRow_107 (by decide) ?_
        refine lv_iushr (v := (((L.1 10)).toUInt32 >>> ((26 : Int32).toUInt32 &&& Int32.toUInt32 31)).toInt32) hx hb dX1_makeRow_109 rfl ?_
        exact ih.2.2.2.2.2.2.2.2.2.2.1 (lI L 100 (((((L.1 10)).toUInt32 >>> ((26 : Int32).toUInt32 &&& Int32.toUInt32 31)).toInt32))) σ r h H locs ls hP hD hS (lv_sub hl [0, 1, 2, 3, 4, 5, 6, 7, 8] rfl)
      · intro L σ r h H locs ls hP hD hS hl
        rw [y_X1_makeRow__a16] at h
        refine lv_istore (lv' := [(6, .int (L.1 100)), (0, .ref (a 0)), (1, .int (L.1 1)), (2, .ref (a 16)), (3, .int (L.1 3)), (4, .int (L.1 4)), (5, .int (L.1 5)), (7, .int (L.1 7)), (8, .int (L.1 8)), (10, .int (L.1 10))]) hx hb dX1_makeRow_110 hl (by decide) rfl (fun ls hl => ?_)
        refine lv_iload hx hb dX1_makeRow_112 (lv_at hl 7 rfl) ?_
        refine lv_if_eq (tgt := 131) hx hb dX1_makeRow_114 (by decide) (fun c1 => ?_) (fun c1 => ?_)
        · rw [if_pos c1] at h
          exact ih.2.2.2.2.2.2.2.2.2.2.2.2.2.2.2.1 (lI L 6 ((L.1 100))) σ r h H locs ls hP hD hS (lv_sub hl [1, 2, 3, 4, 5, 6, 0, 8] rfl)
        · rw [if_neg c1] at h
          refine lv_iload hx hb dX1_makeRow_117 (lv_at hl 9 rfl) ?_
          refine lv_ldc (v := 65535) hx hb hown (hts _ (List.mem_cons_of_mem _ (List.mem_append_left _ (List.mem_append_left _ (List.mem_of_getElem? (i := 4) rfl))))) dX1_makeRow_119 ?_
          refine lv_iand hx hb dX1_makeRow_121 ?_
          refine lv_bipush (v := 37) hx hb dX1_makeRow_122 (by decide) ?_
          refine lv_icmp_ne (tgt := 131) hx hb dX1_makeRow_124 (by decide) (fun c2 => ?_) (fun c2 => ?_)
          · rw [if_neg c2] at h
            exact ih.2.2.2.2.2.2.2.2.2.2.2.2.2.2.2.1 (lI L 6 ((L.1 100))) σ r h H locs ls hP hD hS (lv_sub hl [1, 2, 3, 4, 5, 6, 0, 8] rfl)
          · rw [if_pos c2] at h
            refine lv_iconst (v := 1) hx hb dX1_makeRow_127 (by decide) ?_
            refine lv_goto (tgt := 132) hx hb dX1_makeRow_128 (by decide) ?_
            exact ih.2.2.2.2.2.2.2.2.2.2.2.2.2.2.2.2.1 (lI (lI L 6 ((L.1 100))) 100 1) σ r h H locs ls hP hD hS (lv_sub hl [1, 2, 3, 4, 5, 6, 0, 8] rfl)
      · intro L σ r h H locs ls hP hD hS hl
        rw [y_X1_makeRow__a16] at h
        refine lv_ldc (v := (-268435451)) hx hb hown (hts _ (List.mem_cons_of_mem _ (List.mem_append_left _ (List.mem_append_left _ (List.mem_of_getElem? (i := 5) rfl))))) dX1_makeRow_199 ?_
        obtain rfl := Option.some.inj h
        exact W.iret (v := (-268435451)) hx hb hr (fun t ht hW => ⟨⟨(-268435451), (), rfl, rfl, by rw [ht]; exact hP, va_K.moved hW.alike hK, hD⟩, hS.F ht⟩) hS.2.2 dX1_makeRow_201
      · intro L σ r h H locs ls hP hD hS hl
        rw [y_X1_makeRow__a16] at h
        refine lv_aload_n hx hb dX1_makeRow_202 rfl (lv_at hl 0 rfl) ?_
        refine hg_0_1 hx hb hts in_y_X1_makeRow__a16_X1 hown hK hP (hts _ (List.mem_cons_of_mem _ (List.mem_append_left _ (List.mem_append_left _ (List.mem_of_getElem? (i := 6) rfl))))) dX1_makeRow_203 ?_
        refine lv_istore (lv' := [(8, .int (σ.1 1)), (0, .ref (a 0)), (1, .int (L.1 1)), (2, .ref (a 16)), (3, .int (L.1 3)), (4, .int (L.1 4)), (5, .int (L.1 5)), (6, .int (L.1 6)), (7, .int (L.1 7))]) hx hb dX1_makeRow_206 hl (by decide) rfl (fun ls hl => ?_)
        refine lv_iconst (v := 1) hx hb dX1_makeRow_208 (by decide) ?_
        refine lv_iload hx hb dX1_makeRow_209 (lv_at hl 5 rfl) ?_
        refine lv_iadd hx hb dX1_makeRow_211 ?_
        refine lv_aload_n hx hb dX1_makeRow_212 rfl (lv_at hl 1 rfl) ?_
        refine hg_0_0 hx hb hts in_y_X1_makeRow__a16_X1 hown hK hP (hts _ (List.mem_cons_of_mem _ (List.mem_append_left _ (List.mem_append_left _ (List.mem_of_getElem? (i := 0) rfl))))) dX1_makeRow_213 ?_
        refine hn_3 hx hb hK hP dX1_makeRow_216 ?_
        refine lv_iload hx hb dX1_makeRow_217 (lv_at hl 0 rfl) ?_
        refine lv_isub hx hb dX1_makeRow_219 ?_
        refine lv_icmp_le (tgt := 226) hx hb dX1_makeRow_220 (by decide) (fun c1 => ?_) (fun c1 => ?_)
        · rw [if_pos c1] at h
          exact ih.2.2.2.2.2.2.2.2.2.2.2.2.2.2.2.2.2.1 (lI L 8 ((σ.1 1))) σ r h H locs ls hP hD hS (lv_sub hl [1, 2, 3, 4, 5, 6, 7, 8, 0] rfl)
        · rw [if_neg c1] at h
          refine lv_ldc (v := (-268435450)) hx hb hown (hts _ (List.mem_cons_of_mem _ (List.mem_append_left _ (List.mem_append_left _ (List.mem_of_getElem? (i := 7) rfl))))) dX1_makeRow_223 ?_
          obtain rfl := Option.some.inj h
          exact W.iret (v := (-268435450)) hx hb hr (fun t ht hW => ⟨⟨(-268435450), (), rfl, rfl, by rw [ht]; exact hP, va_K.moved hW.alike hK, hD⟩, hS.F ht⟩) hS.2.2 dX1_makeRow_225
      · intro L σ r h H locs ls hP hD hS hl
        rw [y_X1_makeRow__a16] at h
        refine lv_iconst (v := 2) hx hb dX1_makeRow_167 (by decide) ?_
        refine lv_goto (tgt := 172) hx hb dX1_makeRow_168 (by decide) ?_
        exact ih.2.2.2.2.2.2.2.2.2.2.2.2.2.2.2.2.2.2.1 (lI (lI L 100 2) 101 ((L.1 100))) σ r h H locs ls hP hD hS (lv_sub hl [0, 1, 2, 3, 4, 5, 6] rfl)
      · intro L σ r h H locs ls hP hD hS hl
        rw [y_X1_makeRow__a16] at h
        refine lv_iconst (v := 1) hx hb dX1_makeRow_171 (by decide) ?_
        exact ih.2.2.2.2.2.2.2.2.2.2.2.2.2.2.2.2.2.2.1 (lI (lI L 100 1) 101 ((L.1 100))) σ r h H locs ls hP hD hS (lv_sub hl [0, 1, 2, 3, 4, 5, 6] rfl)
      · intro L σ r h H locs ls hP hD hS hl
        rw [y_X1_makeRow__a16] at h
        refine lv_iconst (v := 0) hx hb dX1_makeRow_131 (by decide) ?_
        exact ih.2.2.2.2.2.2.2.2.2.2.2.2.2.2.2.2.1 (lI L 100 0) σ r h H locs ls hP hD hS (lv_sub hl [0, 1, 2, 3, 4, 5, 6, 7] rfl)
      · intro L σ r h H locs ls hP hD hS hl
        rw [y_X1_makeRow__a16] at h
        refine lv_istore (lv' := [(7, .int (L.1 100)), (0, .ref (a 0)), (1, .int (L.1 1)), (2, .ref (a 16)), (3, .int (L.1 3)), (4, .int (L.1 4)), (5, .int (L.1 5)), (6, .int (L.1 6)), (8, .int (L.1 8))]) hx hb dX1_makeRow_132 hl (by decide) rfl (fun ls hl => ?_)
        refine lv_goto (tgt := 178) hx hb dX1_makeRow_134 (by decide) ?_
        exact ih.2.2.2.2.2.2.2.2.2.2.2.2.2.2.2.2.2.2.2.1 (lI L 7 ((L.1 100))) σ r h H locs ls hP hD hS (lv_sub hl [1, 2, 3, 4, 5, 6, 7, 0, 8] rfl)
      · intro L σ r h H locs ls hP hD hS hl
        rw [y_X1_makeRow__a16] at h
        refine lv_aload_n hx hb dX1_makeRow_226 rfl (lv_at hl 0 rfl) ?_
        refine lv_iload hx hb dX1_makeRow_227 (lv_at hl 8 rfl) ?_
        refine lv_iconst (v := 1) hx hb dX1_makeRow_229 (by decide) ?_
        refine lv_iadd hx hb dX1_makeRow_230 ?_
        refine lv_iload hx hb dX1_makeRow_231 (lv_at hl 4 rfl) ?_
        refine lv_iadd hx hb dX1_makeRow_233 ?_
        refine hp_0_1 hx hb hts in_y_X1_makeRow__a16_X1 hown hK hP hD hS (hts _ (List.mem_cons_of_mem _ (List.mem_append_left _ (List.mem_append_left _ (List.mem_of_getElem? (i := 6) rfl))))) dX1_makeRow_234 (fun H locs hP hD hS => ?_)
        refine lv_aload_n hx hb dX1_makeRow_237 rfl (lv_at hl 0 rfl) ?_
        refine hg_0_0 hx hb hts in_y_X1_makeRow__a16_X1 hown hK hP (hts _ (List.mem_cons_of_mem _ (List.mem_append_left _ (List.mem_append_left _ (List.mem_of_getElem? (i := 0) rfl))))) dX1_makeRow_238 ?_
        refine lv_iload hx hb dX1_makeRow_241 (lv_at hl 8 rfl) ?_
        refine lv_iload_n hx hb dX1_makeRow_243 rfl (lv_at hl 1 rfl) ?_
        refine lv_iload hx hb dX1_makeRow_244 (lv_at hl 7 rfl) ?_
        refine lv_if_eq (tgt := 254) hx hb dX1_makeRow_246 (by decide) (fun c1 => ?_) (fun c1 => ?_)
        · rw [if_pos c1] at h
          exact ih.2.2.2.2.2.2.2.2.2.2.2.2.2.2.2.2.2.2.2.2.1 (lI (lI L 100 ((L.1 1))) 101 ((L.1 8))) (uI σ 1 ((((((L.1 8)) + 1)) + ((L.1 4))))) r h H locs ls hP hD hS (lv_sub hl [0, 2, 3, 4, 5, 6, 8] rfl)
        · rw [if_neg c1] at h
          refine lv_bipush (v := 8) hx hb dX1_makeRow_249 (by decide) ?_
          refine lv_goto (tgt := 255) hx hb dX1_makeRow_251 (by decide) ?_
          exact ih.2.2.2.2.2.2.2.2.2.2.2.2.2.2.2.2.2.2.2.2.2 (lI (lI (lI L 100 8) 101 ((L.1 1))) 102 ((L.1 8))) (uI σ 1 ((((((L.1 8)) + 1)) + ((L.1 4))))) r h H locs ls hP hD hS (lv_sub hl [0, 2, 3, 4, 5, 6, 8] rfl)
      · intro L σ r h H locs ls hP hD hS hl
        rw [y_X1_makeRow__a16] at h
        refine lv_iadd hx hb dX1_makeRow_172 ?_
        refine lv_istore (lv' := [(5, .int (((L.1 101)) + ((L.1 100)))), (0, .ref (a 0)), (1, .int (L.1 1)), (2, .ref (a 16)), (3, .int (L.1 3)), (4, .int (L.1 4)), (6, .int (L.1 6)), (8, .int (L.1 8))]) hx hb dX1_makeRow_173 hl (by decide) rfl (fun ls hl => ?_)
        refine lv_iconst (v := 0) hx hb dX1_makeRow_175 (by decide) ?_
        refine lv_istore (lv' := [(7, .int 0), (5, .int (((L.1 101)) + ((L.1 100)))), (0, .ref (a 0)), (1, .int (L.1 1)), (2, .ref (a 16)), (3, .int (L.1 3)), (4, .int (L.1 4)), (6, .int (L.1 6)), (8, .int (L.1 8))]) hx hb dX1_makeRow_176 hl (by decide) rfl (fun ls hl => ?_)
        exact ih.2.2.2.2.2.2.2.2.2.2.2.2.2.2.2.2.2.2.2.1 (lI (lI L 5 ((((L.1 101)) + ((L.1 100))))) 7 0) σ r h H locs ls hP hD hS (lv_sub hl [2, 3, 4, 5, 6, 1, 7, 0, 8] rfl)
      · intro L σ r h H locs ls hP hD hS hl
        rw [y_X1_makeRow__a16] at h
        refine lv_iinc (v := ((L.1 8)) + 1) (lv' := [(8, .int (((L.1 8)) + 1)), (0, .ref (a 0)), (1, .int (L.1 1)), (2, .ref (a 16)), (3, .int (L.1 3)), (4, .int (L.1 4)), (5, .int (L.1 5)), (6, .int (L.1 6)), (7, .int (L.1 7))]) hx hb dX1_makeRow_178 hl (k := 8) rfl rfl (by decide) rfl (fun ls hl => ?_)
        refine lv_goto (tgt := 39) hx hb dX1_makeRow_181 (by decide) ?_
        exact ih.2.2.2.2.2.2.1 (lI L 8 ((((L.1 8)) + 1))) σ r h H locs ls hP hD hS (lv_sub hl [1, 2, 3, 4, 5, 6, 7, 8, 0] rfl)
      · intro L σ r h H locs ls hP hD hS hl
        rw [y_X1_makeRow__a16] at h
        refine lv_iconst (v := 0) hx hb dX1_makeRow_254 (by decide) ?_
        exact ih.2.2.2.2.2.2.2.2.2.2.2.2.2.2.2.2.2.2.2.2.2 (lI (lI (lI L 100 0) 101 ((L.1 100))) 102 ((L.1 101))) σ r h H locs ls hP hD hS (lv_sub hl [0, 1, 2, 3, 4, 5, 6] rfl)
      · intro L σ r h H locs ls hP hD hS hl
        rw [y_X1_makeRow__a16] at h
        refine lv_ior hx hb dX1_makeRow_255 ?_
        refine lv_iload hx hb dX1_makeRow_256 (lv_at hl 3 rfl) ?_
        refine lv_iconst (v := 4) hx hb dX1_makeRow_258 (by decide) ?_
        refine lv_ishl hx hb dX1_makeRow_259 ?_
        refine lv_ior hx hb dX1_makeRow_260 ?_
        refine lv_iload hx hb dX1_makeRow_261 (lv_at hl 4 rfl) ?_
        refine lv_bipush (v := 16) hx hb dX1_makeRow_263 (by decide) ?_
        refine lv_ishl hx hb dX1_makeRow_265 ?_
        refine lv_ior hx hb dX1_makeRow_266 ?_
        refine lv_iload hx hb dX1_makeRow_267 (lv_at hl 5 rfl) ?_
        refine lv_iconst (v := 1) hx hb dX1_makeRow_269 (by decide) ?_
        refine lv_iadd hx hb dX1_makeRow_270 ?_
        refine lv_bipush (v := 26) hx hb dX1_makeRow_271 (by decide) ?_
        refine lv_ishl hx hb dX1_makeRow_273 ?_
        refine lv_ior hx hb dX1_makeRow_274 ?_
        obtain ⟨q1, h⟩ := kb_ite1 h
        refine hs_3 hx hb hK hP hD hS q1 dX1_makeRow_275 (fun H locs hP hD hS => ?_)
        refine lv_aload_n hx hb dX1_makeRow_276 rfl (lv_at hl 1 rfl) ?_
        refine lv_iload_n hx hb dX1_makeRow_277 rfl (lv_at hl 2 rfl) ?_
        refine lv_aload_n hx hb dX1_makeRow_278 rfl (lv_at hl 0 rfl) ?_
        refine hg_0_0 hx hb hts in_y_X1_makeRow__a16_X1 hown hK hP (hts _ (List.mem_cons_of_mem _ (List.mem_append_left _ (List.mem_append_left _ (List.mem_of_getElem? (i := 0) rfl))))) dX1_makeRow_279 ?_
        refine lv_iload hx hb dX1_makeRow_282 (lv_at hl 6 rfl) ?_
        refine lv_iconst (v := 1) hx hb dX1_makeRow_284 (by decide) ?_
        refine lv_iadd hx hb dX1_makeRow_285 ?_
        refine lv_iload hx hb dX1_makeRow_286 (lv_at hl 3 rfl) ?_
        obtain ⟨q2, h⟩ := kb_ite1 h
        refine va_copyi (ty := .int) hx hb (hml.trans hl.1.symm) hown (hts _ (List.mem_cons_of_mem _ (List.mem_append_left _ (List.mem_append_left _ (List.mem_of_getElem? (i := 8) rfl))))) (hts _ (List.mem_cons_of_mem _ (List.mem_append_left _ (List.mem_append_left _ (List.mem_of_getElem? (i := 9) rfl))))) (hts _ (List.mem_cons_of_mem _ (List.mem_append_left _ (List.mem_append_left _ (List.mem_of_getElem? (i := 10) rfl))))) (hts _ (List.mem_cons_of_mem _ (List.mem_append_left _ (List.mem_append_left _ (List.mem_of_getElem? (i := 11) rfl))))) hK hP hD hS 16 3 1 1 rfl rfl rfl rfl rfl q2.1 q2.2.1 q2.2.2.1 q2.2.2.2.1 q2.2.2.2.2 (fun _ _ => rfl) (Nat.le_of_ble_eq_true rfl) (Nat.le_of_ble_eq_true rfl) dX1_makeRow_288 (fun H locs hP hD hS => ?_)
        have hP : va_P (dC, dI) nCl (vC cy a z (uF (uA σ 3 ((L.1 102)).toNatClampNeg ((((((((((L.1 101)) ||| ((L.1 100)))) ||| ((((L.1 4)) <<< ((4 : Int32) &&& 31))))) ||| ((((L.1 5)) <<< ((16 : Int32) &&& 31))))) ||| ((((((L.1 6)) + 1)) <<< ((26 : Int32) &&& 31)))))) 3 (va_cpy ((uA σ 3 ((L.1 102)).toNatClampNeg ((((((((((L.1 101)) ||| ((L.1 100)))) ||| ((((L.1 4)) <<< ((4 : Int32) &&& 31))))) ||| ((((L.1 5)) <<< ((16 : Int32) &&& 31))))) ||| ((((((L.1 6)) + 1)) <<< ((26 : Int32) &&& 31)))))).2.2.1 16) ((uA σ 3 ((L.1 102)).toNatClampNeg ((((((((((L.1 101)) ||| ((L.1 100)))) ||| ((((L.1 4)) <<< ((4 : Int32) &&& 31))))) ||| ((((L.1 5)) <<< ((16 : Int32) &&& 31))))) ||| ((((((L.1 6)) + 1)) <<< ((26 : Int32) &&& 31)))))).2.2.1 3) ((L.1 3)).toNatClampNeg ((((L.1 8)) + 1)).toNatClampNeg ((L.1 4)).toNatClampNeg))) H := hP
        have hD : va_D A (vC cy a z (uF (uA σ 3 ((L.1 102)).toNatClampNeg ((((((((((L.1 101)) ||| ((L.1 100)))) ||| ((((L.1 4)) <<< ((4 : Int32) &&& 31))))) ||| ((((L.1 5)) <<< ((16 : Int32) &&& 31))))) ||| ((((((L.1 6)) + 1)) <<< ((26 : Int32) &&& 31)))))) 3 (va_cpy ((uA σ 3 ((L.1 102)).toNatClampNeg ((((((((((L.1 101)) ||| ((L.1 100)))) ||| ((((L.1 4)) <<< ((4 : Int32) &&& 31))))) ||| ((((L.1 5)) <<< ((16 : Int32) &&& 31))))) ||| ((((((L.1 6)) + 1)) <<< ((26 : Int32) &&& 31)))))).2.2.1 16) ((uA σ 3 ((L.1 102)).toNatClampNeg ((((((((((L.1 101)) ||| ((L.1 100)))) ||| ((((L.1 4)) <<< ((4 : Int32) &&& 31))))) ||| ((((L.1 5)) <<< ((16 : Int32) &&& 31))))) ||| ((((((L.1 6)) + 1)) <<< ((26 : Int32) &&& 31)))))).2.2.1 3) ((L.1 3)).toNatClampNeg ((((L.1 8)) + 1)).toNatClampNeg ((L.1 4)).toNatClampNeg))) := hD
        refine lv_iload hx hb dX1_makeRow_291 (lv_at hl 6 rfl) ?_
        obtain rfl := Option.some.inj h
        exact W.iret (v := (L.1 8)) hx hb hr (fun t ht hW => ⟨⟨(L.1 8), (), rfl, rfl, by rw [ht]; exact hP, va_K.moved hW.alike hK, hD⟩, hS.F ht⟩) hS.2.2 dX1_makeRow_293
  exact (blk k0).1 L0 σ0 r0 h0 s.heap [] ls hP hD hS hl

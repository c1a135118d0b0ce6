/-! X10_writeChunk__a13 -/
def y_X10_writeChunk__a13 : Nat → Nat → LV → CS → Option (Int32 × CS)
  | 0, _, _, _ => none
  | k + 1, 0, L, σ => y_X10_writeChunk__a13 k 1 (lI (lI (lI L 4 9) 5 100000000) 6 0) σ
  | k + 1, 1, L, σ => if ((L.1 1)) = 0 then (y_X10_writeChunk__a13 k 2 L σ) else (if 8 ≤ ((L.1 6)) then (y_X10_writeChunk__a13 k 2 L σ) else (if ((L.1 5)) ≤ ((L.1 0)) then (y_X10_writeChunk__a13 k 2 L σ) else (if (10 : Int32) = 0 then none else (y_X10_writeChunk__a13 k 1 (lI (lI (lI L 4 ((((L.1 4)) + (-1)))) 5 ((((L.1 5)) / 10))) 6 ((((L.1 6)) + 1))) σ))))
  | k + 1, 2, L, σ => y_X10_writeChunk__a13 k 3 (lI (lI L 6 ((L.1 0))) 7 ((((L.1 4)) - 1))) σ
  | k + 1, 3, L, σ => if ((L.1 7)) < 0 then (y_X10_writeChunk__a13 k 4 L σ) else (if (10 : Int32) = 0 then none else (if ¬ (((((L.1 3)) + ((L.1 7)))) < 0 ∨ 10400 ≤ ((((L.1 3)) + ((L.1 7)))).toNatClampNeg) then (if (10 : Int32) = 0 then none else (y_X10_writeChunk__a13 k 3 (lI (lI L 6 ((((L.1 6)) / 10))) 7 ((((L.1 7)) + (-1)))) (uA σ 13 ((((L.1 3)) + ((L.1 7)))).toNatClampNeg (vp_nar .byte ((((48 + ((((L.1 6)) - ((L.1 6)) / 10 * 10)))).toInt8.toInt32)))))) else none))
  | k + 1, 4, L, σ => some ((((L.1 3)) + ((L.1 4))), σ)
  | _ + 1, _ + 5, _, _ => none
def o_y_X10_writeChunk__a13 : List Cond := [.constant RX10 182 (100000000)]
theorem o_y_X10_writeChunk__a13_good : o_y_X10_writeChunk__a13.all goodWord = true := by decide +kernel
def p_y_X10_writeChunk__a13 : List Cond := o_y_X10_writeChunk__a13 ++ []
theorem p_y_X10_writeChunk__a13_good : p_y_X10_writeChunk__a13.all goodWord = true := nb_all2 o_y_X10_writeChunk__a13_good rfl
def w_y_X10_writeChunk__a13 : List Cond := .code yX10_writeChunk cX10_writeChunk 8 (some .int) :: (p_y_X10_writeChunk__a13 ++ fC)
theorem w_y_X10_writeChunk__a13_good : w_y_X10_writeChunk__a13.all goodWord = true := nb_allc (by decide +kernel) (nb_all2 p_y_X10_writeChunk__a13_good fC_good)
theorem hd_y_X10_writeChunk__a13 : yX10_writeChunk.cls ≠ "java/lang/invoke/MethodHandle" ∧ yX10_writeChunk.cls ≠ "java/lang/invoke/VarHandle" ∧ (parseMethodDescriptor yX10_writeChunk.desc).map (fun d => d.parameters.length) = some 4 := by decide +kernel
set_option maxHeartbeats 40000000 in
set_option maxRecDepth 100000 in
theorem c_y_X10_writeChunk__a13 (l : Launch) (dC : Nat → ClassId) (dI : Nat → Nat → Nat) (cy : Nat → ClassId) (a z : Nat → Nat) (k0 : Nat) (L0 : LV) (σ0 : CS) (r0 : Int32 × CS) (h0 : y_X10_writeChunk__a13 k0 0 L0 σ0 = some r0) (sz : Nat) : Met l yX10_writeChunk w_y_X10_writeChunk__a13 ({ frames := 0, cells := 0, slots := 0, locals := 0 }) (va_Pc [.int (L0.1 0), .int (L0.1 1), .ref (a 13), .int (L0.1 3)] (nIn (dC, dI) cy sz (vC cy a z σ0))) (va_Qi (fun (x : Int32) (_ : Unit) => x = r0.1) (fun _ t => nOut (dC, dI) cy (va_A (vC cy a z σ0) sz) (vC cy a z r0.2) t) (va_A (vC cy a z σ0) sz)) 0 0 (va_A (vC cy a z σ0) sz) := by
  refine Met.ofW (cc := cX10_writeChunk) (maxL := 8) (ret := (some .int)) (by decide) rfl ?_
  intro p e s m args below meth c s₁ B hml hv
  obtain ⟨rfl, hsz, hP, hK, hD0, hG⟩ := hv
  have hx := B.exec
  have hb := B.bytes
  have hr := B.returns
  have hts := atoms_spec (ws := w_y_X10_writeChunk__a13) B.pre
  have hown : s.vm.findClass RX10 = some m.cls := findClass_of_methodNamed B.named
  have hlocks := B.notSynchronized
  subst hsz
  have hD := hD0.self (sz := s.heap.size)
  generalize hAe : va_A (vC cy a z σ0) s.heap.size = A at hD ⊢
  have hA : ∀ q : Nat, s.heap.size ≤ q → A q := fun q h => by rw [← hAe]; exact Or.inr h
  have hS : va_S A s.heap s.heap [] := va_S.rf
  have hl := lv_entry ([.int (L0.1 0), .int (L0.1 1), .ref (a 13), .int (L0.1 3)]) (n := 8) (Nat.le_of_ble_eq_true rfl)
  rw [lg_entry_eq]
  generalize (lg_sl ([.int (L0.1 0), .int (L0.1 1), .ref (a 13), .int (L0.1 3)]) ++ List.replicate (8 - (lg_sl ([.int (L0.1 0), .int (L0.1 1), .ref (a 13), .int (L0.1 3)])).length) Slot.unset).toArray = ls at hl ⊢
  have hl : lv_has ls 8 [(0, .int (L0.1 0)), (1, .int (L0.1 1)), (2, .ref (a 13)), (3, .int (L0.1 3))] := hl
  have blk : ∀ k : Nat, (bC p l e (headSpec w_y_X10_writeChunk__a13 ({ frames := 0, cells := 0, slots := 0, locals := 0 })).room s m #[.int (L0.1 0), .int (L0.1 1), .ref (a 13), .int (L0.1 3)] below meth c dC dI cy a z A (kI dC dI cy a z A below #[.int (L0.1 0), .int (L0.1 1), .ref (a 13), .int (L0.1 3)] s) 8 (y_X10_writeChunk__a13 k 0) (fun L => [(0, .int (L.1 0)), (1, .int (L.1 1)), (2, .ref (a 13)), (3, .int (L.1 3))]) 0 (fun L => [])) ∧ (bC p l e (headSpec w_y_X10_writeChunk__a13 ({ frames := 0, cells := 0, slots := 0, locals := 0 })).room s m #[.int (L0.1 0), .int (L0.1 1), .ref (a 13), .int (L0.1 3)] below meth c dC dI cy a z A (kI dC dI cy a z A below #[.int (L0.1 0), .int (L0.1 1), .ref (a 13), .int (L0.1 3)] s) 8 (y_X10_writeChunk__a13 k 1) (fun L => [(0, .int (L.1 0)), (1, .int (L.1 1)), (2, .ref (a 13)), (3, .int (L.1 3)), (4, .int (L.1 4)), (5, .int (L.1 5)), (6, .int (L.1 6))]) 11 (fun L => [])) ∧ (bC p l e (headSpec w_y_X10_writeChunk__a13 ({ frames := 0, cells := 0, slots := 0, locals := 0 })).room s m #[.int (L0.1 0), .int (L0.1 1), .ref (a 13), .int (L0.1 3)] below meth c dC dI cy a z A (kI dC dI cy a z A below #[.int (L0.1 0), .int (L0.1 1), .ref (a 13), .int (L0.1 3)] s) 8 (y_X10_writeChunk__a13 k 2) (fun L => [(0, .int (L.1 0)), (2, .ref (a 13)), (3, .int (L.1 3)), (4, .int (L.1 4))]) 44 (fun L => [])) ∧ (bC p l e (headSpec w_y_X10_writeChunk__a13 ({ frames := 0, cells := 0, slots := 0, locals := 0 })).room s m #[.int (L0.1 0), .int (L0.1 1), .ref (a 13), .int (L0.1 3)] below meth c dC dI cy a z A (kI dC dI cy a z A below #[.int (L0.1 0), .int (L0.1 1), .ref (a 13), .int (L0.1 3)] s) 8 (y_X10_writeChunk__a13 k 3) (fun L => [(2, .ref (a 13)), (3, .int (L.1 3)), (4, .int (L.1 4)), (6, .int (L.1 6)), (7, .int (L.1 7))]) 53 (fun L => [])) ∧ (bC p l e (headSpec w_y_X10_writeChunk__a13 ({ frames := 0, cells := 0, slots := 0, locals := 0 })).room s m #[.int (L0.1 0), .int (L0.1 1), .ref (a 13), .int (L0.1 3)] below meth c dC dI cy a z A (kI dC dI cy a z A below #[.int (L0.1 0), .int (L0.1 1), .ref (a 13), .int (L0.1 3)] s) 8 (y_X10_writeChunk__a13 k 4) (fun L => [(3, .int (L.1 3)), (4, .int (L.1 4))]) 86 (fun L => [])) := by
    intro k
    induction k with
    | zero => exact ⟨fun L σ r h => (by cases h), fun L σ r h => (by cases h), fun L σ r h => (by cases h), fun L σ r h => (by cases h), fun L σ r h => (by cases h)⟩
    | succ k ih =>
      refine ⟨?_, ?_, ?_, ?_, ?_⟩
      · intro L σ r h H locs ls hP hD hS hl
        rw [y_X10_writeChunk__a13] at h
        refine lv_bipush (v := 9) hx hb dX10_writeChunk_0 (by decide) ?_
        refine lv_istore (lv' := [(4, .int 9), (0, .int (L.1 0)), (1, .int (L.1 1)), (2, .ref (a 13)), (3, .int (L.1 3))]) hx hb dX10_writeChunk_2 hl (by decide) rfl (fun ls hl => ?_)
        refine lv_ldc (v := 100000000) hx hb hown (hts _ (List.mem_cons_of_mem _ (List.mem_append_left _ (List.mem_append_left _ (List.mem_of_getElem? (i := 0) rfl))))) dX10_writeChunk_4 ?_
        refine lv_istore (lv' := [(5, .int 100000000), (4, .int 9), (0, .int (L.1 0)), (1, .int (L.1 1)), (2, .ref (a 13)), (3, .int (L.1 3))]) hx hb dX10_writeChunk_6 hl (by decide) rfl (fun ls hl => ?_)
        refine lv_iconst (v := 0) hx hb dX10_writeChunk_8 (by decide) ?_
        refine lv_istore (lv' := [(6, .int 0), (5, .int 100000000), (4, .int 9), (0, .int (L.1 0)), (1, .int (L.1 1)), (2, .ref (a 13)), (3, .int (L.1 3))]) hx hb dX10_writeChunk_9 hl (by decide) rfl (fun ls hl => ?_)
        exact ih.2.1 (lI (lI (lI L 4 9) 5 100000000) 6 0) σ r h H locs ls hP hD hS (lv_sub hl [3, 4, 5, 6, 2, 1, 0] rfl)
      · intro L σ r h H locs ls hP hD hS hl
        rw [y_X10_writeChunk__a13] at h
        refine lv_iload_n hx hb dX10_writeChunk_11 rfl (lv_at hl 1 rfl) ?_
        refine lv_if_eq (tgt := 44) hx hb dX10_writeChunk_12 (by decide) (fun c1 => ?_) (fun c1 => ?_)
        · rw [if_pos c1] at h
          exact ih.2.2.1 L σ r h H locs ls hP hD hS (lv_sub hl [0, 2, 3, 4] rfl)
        · rw [if_neg c1] at h
          refine lv_iload hx hb dX10_writeChunk_15 (lv_at hl 6 rfl) ?_
          refine lv_bipush (v := 8) hx hb dX10_writeChunk_17 (by decide) ?_
          refine lv_icmp_ge (tgt := 44) hx hb dX10_writeChunk_19 (by decide) (fun c2 => ?_) (fun c2 => ?_)
          · rw [if_pos c2] at h
            exact ih.2.2.1 L σ r h H locs ls hP hD hS (lv_sub hl [0, 2, 3, 4] rfl)
          · rw [if_neg c2] at h
            refine lv_iload_n hx hb dX10_writeChunk_22 rfl (lv_at hl 0 rfl) ?_
            refine lv_iload hx hb dX10_writeChunk_23 (lv_at hl 5 rfl) ?_
            refine lv_icmp_ge (tgt := 44) hx hb dX10_writeChunk_25 (by decide) (fun c3 => ?_) (fun c3 => ?_)
            · rw [if_pos c3] at h
              exact ih.2.2.1 L σ r h H locs ls hP hD hS (lv_sub hl [0, 2, 3, 4] rfl)
            · rw [if_neg c3] at h
              refine lv_iload hx hb dX10_writeChunk_28 (lv_at hl 5 rfl) ?_
              refine lv_bipush (v := 10) hx hb dX10_writeChunk_30 (by decide) ?_
              obtain ⟨q4, h⟩ := kb_ite0 h
              refine lv_idiv hx hb dX10_writeChunk_32 q4 ?_
              refine lv_istore (lv' := [(5, .int (((L.1 5)) / 10)), (0, .int (L.1 0)), (1, .int (L.1 1)), (2, .ref (a 13)), (3, .int (L.1 3)), (4, .int (L.1 4)), (6, .int (L.1 6))]) hx hb dX10_writeChunk_33 hl (by decide) rfl (fun ls hl => ?_)
              refine lv_iinc (v := ((L.1 4)) + (-1)) (lv' := [(4, .int (((L.1 4)) + (-1))), (5, .int (((L.1 5)) / 10)), (0, .int (L.1 0)), (1, .int (L.1 1)), (2, .ref (a 13)), (3, .int (L.1 3)), (6, .int (L.1 6))]) hx hb dX10_writeChunk_35 hl (k := 5) rfl rfl (by decide) rfl (fun ls hl => ?_)
              refine lv_iinc (v := ((L.1 6)) + 1) (lv' := [(6, .int (((L.1 6)) + 1)), (4, .int (((L.1 4)) + (-1))), (5, .int (((L.1 5)) / 10)), (0, .int (L.1 0)), (1, .int (L.1 1)), (2, .ref (a 13)), (3, .int (L.1 3))]) hx hb dX10_writeChunk_38 hl (k := 6) rfl rfl (by decide) rfl (fun ls hl => ?_)
              refine lv_goto (tgt := 11) hx hb dX10_writeChunk_41 (by decide) ?_
              exact ih.2.1 (lI (lI (lI L 4 ((((L.1 4)) + (-1)))) 5 ((((L.1 5)) / 10))) 6 ((((L.1 6)) + 1))) σ r h H locs ls hP hD hS (lv_sub hl [3, 4, 5, 6, 1, 2, 0] rfl)
      · intro L σ r h H locs ls hP hD hS hl
        rw [y_X10_writeChunk__a13] at h
        refine lv_iload_n hx hb dX10_writeChunk_44 rfl (lv_at hl 0 rfl) ?_
        refine lv_istore (lv' := [(6, .int (L.1 0)), (0, .int (L.1 0)), (2, .ref (a 13)), (3, .int (L.1 3)), (4, .int (L.1 4))]) hx hb dX10_writeChunk_45 hl (by decide) rfl (fun ls hl => ?_)
        refine lv_iload hx hb dX10_writeChunk_47 (lv_at hl 4 rfl) ?_
        refine lv_iconst (v := 1) hx hb dX10_writeChunk_49 (by decide) ?_
        refine lv_isub hx hb dX10_writeChunk_50 ?_
        refine lv_istore (lv' := [(7, .int (((L.1 4)) - 1)), (6, .int (L.1 0)), (0, .int (L.1 0)), (2, .ref (a 13)), (3, .int (L.1 3)), (4, .int (L.1 4))]) hx hb dX10_writeChunk_51 hl (by decide) rfl (fun ls hl => ?_)
        exact ih.2.2.2.1 (lI (lI L 6 ((L.1 0))) 7 ((((L.1 4)) - 1))) σ r h H locs ls hP hD hS (lv_sub hl [3, 4, 5, 1, 0] rfl)
      · intro L σ r h H locs ls hP hD hS hl
        rw [y_X10_writeChunk__a13] at h
        refine lv_iload hx hb dX10_writeChunk_53 (lv_at hl 4 rfl) ?_
        refine lv_if_lt (tgt := 86) hx hb dX10_writeChunk_55 (by decide) (fun c1 => ?_) (fun c1 => ?_)
        · rw [if_pos c1] at h
          exact ih.2.2.2.2 L σ r h H locs ls hP hD hS (lv_sub hl [1, 2] rfl)
        · rw [if_neg c1] at h
          refine lv_aload_n hx hb dX10_writeChunk_58 rfl (lv_at hl 0 rfl) ?_
          refine lv_iload_n hx hb dX10_writeChunk_59 rfl (lv_at hl 1 rfl) ?_
          refine lv_iload hx hb dX10_writeChunk_60 (lv_at hl 4 rfl) ?_
          refine lv_iadd hx hb dX10_writeChunk_62 ?_
          refine lv_bipush (v := 48) hx hb dX10_writeChunk_63 (by decide) ?_
          refine lv_iload hx hb dX10_writeChunk_65 (lv_at hl 3 rfl) ?_
          refine lv_bipush (v := 10) hx hb dX10_writeChunk_67 (by decide) ?_
          obtain ⟨q2, h⟩ := kb_ite0 h
          refine lv_irem hx hb dX10_writeChunk_69 q2 ?_
          refine lv_iadd hx hb dX10_writeChunk_70 ?_
          refine lv_i2b (v := ((48 + ((((L.1 6)) - ((L.1 6)) / 10 * 10)))).toInt8.toInt32) hx hb dX10_writeChunk_71 rfl ?_
          obtain ⟨q3, h⟩ := kb_ite1 h
          refine hs_13 hx hb hK hP hD hS q3 dX10_writeChunk_72 (fun H locs hP hD hS => ?_)
          refine lv_iload hx hb dX10_writeChunk_73 (lv_at hl 3 rfl) ?_
          refine lv_bipush (v := 10) hx hb dX10_writeChunk_75 (by decide) ?_
          obtain ⟨q4, h⟩ := kb_ite0 h
          refine lv_idiv hx hb dX10_writeChunk_77 q4 ?_
          refine lv_istore (lv' := [(6, .int (((L.1 6)) / 10)), (2, .ref (a 13)), (3, .int (L.1 3)), (4, .int (L.1 4)), (7, .int (L.1 7))]) hx hb dX10_writeChunk_78 hl (by decide) rfl (fun ls hl => ?_)
          refine lv_iinc (v := ((L.1 7)) + (-1)) (lv' := [(7, .int (((L.1 7)) + (-1))), (6, .int (((L.1 6)) / 10)), (2, .ref (a 13)), (3, .int (L.1 3)), (4, .int (L.1 4))]) hx hb dX10_writeChunk_80 hl (k := 4) rfl rfl (by decide) rfl (fun ls hl => ?_)
          refine lv_goto (tgt := 53) hx hb dX10_writeChunk_83 (by decide) ?_
          exact ih.2.2.2.1 (lI (lI L 6 ((((L.1 6)) / 10))) 7 ((((L.1 7)) + (-1)))) (uA σ 13 ((((L.1 3)) + ((L.1 7)))).toNatClampNeg (vp_nar .byte ((((48 + ((((L.1 6)) - ((L.1 6)) / 10 * 10)))).toInt8.toInt32)))) r h H locs ls hP hD hS (lv_sub hl [2, 3, 4, 1, 0] rfl)
      · intro L σ r h H locs ls hP hD hS hl
        rw [y_X10_writeChunk__a13] at h
        refine lv_iload_n hx hb dX10_writeChunk_86 rfl (lv_at hl 0 rfl) ?_
        refine lv_iload hx hb dX10_writeChunk_87 (lv_at hl 1 rfl) ?_
        refine lv_iadd hx hb dX10_writeChunk_89 ?_
        obtain rfl := Option.some.inj h
        exact W.iret (v := (((L.1 3)) + ((L.1 4)))) hx hb hr (fun t ht hW => ⟨⟨(((L.1 3)) + ((L.1 4))), (), rfl, rfl, by rw [ht]; exact hP, va_K.moved hW.alike hK, hD⟩, hS.F ht⟩) hS.2.2 dX10_writeChunk_90
  exact (blk k0).1 L0 σ0 r0 h0 s.heap [] ls hP hD hS hl
/-! X10_writeDigits__a13 -/
def y_X10_writeDigits__a13 : Nat → Nat → LV → CS → Option (Int32 × CS)
  | 0, _, _, _ => none
  | k + 1, 0, L, σ => if ((L.1 3)) < 0 then (y_X10_writeDigits__a13 k 1 (lI L 4 ((L.1 3))) σ) else (if ((L.1 3)) ≤ ((((Int32.ofNat 10400)) - 320)) then (y_X10_writeDigits__a13 k 2 (lI L 4 ((L.1 3))) σ) else (y_X10_writeDigits__a13 k 1 (lI L 4 ((L.1 3))) σ))
  | k + 1, 1, L, σ => some ((L.1 4), σ)
  | k + 1, 2, L, σ => oc (y_X10_isBelow k 0 (lI lZ 1 ((L.1 1))) σ) (fun r1 => if r1.1 = 0 then (y_X10_writeDigits__a13 k 3 L r1.2) else (if ¬ (((L.1 4)) < 0 ∨ 10400 ≤ ((L.1 4)).toNatClampNeg) then (y_X10_writeDigits__a13 k 3 (lI L 4 ((((L.1 4)) + 1))) (uA r1.2 13 ((L.1 4)).toNatClampNeg (vp_nar .byte 45))) else none))
  | k + 1, 3, L, σ => oc (y_X10_load__a5 k 0 (lI lZ 1 ((L.1 1))) σ) (fun r1 => y_X10_writeDigits__a13 k 4 (lI (lI (lI L 5 r1.1) 6 0) 7 0) r1.2)
  | k + 1, 4, L, σ => if ((Int32.ofNat 40)) ≤ ((L.1 7)) then (y_X10_writeDigits__a13 k 5 L σ) else (if 0 < ((L.1 5)) then (y_X10_writeDigits__a13 k 6 L σ) else (if ((L.1 7)) = 0 then (y_X10_writeDigits__a13 k 6 L σ) else (y_X10_writeDigits__a13 k 5 L σ)))
  | k + 1, 5, L, σ => y_X10_writeDigits__a13 k 7 (lI L 7 ((((L.1 6)) - 1))) σ
  | k + 1, 6, L, σ => oc (y_X10_takeBillion k 0 (lI lZ 1 ((L.1 5))) σ) (fun r1 => if ¬ (((L.1 6)) < 0 ∨ 40 ≤ ((L.1 6)).toNatClampNeg) then (if ((L.1 5)) ≤ 0 then (y_X10_writeDigits__a13 k 8 (lI L 6 ((((L.1 6)) + 1))) (uA r1.2 11 ((L.1 6)).toNatClampNeg r1.1)) else (if ¬ (((((L.1 5)) - 1)) < 0 ∨ 72 ≤ ((((L.1 5)) - 1)).toNatClampNeg) then (if (((uA r1.2 11 ((L.1 6)).toNatClampNeg r1.1).2.2.1 5 ((((L.1 5)) - 1)).toNatClampNeg)) = 0 then (y_X10_writeDigits__a13 k 9 (lI (lI L 6 ((((L.1 6)) + 1))) 100 ((((L.1 5)) - 1))) (uA r1.2 11 ((L.1 6)).toNatClampNeg r1.1)) else (y_X10_writeDigits__a13 k 8 (lI L 6 ((((L.1 6)) + 1))) (uA r1.2 11 ((L.1 6)).toNatClampNeg r1.1))) else none)) else none)
  | k + 1, 7, L, σ => if ((L.1 7)) < 0 then (y_X10_writeDigits__a13 k 10 L σ) else (if ¬ (((L.1 7)) < 0 ∨ 40 ≤ ((L.1 7)).toNatClampNeg) then (if ((L.1 7)) = ((((L.1 6)) - 1)) then (y_X10_writeDigits__a13 k 12 (lI (lI L 100 1) 101 ((σ.2.2.1 11 ((L.1 7)).toNatClampNeg))) σ) else (y_X10_writeDigits__a13 k 11 (lI L 100 ((σ.2.2.1 11 ((L.1 7)).toNatClampNeg))) σ)) else none)
  | k + 1, 8, L, σ => y_X10_writeDigits__a13 k 9 (lI L 100 ((L.1 5))) σ
  | k + 1, 9, L, σ => y_X10_writeDigits__a13 k 4 (lI (lI L 5 ((L.1 100))) 7 ((((L.1 7)) + 1))) σ
  | k + 1, 10, L, σ => some ((L.1 4), σ)
  | k + 1, 11, L, σ => y_X10_writeDigits__a13 k 12 (lI (lI L 100 0) 101 ((L.1 100))) σ
  | k + 1, 12, L, σ => oc (y_X10_writeChunk__a13 k 0 (lI (lI (lI lZ 0 ((L.1 101))) 1 ((L.1 100))) 3 ((L.1 4))) σ) (fun r1 => y_X10_writeDigits__a13 k 7 (lI (lI L 4 r1.1) 7 ((((L.1 7)) + (-1)))) r1.2)
  | _ + 1, _ + 13, _, _ => none
def o_y_X10_writeDigits__a13 : List Cond := [.methodLink RX10 68 yX10_isBelow, .instanceMethod yX10_isBelow, .selects RX10 yX10_isBelow yX10_isBelow, .initialized RX10, .fieldLink RX10 9 "SetHouse$Wholes" "left" "[I", .methodLink RX10 64 yX10_load, .instanceMethod yX10_load, .selects RX10 yX10_load yX10_load, .fieldLink RX10 30 "SetHouse$Wholes" "chunks" "[I", .methodLink RX10 173 yX10_takeBillion, .instanceMethod yX10_takeBillion, .selects RX10 yX10_takeBillion yX10_takeBillion, .methodLink RX10 176 yX10_writeChunk, .static yX10_writeChunk]
theorem o_y_X10_writeDigits__a13_good : o_y_X10_writeDigits__a13.all goodWord = true := by decide +kernel
def p_y_X10_writeDigits__a13 : List Cond := o_y_X10_writeDigits__a13 ++ ((.code yX10_isBelow cX10_isBelow 2 (some .boolean) :: p_y_X10_isBelow) ++ ((.code yX10_load cX10_load 4 (some .int) :: p_y_X10_load__a5) ++ ((.code yX10_takeBillion cX10_takeBillion 7 (some .int) :: p_y_X10_takeBillion) ++ ((.code yX10_writeChunk cX10_writeChunk 8 (some .int) :: p_y_X10_writeChunk__a13) ++ []))))
theorem p_y_X10_writeDigits__a13_good : p_y_X10_writeDigits__a13.all goodWord = true := nb_all2 o_y_X10_writeDigits__a13_good (nb_all2 (nb_allc (by decide +kernel) p_y_X10_isBelow_good) (nb_all2 (nb_allc (by decide +kernel) p_y_X10_load__a5_good) (nb_all2 (nb_allc (by decide +kernel) p_y_X10_takeBillion_good) (nb_all2 (nb_allc (by decide +kernel) p_y_X10_writeChunk__a13_good) rfl))))
def w_y_X10_writeDigits__a13 : List Cond := .code yX10_writeDigits cX10_writeDigits 8 (some .int) :: (p_y_X10_writeDigits__a13 ++ fC)
theorem w_y_X10_writeDigits__a13_good : w_y_X10_writeDigits__a13.all goodWord = true := nb_allc (by decide +kernel) (nb_all2 p_y_X10_writeDigits__a13_good fC_good)
theorem in_y_X10_writeDigits__a13_X10 : ∀ w ∈ wsX100, w ∈ w_y_X10_writeDigits__a13 := fun _ h => List.mem_cons_of_mem _ (List.mem_append_right _ (List.mem_append_right _ (List.mem_append_right _ (List.mem_append_right _ (List.mem_append_right _ (List.mem_append_right _ (List.mem_append_right _ (List.mem_append_right _ (List.mem_append_right _ (List.mem_append_right _ (List.mem_append_left _ h)))))))))))
theorem hd_y_X10_writeDigits__a13 : yX10_writeDigits.cls = RX10 ∧ yX10_writeDigits.cls ≠ "java/lang/invoke/MethodHandle" ∧ yX10_writeDigits.cls ≠ "java/lang/invoke/VarHandle" ∧ (parseMethodDescriptor yX10_writeDigits.desc).map (fun d => d.parameters.length) = some 3 := by decide +kernel
theorem gg_y_X10_writeDigits__a13_X10_isBelow : GoodIn w_y_X10_writeDigits__a13 w_y_X10_isBelow := goodIn_sub (fun w h => (List.mem_cons.mp h).elim (fun e => (List.mem_cons_of_mem _ (List.mem_append_left _ (List.mem_append_right _ (List.mem_append_left _ (List.mem_cons.mpr (Or.inl e))))))) (fun h => (List.mem_append.mp h).elim (fun h => (List.mem_cons_of_mem _ (List.mem_append_left _ (List.mem_append_right _ (List.mem_append_left _ (List.mem_cons_of_mem _ h)))))) (fun h => List.mem_cons_of_mem _ (List.mem_append_right _ h)))) w_y_X10_isBelow_good
theorem g_y_X10_writeDigits__a13_X10_isBelow_V68 : GoodIn w_y_X10_writeDigits__a13 (wsV RX10 68 RX10 yX10_isBelow w_y_X10_isBelow) := goodIn_app (nb_g4 (List.mem_cons_of_mem _ (List.mem_append_left _ (List.mem_append_left _ (List.mem_of_getElem? (i := 0) rfl)))) (List.mem_cons_of_mem _ (List.mem_append_left _ (List.mem_append_left _ (List.mem_of_getElem? (i := 1) rfl)))) (List.mem_cons_of_mem _ (List.mem_append_left _ (List.mem_append_left _ (List.mem_of_getElem? (i := 2) rfl)))) (List.mem_cons_of_mem _ (List.mem_append_left _ (List.mem_append_left _ (List.mem_of_getElem? (i := 3) rfl)))) (by decide +kernel)) gg_y_X10_writeDigits__a13_X10_isBelow
theorem gg_y_X10_writeDigits__a13_X10_load__a5 : GoodIn w_y_X10_writeDigits__a13 w_y_X10_load__a5 := goodIn_sub (fun w h => (List.mem_cons.mp h).elim (fun e => (List.mem_cons_of_mem _ (List.mem_append_left _ (List.mem_append_right _ (List.mem_append_right _ (List.mem_append_left _ (List.mem_cons.mpr (Or.inl e)))))))) (fun h => (List.mem_append.mp h).elim (fun h => (List.mem_cons_of_mem _ (List.mem_append_left _ (List.mem_append_right _ (List.mem_append_right _ (List.mem_append_left _ (List.mem_cons_of_mem _ h))))))) (fun h => List.mem_cons_of_mem _ (List.mem_append_right _ h)))) w_y_X10_load__a5_good
theorem g_y_X10_writeDigits__a13_X10_load__a5_V64 : GoodIn w_y_X10_writeDigits__a13 (wsV RX10 64 RX10 yX10_load w_y_X10_load__a5) := goodIn_app (nb_g4 (List.mem_cons_of_mem _ (List.mem_append_left _ (List.mem_append_left _ (List.mem_of_getElem? (i := 5) rfl)))) (List.mem_cons_of_mem _ (List.mem_append_left _ (List.mem_append_left _ (List.mem_of_getElem? (i := 6) rfl)))) (List.mem_cons_of_mem _ (List.mem_append_left _ (List.mem_append_left _ (List.mem_of_getElem? (i := 7) rfl)))) (List.mem_cons_of_mem _ (List.mem_append_left _ (List.mem_append_left _ (List.mem_of_getElem? (i := 3) rfl)))) (by decide +kernel)) gg_y_X10_writeDigits__a13_X10_load__a5
theorem gg_y_X10_writeDigits__a13_X10_takeBillion : GoodIn w_y_X10_writeDigits__a13 w_y_X10_takeBillion := goodIn_sub (fun w h => (List.mem_cons.mp h).elim (fun e => (List.mem_cons_of_mem _ (List.mem_append_left _ (List.mem_append_right _ (List.mem_append_right _ (List.mem_append_right _ (List.mem_append_left _ (List.mem_cons.mpr (Or.inl e))))))))) (fun h => (List.mem_append.mp h).elim (fun h => (List.mem_cons_of_mem _ (List.mem_append_left _ (List.mem_append_right _ (List.mem_append_right _ (List.mem_append_right _ (List.mem_append_left _ (List.mem_cons_of_mem _ h)))))))) (fun h => List.mem_cons_of_mem _ (List.mem_append_right _ h)))) w_y_X10_takeBillion_good
theorem g_y_X10_writeDigits__a13_X10_takeBillion_V173 : GoodIn w_y_X10_writeDigits__a13 (wsV RX10 173 RX10 yX10_takeBillion w_y_X10_takeBillion) := goodIn_app (nb_g4 (List.mem_cons_of_mem _ (List.mem_append_left _ (List.mem_append_left _ (List.mem_of_getElem? (i := 9) rfl)))) (List.mem_cons_of_mem _ (List.mem_append_left _ (List.mem_append_left _ (List.mem_of_getElem? (i := 10) rfl)))) (List.mem_cons_of_mem _ (List.mem_append_left _ (List.mem_append_left _ (List.mem_of_getElem? (i := 11) rfl)))) (List.mem_cons_of_mem _ (List.mem_append_left _ (List.mem_append_left _ (List.mem_of_getElem? (i := 3) rfl)))) (by decide +kernel)) gg_y_X10_writeDigits__a13_X10_takeBillion
theorem gg_y_X10_writeDigits__a13_X10_writeChunk__a13 : GoodIn w_y_X10_writeDigits__a13 w_y_X10_writeChunk__a13 := goodIn_sub (fun w h => (List.mem_cons.mp h).elim (fun e => (List.mem_cons_of_mem _ (List.mem_append_left _ (List.mem_append_right _ (List.mem_append_right _ (List.mem_append_right _ (List.mem_append_right _ (List.mem_append_left _ (List.mem_cons.mpr (Or.inl e)))))))))) (fun h => (List.mem_append.mp h).elim (fun h => (List.mem_cons_of_mem _ (List.mem_append_left _ (List.mem_append_right _ (List.mem_append_right _ (List.mem_append_right _ (List.mem_append_right _ (List.mem_append_left _ (List.mem_cons_of_mem _ h))))))))) (fun h => List.mem_cons_of_mem _ (List.mem_append_right _ h)))) w_y_X10_writeChunk__a13_good
theorem g_y_X10_writeDigits__a13_X10_writeChunk__a13_S176 : GoodIn w_y_X10_writeDigits__a13 (va_wsS RX10 176 yX10_writeChunk w_y_X10_writeChunk__a13) := goodIn_app (nb_g3 (List.mem_cons_of_mem _ (List.mem_append_left _ (List.mem_append_left _ (List.mem_of_getElem? (i := 12) rfl)))) (List.mem_cons_of_mem _ (List.mem_append_left _ (List.mem_append_left _ (List.mem_of_getElem? (i := 13) rfl)))) (List.mem_cons_of_mem _ (List.mem_append_left _ (List.mem_append_left _ (List.mem_of_getElem? (i := 3) rfl)))) (by decide +kernel)) gg_y_X10_writeDigits__a13_X10_writeChunk__a13
set_option maxHeartbeats 40000000 in
set_option maxRecDepth 100000 in
theorem c_y_X10_writeDigits__a13 (l : Launch) (dC : Nat → ClassId) (dI : Nat → Nat → Nat) (cy : Nat → ClassId) (a z : Nat → Nat) (k0 : Nat) (L0 : LV) (σ0 : CS) (r0 : Int32 × CS) (h0 : y_X10_writeDigits__a13 k0 0 L0 σ0 = some r0) (sz : Nat) : Met l yX10_writeDigits w_y_X10_writeDigits__a13 ({ frames := 2, cells := 0, slots := 0, locals := 83 }) (va_Pc [.ref (a 4), .int (L0.1 1), .ref (a 13), .int (L0.1 3)] (nIn (dC, dI) cy sz (vC cy a z σ0))) (va_Qi (fun (x : Int32) (_ : Unit) => x = r0.1) (fun _ t => nOut (dC, dI) cy (va_A (vC cy a z σ0) sz) (vC cy a z r0.2) t) (va_A (vC cy a z σ0) sz)) 0 0 (va_A (vC cy a z σ0) sz) := by
  refine Met.ofW (cc := cX10_writeDigits) (maxL := 8) (ret := (some .int)) (by decide) rfl ?_
  intro p e s m args below meth c s₁ B hml hv
  obtain ⟨rfl, hsz, hP, hK, hD0, hG⟩ := hv
  have hx := B.exec
  have hb := B.bytes
  have hr := B.returns
  have hts := atoms_spec (ws := w_y_X10_writeDigits__a13) B.pre
  have hown : s.vm.findClass RX10 = some m.cls := findClass_of_methodNamed B.named
  have hlocks := B.notSynchronized
  subst hsz
  have hD := hD0.self (sz := s.heap.size)
  generalize hAe : va_A (vC cy a z σ0) s.heap.size = A at hD ⊢
  have hA : ∀ q : Nat, s.heap.size ≤ q → A q := fun q h => by rw [← hAe]; exact Or.inr h
  have hS : va_S A s.heap s.heap [] := va_S.rf
  have hl := lv_entry ([.ref (a 4), .int (L0.1 1), .ref (a 13), .int (L0.1 3)]) (n := 8) (Nat.le_of_ble_eq_true rfl)
  rw [lg_entry_eq]
  generalize (lg_sl ([.ref (a 4), .int (L0.1 1), .ref (a 13), .int (L0.1 3)]) ++ List.replicate (8 - (lg_sl ([.ref (a 4), .int (L0.1 1), .ref (a 13), .int (L0.1 3)])).length) Slot.unset).toArray = ls at hl ⊢
  have hl : lv_has ls 8 [(0, .ref (a 4)), (1, .int (L0.1 1)), (2, .ref (a 13)), (3, .int (L0.1 3))] := hl
  have blk : ∀ k : Nat, (bC p l e (headSpec w_y_X10_writeDigits__a13 ({ frames := 2, cells := 0, slots := 0, locals := 83 })).room s m #[.ref (a 4), .int (L0.1 1), .ref (a 13), .int (L0.1 3)] below meth c dC dI cy a z A (kI dC dI cy a z A below #[.ref (a 4), .int (L0.1 1), .ref (a 13), .int (L0.1 3)] s) 8 (y_X10_writeDigits__a13 k 0) (fun L => [(0, .ref (a 4)), (1, .int (L.1 1)), (2, .ref (a 13)), (3, .int (L.1 3))]) 0 (fun L => [])) ∧ (bC p l e (headSpec w_y_X10_writeDigits__a13 ({ frames := 2, cells := 0, slots := 0, locals := 83 })).room s m #[.ref (a 4), .int (L0.1 1), .ref (a 13), .int (L0.1 3)] below meth c dC dI cy a z A (kI dC dI cy a z A below #[.ref (a 4), .int (L0.1 1), .ref (a 13), .int (L0.1 3)] s) 8 (y_X10_writeDigits__a13 k 1) (fun L => [(4, .int (L.1 4))]) 19 (fun L => [])) ∧ (bC p l e (headSpec w_y_X10_writeDigits__a13 ({ frames := 2, cells := 0, slots := 0, locals := 83 })).room s m #[.ref (a 4), .int (L0.1 1), .ref (a 13), .int (L0.1 3)] below meth c dC dI cy a z A (kI dC dI cy a z A below #[.ref (a 4), .int (L0.1 1), .ref (a 13), .int (L0.1 3)] s) 8 (y_X10_writeDigits__a13 k 2) (fun L => [(0, .ref (a 4)), (1, .int (L.1 1)), (2, .ref (a 13)), (4, .int (L.1 4))]) 22 (fun L => [])) ∧ (bC p l e (headSpec w_y_X10_writeDigits__a13 ({ frames := 2, cells := 0, slots := 0, locals := 83 })).room s m #[.ref (a 4), .int (L0.1 1), .ref (a 13), .int (L0.1 3)] below meth c dC dI cy a z A (kI dC dI cy a z A below #[.ref (a 4), .int (L0.1 1), .ref (a 13), .int (L0.1 3)] s) 8 (y_X10_writeDigits__a13 k 3) (fun L => [(0, .ref (a 4)), (1, .int (L.1 1)), (2, .ref (a 13)), (4, .int (L.1 4))]) 39 (fun L => [])) ∧ (bC p l e (headSpec w_y_X10_writeDigits__a13 ({ frames := 2, cells := 0, slots := 0, locals := 83 })).room s m #[.ref (a 4), .int (L0.1 1), .ref (a 13), .int (L0.1 3)] below meth c dC dI cy a z A (kI dC dI cy a z A below #[.ref (a 4), .int (L0.1 1), .ref (a 13), .int (L0.1 3)] s) 8 (y_X10_writeDigits__a13 k 4) (fun L => [(0, .ref (a 4)), (2, .ref (a 13)), (4, .int (L.1 4)), (5, .int (L.1 5)), (6, .int (L.1 6)), (7, .int (L.1 7))]) 56 (fun L => [])) ∧ (bC p l e (headSpec w_y_X10_writeDigits__a13 ({ frames := 2, cells := 0, slots := 0, locals := 83 })).room s m #[.ref (a 4), .int (L0.1 1), .ref (a 13), .int (L0.1 3)] below meth c dC dI cy a z A (kI dC dI cy a z A below #[.ref (a 4), .int (L0.1 1), .ref (a 13), .int (L0.1 3)] s) 8 (y_X10_writeDigits__a13 k 5) (fun L => [(0, .ref (a 4)), (2, .ref (a 13)), (4, .int (L.1 4)), (6, .int (L.1 6))]) 126 (fun L => [])) ∧ (bC p l e (headSpec w_y_X10_writeDigits__a13 ({ frames := 2, cells := 0, slots := 0, locals := 83 })).room s m #[.ref (a 4), .int (L0.1 1), .ref (a 13), .int (L0.1 3)] below meth c dC dI cy a z A (kI dC dI cy a z A below #[.ref (a 4), .int (L0.1 1), .ref (a 13), .int (L0.1 3)] s) 8 (y_X10_writeDigits__a13 k 6) (fun L => [(0, .ref (a 4)), (2, .ref (a 13)), (4, .int (L.1 4)), (5, .int (L.1 5)), (6, .int (L.1 6)), (7, .int (L.1 7))]) 76 (fun L => [])) ∧ (bC p l e (headSpec w_y_X10_writeDigits__a13 ({ frames := 2, cells := 0, slots := 0, locals := 83 })).room s m #[.ref (a 4), .int (L0.1 1), .ref (a 13), .int (L0.1 3)] below meth c dC dI cy a z A (kI dC dI cy a z A below #[.ref (a 4), .int (L0.1 1), .ref (a 13), .int (L0.1 3)] s) 8 (y_X10_writeDigits__a13 k 7) (fun L => [(0, .ref (a 4)), (2, .ref (a 13)), (4, .int (L.1 4)), (6, .int (L.1 6)), (7, .int (L.1 7))]) 132 (fun L => [])) ∧ (bC p l e (headSpec w_y_X10_writeDigits__a13 ({ frames := 2, cells := 0, slots := 0, locals := 83 })).room s m #[.ref (a 4), .int (L0.1 1), .ref (a 13), .int (L0.1 3)] below meth c dC dI cy a z A (kI dC dI cy a z A below #[.ref (a 4), .int (L0.1 1), .ref (a 13), .int (L0.1 3)] s) 8 (y_X10_writeDigits__a13 k 8) (fun L => [(0, .ref (a 4)), (2, .ref (a 13)), (4, .int (L.1 4)), (5, .int (L.1 5)), (6, .int (L.1 6)), (7, .int (L.1 7))]) 116 (fun L => [])) ∧ (bC p l e (headSpec w_y_X10_writeDigits__a13 ({ frames := 2, cells := 0, slots := 0, locals := 83 })).room s m #[.ref (a 4), .int (L0.1 1), .ref (a 13), .int (L0.1 3)] below meth c dC dI cy a z A (kI dC dI cy a z A below #[.ref (a 4), .int (L0.1 1), .ref (a 13), .int (L0.1 3)] s) 8 (y_X10_writeDigits__a13 k 9) (fun L => [(0, .ref (a 4)), (2, .ref (a 13)), (4, .int (L.1 4)), (6, .int (L.1 6)), (7, .int (L.1 7))]) 118 (fun L => [.int (L.1 100)])) ∧ (bC p l e (headSpec w_y_X10_writeDigits__a13 ({ frames := 2, cells := 0, slots := 0, locals := 83 })).room s m #[.ref (a 4), .int (L0.1 1), .ref (a 13), .int (L0.1 3)] below meth c dC dI cy a z A (kI dC dI cy a z A below #[.ref (a 4), .int (L0.1 1), .ref (a 13), .int (L0.1 3)] s) 8 (y_X10_writeDigits__a13 k 10) (fun L => [(4, .int (L.1 4))]) 172 (fun L => [])) ∧ (bC p l e (headSpec w_y_X10_writeDigits__a13 ({ frames := 2, cells := 0, slots := 0, locals := 83 })).room s m #[.ref (a 4), .int (L0.1 1), .ref (a 13), .int (L0.1 3)] below meth c dC dI cy a z A (kI dC dI cy a z A below #[.ref (a 4), .int (L0.1 1), .ref (a 13), .int (L0.1 3)] s) 8 (y_X10_writeDigits__a13 k 11) (fun L => [(0, .ref (a 4)), (2, .ref (a 13)), (4, .int (L.1 4)), (6, .int (L.1 6)), (7, .int (L.1 7))]) 157 (fun L => [.int (L.1 100)])) ∧ (bC p l e (headSpec w_y_X10_writeDigits__a13 ({ frames := 2, cells := 0, slots := 0, locals := 83 })).room s m #[.ref (a 4), .int (L0.1 1), .ref (a 13), .int (L0.1 3)] below meth c dC dI cy a z A (kI dC dI cy a z A below #[.ref (a 4), .int (L0.1 1), .ref (a 13), .int (L0.1 3)] s) 8 (y_X10_writeDigits__a13 k 12) (fun L => [(0, .ref (a 4)), (2, .ref (a 13)), (4, .int (L.1 4)), (6, .int (L.1 6)), (7, .int (L.1 7))]) 158 (fun L => [.int (L.1 100), .int (L.1 101)])) := by
    intro k
    induction k with
    | zero => exact ⟨fun L σ r h => (by cases h), fun L σ r h => (by cases h), fun L σ r h => (by cases h), fun L σ r h => (by cases h), fun L σ r h => (by cases h), fun L σ r h => (by cases h), fun L σ r h => (by cases h), fun L σ r h => (by cases h), fun L σ r h => (by cases h), fun L σ r h => (by cases h), fun L σ r h => (by cases h), fun L σ r h => (by cases h), fun L σ r h => (by cases h)⟩
    | succ k ih =>
      refine ⟨?_, ?_, ?_, ?_, ?_, ?_, ?_, ?_, ?_, ?_, ?_, ?_, ?_⟩
      · intro L σ r h H locs ls hP hD hS hl
        rw [y_X10_writeDigits__a13] at h
        refine lv_iload_n hx hb dX10_writeDigits_0 rfl (lv_at hl 3 rfl) ?_
        refine lv_istore (lv' := [(4, .int (L.1 3)), (0, .ref (a 4)), (1, .int (L.1 1)), (2, .ref (a 13)), (3, .int (L.1 3))]) hx hb dX10_writeDigits_1 hl (by decide) rfl (fun ls hl => ?_)
        refine lv_iload hx hb dX10_writeDigits_3 (lv_at hl 0 rfl) ?_
        refine lv_if_lt (tgt := 19) hx hb dX10_writeDigits_5 (by decide) (fun c1 => ?_) (fun c1 => ?_)
        · rw [if_pos c1] at h
          exact ih.2.1 (lI L 4 ((L.1 3))) σ r h H locs ls hP hD hS (lv_sub hl [0] rfl)
        · rw [if_neg c1] at h
          refine lv_iload hx hb dX10_writeDigits_8 (lv_at hl 0 rfl) ?_
          refine lv_aload_n hx hb dX10_writeDigits_10 rfl (lv_at hl 3 rfl) ?_
          refine hn_13 hx hb hK hP dX10_writeDigits_11 ?_
          refine lv_sipush (v := 320) hx hb dX10_writeDigits_12 (by decide) ?_
          refine lv_isub hx hb dX10_writeDigits_15 ?_
          refine lv_icmp_le (tgt := 22) hx hb dX10_writeDigits_16 (by decide) (fun c2 => ?_) (fun c2 => ?_)
          · rw [if_pos c2] at h
            exact ih.2.2.1 (lI L 4 ((L.1 3))) σ r h H locs ls hP hD hS (lv_sub hl [1, 2, 3, 0] rfl)
          · rw [if_neg c2] at h
            exact ih.2.1 (lI L 4 ((L.1 3))) σ r h H locs ls hP hD hS (lv_sub hl [0] rfl)
      · intro L σ r h H locs ls hP hD hS hl
        rw [y_X10_writeDigits__a13] at h
        refine lv_iload hx hb dX10_writeDigits_19 (lv_at hl 0 rfl) ?_
        obtain rfl := Option.some.inj h
        exact W.iret (v := (L.1 4)) hx hb hr (fun t ht hW => ⟨⟨(L.1 4), (), rfl, rfl, by rw [ht]; exact hP, va_K.moved hW.alike hK, hD⟩, hS.F ht⟩) hS.2.2 dX10_writeDigits_21
      · intro L σ r h H locs ls hP hD hS hl
        rw [y_X10_writeDigits__a13] at h
        refine lv_aload_n hx hb dX10_writeDigits_22 rfl (lv_at hl 0 rfl) ?_
        refine lv_iload_n hx hb dX10_writeDigits_23 rfl (lv_at hl 1 rfl) ?_
        obtain ⟨r1, hc1, h⟩ := oc_ex h
        refine kc_i (va_runV (As := [.int (L.1 1)]) (rest := []) ⟨hx, hb, hml, hown, hts⟩ (c_y_X10_isBelow l dC dI cy a z k (lI lZ 1 ((L.1 1))) σ r1 hc1 H.size) (cwV 1 hts g_y_X10_writeDigits__a13_X10_isBelow_V68 rfl rfl rfl hd_y_X10_isBelow ⟨Nat.le_of_ble_eq_true rfl, Nat.le_of_ble_eq_true rfl⟩) ⟨nb_blind, va_recv hK hP (ci := 9) (q0 := 4) rfl rfl, (kb_pre hK hG hP hD)⟩ rfl rfl hl.1 rfl (lv_room (Nat.le_of_ble_eq_true rfl)) dX10_writeDigits_24 ⟨Nat.le_refl _, Nat.le_refl _⟩) hA hP hD hS (fun H locs hP hD hS => ?_)
        refine lv_if_eq (tgt := 39) hx hb dX10_writeDigits_27 (by decide) (fun c2 => ?_) (fun c2 => ?_)
        · rw [if_pos c2] at h
          exact ih.2.2.2.1 L r1.2 r h H locs ls hP hD hS (lv_sub hl [0, 1, 2, 3] rfl)
        · rw [if_neg c2] at h
          refine lv_aload_n hx hb dX10_writeDigits_30 rfl (lv_at hl 2 rfl) ?_
          refine lv_iload hx hb dX10_writeDigits_31 (lv_at hl 3 rfl) ?_
          refine lv_bipush (v := 45) hx hb dX10_writeDigits_33 (by decide) ?_
          obtain ⟨q3, h⟩ := kb_ite1 h
          refine hs_13 hx hb hK hP hD hS q3 dX10_writeDigits_35 (fun H locs hP hD hS => ?_)
          refine lv_iinc (v := ((L.1 4)) + 1) (lv' := [(4, .int (((L.1 4)) + 1)), (0, .ref (a 4)), (1, .int (L.1 1)), (2, .ref (a 13))]) hx hb dX10_writeDigits_36 hl (k := 3) rfl rfl (by decide) rfl (fun ls hl => ?_)
          exact ih.2.2.2.1 (lI L 4 ((((L.1 4)) + 1))) (uA r1.2 13 ((L.1 4)).toNatClampNeg (vp_nar .byte 45)) r h H locs ls hP hD hS (lv_sub hl [1, 2, 3, 0] rfl)
      · intro L σ r h H locs ls hP hD hS hl
        rw [y_X10_writeDigits__a13] at h
        refine lv_aload_n hx hb dX10_writeDigits_39 rfl (lv_at hl 0 rfl) ?_
        refine lv_iload_n hx hb dX10_writeDigits_40 rfl (lv_at hl 1 rfl) ?_
        refine lv_aload_n hx hb dX10_writeDigits_41 rfl (lv_at hl 0 rfl) ?_
        refine hg_4_1 hx hb hts in_y_X10_writeDigits__a13_X10 hown hK hP (hts _ (List.mem_cons_of_mem _ (List.mem_append_left _ (List.mem_append_left _ (List.mem_of_getElem? (i := 4) rfl))))) dX10_writeDigits_42 ?_
        obtain ⟨r1, hc1, h⟩ := oc_ex h
        refine kc_i (va_runV (As := [.int (L.1 1), .ref (a 5)]) (rest := []) ⟨hx, hb, hml, hown, hts⟩ (c_y_X10_load__a5 l dC dI cy a z k (lI lZ 1 ((L.1 1))) σ r1 hc1 H.size) (cwV 2 hts g_y_X10_writeDigits__a13_X10_load__a5_V64 rfl rfl rfl hd_y_X10_load__a5 ⟨Nat.le_of_ble_eq_true rfl, Nat.le_of_ble_eq_true rfl⟩) ⟨nb_blind, va_recv hK hP (ci := 9) (q0 := 4) rfl rfl, (kb_pre hK hG hP hD)⟩ rfl rfl hl.1 rfl (lv_room (Nat.le_of_ble_eq_true rfl)) dX10_writeDigits_45 ⟨Nat.le_refl _, Nat.le_refl _⟩) hA hP hD hS (fun H locs hP hD hS => ?_)
        refine lv_istore (lv' := [(5, .int r1.1), (0, .ref (a 4)), (1, .int (L.1 1)), (2, .ref (a 13)), (4, .int (L.1 4))]) hx hb dX10_writeDigits_48 hl (by decide) rfl (fun ls hl => ?_)
        refine lv_iconst (v := 0) hx hb dX10_writeDigits_50 (by decide) ?_
        refine lv_istore (lv' := [(6, .int 0), (5, .int r1.1), (0, .ref (a 4)), (1, .int (L.1 1)), (2, .ref (a 13)), (4, .int (L.1 4))]) hx hb dX10_writeDigits_51 hl (by decide) rfl (fun ls hl => ?_)
        refine lv_iconst (v := 0) hx hb dX10_writeDigits_53 (by decide) ?_
        refine lv_istore (lv' := [(7, .int 0), (6, .int 0), (5, .int r1.1), (0, .ref (a 4)), (1, .int (L.1 1)), (2, .ref (a 13)), (4, .int (L.1 4))]) hx hb dX10_writeDigits_54 hl (by decide) rfl (fun ls hl => ?_)
        exact ih.2.2.2.2.1 (lI (lI (lI L 5 r1.1) 6 0) 7 0) r1.2 r h H locs ls hP hD hS (lv_sub hl [3, 5, 6, 2, 1, 0] rfl)
      · intro L σ r h H locs ls hP hD hS hl
        rw [y_X10_writeDigits__a13] at h
        refine lv_iload hx hb dX10_writeDigits_56 (lv_at hl 5 rfl) ?_
        refine lv_aload_n hx hb dX10_writeDigits_58 rfl (lv_at hl 0 rfl) ?_
        refine hg_4_8 hx hb hts in_y_X10_writeDigits__a13_X10 hown hK hP (hts _ (List.mem_cons_of_mem _ (List.mem_append_left _ (List.mem_append_left _ (List.mem_of_getElem? (i := 8) rfl))))) dX10_writeDigits_59 ?_
        refine hn_11 hx hb hK hP dX10_writeDigits_62 ?_
        refine lv_icmp_ge (tgt := 126) hx hb dX10_writeDigits_63 (by decide) (fun c1 => ?_) (fun c1 => ?_)
        · rw [if_pos c1] at h
          exact ih.2.2.2.2.2.1 L σ r h H locs ls hP hD hS (lv_sub hl [0, 1, 2, 4] rfl)
        · rw [if_neg c1] at h
          refine lv_iload hx hb dX10_writeDigits_66 (lv_at hl 3 rfl) ?_
          refine lv_if_gt (tgt := 76) hx hb dX10_writeDigits_68 (by decide) (fun c2 => ?_) (fun c2 => ?_)
          · rw [if_pos c2] at h
            exact ih.2.2.2.2.2.2.1 L σ r h H locs ls hP hD hS (lv_sub hl [0, 1, 2, 3, 4, 5] rfl)
          · rw [if_neg c2] at h
            refine lv_iload hx hb dX10_writeDigits_71 (lv_at hl 5 rfl) ?_
            refine lv_if_ne (tgt := 126) hx hb dX10_writeDigits_73 (by decide) (fun c3 => ?_) (fun c3 => ?_)
            · rw [if_neg c3] at h
              exact ih.2.2.2.2.2.1 L σ r h H locs ls hP hD hS (lv_sub hl [0, 1, 2, 4] rfl)
            · rw [if_pos c3] at h
              exact ih.2.2.2.2.2.2.1 L σ r h H locs ls hP hD hS (lv_sub hl [0, 1, 2, 3, 4, 5] rfl)
      · intro L σ r h H locs ls hP hD hS hl
        rw [y_X10_writeDigits__a13] at h
        refine lv_iload hx hb dX10_writeDigits_126 (lv_at hl 3 rfl) ?_
        refine lv_iconst (v := 1) hx hb dX10_writeDigits_128 (by decide) ?_
        refine lv_isub hx hb dX10_writeDigits_129 ?_
        refine lv_istore (lv' := [(7, .int (((L.1 6)) - 1)), (0, .ref (a 4)), (2, .ref (a 13)), (4, .int (L.1 4)), (6, .int (L.1 6))]) hx hb dX10_writeDigits_130 hl (by decide) rfl (fun ls hl => ?_)
        exact ih.2.2.2.2.2.2.2.1 (lI L 7 ((((L.1 6)) - 1))) σ r h H locs ls hP hD hS (lv_sub hl [1, 2, 3, 4, 0] rfl)
      · intro L σ r h H locs ls hP hD hS hl
        rw [y_X10_writeDigits__a13] at h
        refine lv_aload_n hx hb dX10_writeDigits_76 rfl (lv_at hl 0 rfl) ?_
        refine hg_4_8 hx hb hts in_y_X10_writeDigits__a13_X10 hown hK hP (hts _ (List.mem_cons_of_mem _ (List.mem_append_left _ (List.mem_append_left _ (List.mem_of_getElem? (i := 8) rfl))))) dX10_writeDigits_77 ?_
        refine lv_iload hx hb dX10_writeDigits_80 (lv_at hl 4 rfl) ?_
        refine lv_aload_n hx hb dX10_writeDigits_82 rfl (lv_at hl 0 rfl) ?_
        refine lv_iload hx hb dX10_writeDigits_83 (lv_at hl 3 rfl) ?_
        obtain ⟨r1, hc1, h⟩ := oc_ex h
        refine kc_i (va_runV (As := [.int (L.1 5)]) (rest := [.int (L.1 6), .ref (a 11)]) ⟨hx, hb, hml, hown, hts⟩ (c_y_X10_takeBillion l dC dI cy a z k (lI lZ 1 ((L.1 5))) σ r1 hc1 H.size) (cwV 1 hts g_y_X10_writeDigits__a13_X10_takeBillion_V173 rfl rfl rfl hd_y_X10_takeBillion ⟨Nat.le_of_ble_eq_true rfl, Nat.le_of_ble_eq_true rfl⟩) ⟨nb_blind, va_recv hK hP (ci := 9) (q0 := 4) rfl rfl, (kb_pre hK hG hP hD)⟩ rfl rfl hl.1 rfl (lv_room (Nat.le_of_ble_eq_true rfl)) dX10_writeDigits_85 ⟨Nat.le_refl _, Nat.le_refl _⟩) hA hP hD hS (fun H locs hP hD hS => ?_)
        obtain ⟨q2, h⟩ := kb_ite1 h
        refine hs_11 hx hb hK hP hD hS q2 dX10_writeDigits_88 (fun H locs hP hD hS => ?_)
        refine lv_iinc (v := ((L.1 6)) + 1) (lv' := [(6, .int (((L.1 6)) + 1)), (0, .ref (a 4)), (2, .ref (a 13)), (4, .int (L.1 4)), (5, .int (L.1 5)), (7, .int (L.1 7))]) hx hb dX10_writeDigits_89 hl (k := 4) rfl rfl (by decide) rfl (fun ls hl => ?_)
        refine lv_iload hx hb dX10_writeDigits_92 (lv_at hl 4 rfl) ?_
        refine lv_if_le (tgt := 116) hx hb dX10_writeDigits_94 (by decide) (fun c3 => ?_) (fun c3 => ?_)
        · rw [if_pos c3] at h
          exact ih.2.2.2.2.2.2.2.2.1 (lI L 6 ((((L.1 6)) + 1))) (uA r1.2 11 ((L.1 6)).toNatClampNeg r1.1) r h H locs ls hP hD hS (lv_sub hl [1, 2, 3, 4, 0, 5] rfl)
        · rw [if_neg c3] at h
          refine lv_aload_n hx hb dX10_writeDigits_97 rfl (lv_at hl 1 rfl) ?_
          refine hg_4_1 hx hb hts in_y_X10_writeDigits__a13_X10 hown hK hP (hts _ (List.mem_cons_of_mem _ (List.mem_append_left _ (List.mem_append_left _ (List.mem_of_getElem? (i := 4) rfl))))) dX10_writeDigits_98 ?_
          refine lv_iload hx hb dX10_writeDigits_101 (lv_at hl 4 rfl) ?_
          refine lv_iconst (v := 1) hx hb dX10_writeDigits_103 (by decide) ?_
          refine lv_isub hx hb dX10_writeDigits_104 ?_
          obtain ⟨q4, h⟩ := kb_ite1 h
          refine hl_5 hx hb hK hP q4 dX10_writeDigits_105 ?_
          refine lv_if_ne (tgt := 116) hx hb dX10_writeDigits_106 (by decide) (fun c5 => ?_) (fun c5 => ?_)
          · rw [if_neg c5] at h
            exact ih.2.2.2.2.2.2.2.2.1 (lI L 6 ((((L.1 6)) + 1))) (uA r1.2 11 ((L.1 6)).toNatClampNeg r1.1) r h H locs ls hP hD hS (lv_sub hl [1, 2, 3, 4, 0, 5] rfl)
          · rw [if_pos c5] at h
            refine lv_iload hx hb dX10_writeDigits_109 (lv_at hl 4 rfl) ?_
            refine lv_iconst (v := 1) hx hb dX10_writeDigits_111 (by decide) ?_
            refine lv_isub hx hb dX10_writeDigits_112 ?_
            refine lv_goto (tgt := 118) hx hb dX10_writeDigits_113 (by decide) ?_
            exact ih.2.2.2.2.2.2.2.2.2.1 (lI (lI L 6 ((((L.1 6)) + 1))) 100 ((((L.1 5)) - 1))) (uA r1.2 11 ((L.1 6)).toNatClampNeg r1.1) r h H locs ls hP hD hS (lv_sub hl [1, 2, 3, 0, 5] rfl)
      · intro L σ r h H locs ls hP hD hS hl
        rw [y_X10_writeDigits__a13] at h
        refine lv_iload hx hb dX10_writeDigits_132 (lv_at hl 4 rfl) ?_
        refine lv_if_lt (tgt := 172) hx hb dX10_writeDigits_134 (by decide) (fun c1 => ?_) (fun c1 => ?_)
        · rw [if_pos c1] at h
          exact ih.2.2.2.2.2.2.2.2.2.2.1 L σ r h H locs ls hP hD hS (lv_sub hl [2] rfl)
        · rw [if_neg c1] at h
          refine lv_aload_n hx hb dX10_writeDigits_137 rfl (lv_at hl 0 rfl) ?_
          refine hg_4_8 hx hb hts in_y_X10_writeDigits__a13_X10 hown hK hP (hts _ (List.mem_cons_of_mem _ (List.mem_append_left _ (List.mem_append_left _ (List.mem_of_getElem? (i := 8) rfl))))) dX10_writeDigits_138 ?_
          refine lv_iload hx hb dX10_writeDigits_141 (lv_at hl 4 rfl) ?_
          obtain ⟨q2, h⟩ := kb_ite1 h
          refine hl_11 hx hb hK hP q2 dX10_writeDigits_143 ?_
          refine lv_iload hx hb dX10_writeDigits_144 (lv_at hl 4 rfl) ?_
          refine lv_iload hx hb dX10_writeDigits_146 (lv_at hl 3 rfl) ?_
          refine lv_iconst (v := 1) hx hb dX10_writeDigits_148 (by decide) ?_
          refine lv_isub hx hb dX10_writeDigits_149 ?_
          refine lv_icmp_ne (tgt := 157) hx hb dX10_writeDigits_150 (by decide) (fun c3 => ?_) (fun c3 => ?_)
          · rw [if_neg c3] at h
            exact ih.2.2.2.2.2.2.2.2.2.2.2.1 (lI L 100 ((σ.2.2.1 11 ((L.1 7)).toNatClampNeg))) σ r h H locs ls hP hD hS (lv_sub hl [0, 1, 2, 3, 4] rfl)
          · rw [if_pos c3] at h
            refine lv_iconst (v := 1) hx hb dX10_writeDigits_153 (by decide) ?_
            refine lv_goto (tgt := 158) hx hb dX10_writeDigits_154 (by decide) ?_
            exact ih.2.2.2.2.2.2.2.2.2.2.2.2 (lI (lI L 100 1) 101 ((σ.2.2.1 11 ((L.1 7)).toNatClampNeg))) σ r h H locs ls hP hD hS (lv_sub hl [0, 1, 2, 3, 4] rfl)
      · intro L σ r h H locs ls hP hD hS hl
        rw [y_X10_writeDigits__a13] at h
        refine lv_iload hx hb dX10_writeDigits_116 (lv_at hl 3 rfl) ?_
        exact ih.2.2.2.2.2.2.2.2.2.1 (lI L 100 ((L.1 5))) σ r h H locs ls hP hD hS (lv_sub hl [0, 1, 2, 4, 5] rfl)
      · intro L σ r h H locs ls hP hD hS hl
        rw [y_X10_writeDigits__a13] at h
        refine lv_istore (lv' := [(5, .int (L.1 100)), (0, .ref (a 4)), (2, .ref (a 13)), (4, .int (L.1 4)), (6, .int (L.1 6)), (7, .int (L.1 7))]) hx hb dX10_writeDigits_118 hl (by decide) rfl (fun ls hl => ?_)
        refine lv_iinc (v := ((L.1 7)) + 1) (lv' := [(7, .int (((L.1 7)) + 1)), (5, .int (L.1 100)), (0, .ref (a 4)), (2, .ref (a 13)), (4, .int (L.1 4)), (6, .int (L.1 6))]) hx hb dX10_writeDigits_120 hl (k := 5) rfl rfl (by decide) rfl (fun ls hl => ?_)
        refine lv_goto (tgt := 56) hx hb dX10_writeDigits_123 (by decide) ?_
        exact ih.2.2.2.2.1 (lI (lI L 5 ((L.1 100))) 7 ((((L.1 7)) + 1))) σ r h H locs ls hP hD hS (lv_sub hl [2, 3, 4, 1, 5, 0] rfl)
      · intro L σ r h H locs ls hP hD hS hl
        rw [y_X10_writeDigits__a13] at h
        refine lv_iload hx hb dX10_writeDigits_172 (lv_at hl 0 rfl) ?_
        obtain rfl := Option.some.inj h
        exact W.iret (v := (L.1 4)) hx hb hr (fun t ht hW => ⟨⟨(L.1 4), (), rfl, rfl, by rw [ht]; exact hP, va_K.moved hW.alike hK, hD⟩, hS.F ht⟩) hS.2.2 dX10_writeDigits_174
      · intro L σ r h H locs ls hP hD hS hl
        rw [y_X10_writeDigits__a13] at h
        refine lv_iconst (v := 0) hx hb dX10_writeDigits_157 (by decide) ?_
        exact ih.2.2.2.2.2.2.2.2.2.2.2.2 (lI (lI L 100 0) 101 ((L.1 100))) σ r h H locs ls hP hD hS (lv_sub hl [0, 1, 2, 3, 4] rfl)
      · intro L σ r h H locs ls hP hD hS hl
        rw [y_X10_writeDigits__a13] at h
        refine lv_aload_n hx hb dX10_writeDigits_158 rfl (lv_at hl 1 rfl) ?_
        refine lv_iload hx hb dX10_writeDigits_159 (lv_at hl 2 rfl) ?_
        obtain ⟨r1, hc1, h⟩ := oc_ex h
        refine kc_i (va_runS (As := [.int (L.1 101), .int (L.1 100), .ref (a 13), .int (L.1 4)]) (rest := []) ⟨hx, hb, hml, hown, hts⟩ (c_y_X10_writeChunk__a13 l dC dI cy a z k (lI (lI (lI lZ 0 ((L.1 101))) 1 ((L.1 100))) 3 ((L.1 4))) σ r1 hc1 H.size) (va_cwS 4 hts g_y_X10_writeDigits__a13_X10_writeChunk__a13_S176 rfl rfl rfl hd_y_X10_writeChunk__a13 ⟨Nat.le_of_ble_eq_true rfl, Nat.le_of_ble_eq_true rfl⟩) ⟨nb_blind, (kb_pre hK hG hP hD)⟩ rfl rfl hl.1 rfl (lv_room (Nat.le_of_ble_eq_true rfl)) dX10_writeDigits_161 ⟨Nat.le_refl _, Nat.le_refl _⟩) hA hP hD hS (fun H locs hP hD hS => ?_)
        refine lv_istore (lv' := [(4, .int r1.1), (0, .ref (a 4)), (2, .ref (a 13)), (6, .int (L.1 6)), (7, .int (L.1 7))]) hx hb dX10_writeDigits_164 hl (by decide) rfl (fun ls hl => ?_)
        refine lv_iinc (v := ((L.1 7)) + (-1)) (lv' := [(7, .int (((L.1 7)) + (-1))), (4, .int r1.1), (0, .ref (a 4)), (2, .ref (a 13)), (6, .int (L.1 6))]) hx hb dX10_writeDigits_166 hl (k := 4) rfl rfl (by decide) rfl (fun ls hl => ?_)
        refine lv_goto (tgt := 132) hx hb dX10_writeDigits_169 (by decide) ?_
        exact ih.2.2.2.2.2.2.2.1 (lI (lI L 4 r1.1) 7 ((((L.1 7)) + (-1)))) r1.2 r h H locs ls hP hD hS (lv_sub hl [2, 3, 1, 4, 0] rfl)
  exact (blk k0).1 L0 σ0 r0 h0 s.heap [] ls hP hD hS hl
/-! X6_writeWord__ek14 -/
def f_X6_writeWord__ek14 : Nat → Nat → LV → CS → Option RS
  | 0, _, _, _ => none
  | k + 1, 0, L, σ => f_X6_writeWord__ek14 k 1 (lI L 2 0) σ
  | k + 1, 1, L, σ => if 2 ≤ ((L.1 2)) then (f_X6_writeWord__ek14 k 2 L σ) else (if ¬ ((L.1 2)) < 0 ∧ ((L.1 2)).toNatClampNeg < 2 then (op (y_X6_put k 0 (lI lZ 1 ((sx7.getD ((L.1 2)).toNatClampNeg 0 &&& 255))) σ) (fun r3 => f_X6_writeWord__ek14 k 1 (lI L 2 ((((L.1 2)) + 1))) r3.2)) else none)
  | k + 1, 2, L, σ => some ((0, 0), σ, (0, 0))
  | _ + 1, _ + 3, _, _ => none
def o_f_X6_writeWord__ek14 : List Cond := [.methodLink RX6 83 yJ0_length_8abf5, .instanceMethod yJ0_length_8abf5, .selects RJ0 yJ0_length_8abf5 yJ0_length_8abf5, .initialized RJ0, .methodLink RX6 88 yJ0_charAt_5068e, .instanceMethod yJ0_charAt_5068e, .selects RJ0 yJ0_charAt_5068e yJ0_charAt_5068e, .methodLink RX6 55 yX6_put, .instanceMethod yX6_put, .selects RX6 yX6_put yX6_put, .initialized RX6]
theorem o_f_X6_writeWord__ek14_good : o_f_X6_writeWord__ek14.all goodWord = true := by decide +kernel
def p_f_X6_writeWord__ek14 : List Cond := o_f_X6_writeWord__ek14 ++ (wsJ0_length_8abf5 ++ (wsJ0_charAt_5068e ++ ((.code yX6_put cX6_put 2 none :: p_y_X6_put) ++ [])))
theorem p_f_X6_writeWord__ek14_good : p_f_X6_writeWord__ek14.all goodWord = true := nb_all2 o_f_X6_writeWord__ek14_good (nb_all2 (by decide +kernel) (nb_all2 (by decide +kernel) (nb_all2 (nb_allc (by decide +kernel) p_y_X6_put_good) rfl)))
def w_f_X6_writeWord__ek14 : List Cond := .code yX6_writeWord cX6_writeWord 3 none :: (p_f_X6_writeWord__ek14 ++ fC)
theorem w_f_X6_writeWord__ek14_good : w_f_X6_writeWord__ek14.all goodWord = true := nb_allc (by decide +kernel) (nb_all2 p_f_X6_writeWord__ek14_good fC_good)
theorem hd_f_X6_writeWord__ek14 : yX6_writeWord.cls = RX6 ∧ yX6_writeWord.cls ≠ "java/lang/invoke/MethodHandle" ∧ yX6_writeWord.cls ≠ "java/lang/invoke/VarHandle" ∧ (parseMethodDescriptor yX6_writeWord.desc).map (fun d => d.parameters.length) = some 1 := by decide +kernel
theorem gg_f_X6_writeWord__ek14_X6_put : GoodIn w_f_X6_writeWord__ek14 w_y_X6_put := goodIn_sub (fun w h => (List.mem_cons.mp h).elim (fun e => (List.mem_cons_of_mem _ (List.mem_append_left _ (List.mem_append_right _ (List.mem_append_right _ (List.mem_append_right _ (List.mem_append_left _ (List.mem_cons.mpr (Or.inl e))))))))) (fun h => (List.mem_append.mp h).elim (fun h => (List.mem_cons_of_mem _ (List.mem_append_left _ (List.mem_append_right _ (List.mem_append_right _ (List.mem_append_right _ (List.mem_append_left _ (List.mem_cons_of_mem _ h)))))))) (fun h => List.mem_cons_of_mem _ (List.mem_append_right _ h)))) w_y_X6_put_good
theorem g_y_X6_writeWord__ek14_X6_put_V55 : GoodIn w_f_X6_writeWord__ek14 (wsV RX6 55 RX6 yX6_put w_y_X6_put) := goodIn_app (nb_g4 (List.mem_cons_of_mem _ (List.mem_append_left _ (List.mem_append_left _ (List.mem_of_getElem? (i := 7) rfl)))) (List.mem_cons_of_mem _ (List.mem_append_left _ (List.mem_append_left _ (List.mem_of_getElem? (i := 8) rfl)))) (List.mem_cons_of_mem _ (List.mem_append_left _ (List.mem_append_left _ (List.mem_of_getElem? (i := 9) rfl)))) (List.mem_cons_of_mem _ (List.mem_append_left _ (List.mem_append_left _ (List.mem_of_getElem? (i := 10) rfl)))) (by decide +kernel)) gg_f_X6_writeWord__ek14_X6_put
theorem gg_f_X6_writeWord__ek14_wsJ0_charAt_5068e : GoodIn w_f_X6_writeWord__ek14 wsJ0_charAt_5068e := goodIn_sub (fun w h => (List.mem_cons_of_mem _ (List.mem_append_left _ (List.mem_append_right _ (List.mem_append_right _ (List.mem_append_left _ h)))))) (by decide +kernel)
theorem g_f_X6_writeWord__ek14_wsJ0_charAt_5068e_88 : GoodIn w_f_X6_writeWord__ek14 (wsV RX6 88 RJ0 yJ0_charAt_5068e wsJ0_charAt_5068e) := goodIn_app (nb_g4 (List.mem_cons_of_mem _ (List.mem_append_left _ (List.mem_append_left _ (List.mem_of_getElem? (i := 4) rfl)))) (List.mem_cons_of_mem _ (List.mem_append_left _ (List.mem_append_left _ (List.mem_of_getElem? (i := 5) rfl)))) (List.mem_cons_of_mem _ (List.mem_append_left _ (List.mem_append_left _ (List.mem_of_getElem? (i := 6) rfl)))) (List.mem_cons_of_mem _ (List.mem_append_left _ (List.mem_append_left _ (List.mem_of_getElem? (i := 3) rfl)))) (by decide +kernel)) gg_f_X6_writeWord__ek14_wsJ0_charAt_5068e
theorem gg_f_X6_writeWord__ek14_wsJ0_length_8abf5 : GoodIn w_f_X6_writeWord__ek14 wsJ0_length_8abf5 := goodIn_sub (fun w h => (List.mem_cons_of_mem _ (List.mem_append_left _ (List.mem_append_right _ (List.mem_append_left _ h))))) (by decide +kernel)
theorem g_f_X6_writeWord__ek14_wsJ0_length_8abf5_83 : GoodIn w_f_X6_writeWord__ek14 (wsV RX6 83 RJ0 yJ0_length_8abf5 wsJ0_length_8abf5) := goodIn_app (nb_g4 (List.mem_cons_of_mem _ (List.mem_append_left _ (List.mem_append_left _ (List.mem_of_getElem? (i := 0) rfl)))) (List.mem_cons_of_mem _ (List.mem_append_left _ (List.mem_append_left _ (List.mem_of_getElem? (i := 1) rfl)))) (List.mem_cons_of_mem _ (List.mem_append_left _ (List.mem_append_left _ (List.mem_of_getElem? (i := 2) rfl)))) (List.mem_cons_of_mem _ (List.mem_append_left _ (List.mem_append_left _ (List.mem_of_getElem? (i := 3) rfl)))) (by decide +kernel)) gg_f_X6_writeWord__ek14_wsJ0_length_8abf5
set_option maxHeartbeats 40000000 in
set_option maxRecDepth 100000 in
theorem c_f_X6_writeWord__ek14 (l : Launch) (hl0 : l.stackTraces = false) (dC : Nat → ClassId) (dI : Nat → Nat → Nat) (cy : Nat → ClassId) (ek a : Nat → Nat) (k0 : Nat) (L0 : LV) (σ0 : CS) (r0 : RS) (h0 : f_X6_writeWord__ek14 k0 0 L0 σ0 = some r0) (z : Nat → Nat) (sz : Nat) : vx_Met l yX6_writeWord w_f_X6_writeWord__ek14 ({ frames := 4, cells := r0.2.2.1, slots := r0.2.2.2, locals := 85 }) (va_Pc [.ref (a 12), .ref (ek 14)] (nInF (dC, dI) cy ek sz (vC cy a z σ0))) (xV dC dI cy a (va_A (vC cy a z σ0) sz) [] z r0) (xX dC dI cy a (va_A (vC cy a z σ0) sz) [] z r0) r0.2.2.1 r0.2.2.2 (va_A (vC cy a z σ0) sz) := by
  refine vx_ofW (cc := cX6_writeWord) (maxL := 3) (ret := none) (by decide) rfl ?_
  intro p e s m args below meth c s₁ B hml hno hv
  obtain ⟨rfl, ⟨⟨hsz, hP, hK, hD0, hG⟩, hE⟩, hT⟩ := hv
  have hx := B.exec
  have hb := B.bytes
  have hr := B.returns
  have hts := atoms_spec (ws := w_f_X6_writeWord__ek14) B.pre
  have hown : s.vm.findClass RX6 = some m.cls := findClass_of_methodNamed B.named
  have hlocks := B.notSynchronized
  subst hsz
  have hD := hD0.self (sz := s.heap.size)
  generalize hAe : va_A (vC cy a z σ0) s.heap.size = A at hD hE hT ⊢
  have hA : ∀ q : Nat, s.heap.size ≤ q → A q := fun q h => by rw [← hAe]; exact Or.inr h
  have hS : va_S A s.heap s.heap [] := va_S.rf
  have hl := lv_entry ([.ref (a 12), .ref (ek 14)]) (n := 3) (Nat.le_of_ble_eq_true rfl)
  rw [lg_entry_eq]
  generalize (lg_sl ([.ref (a 12), .ref (ek 14)]) ++ List.replicate (3 - (lg_sl ([.ref (a 12), .ref (ek 14)])).length) Slot.unset).toArray = ls at hl ⊢
  have hl : lv_has ls 3 [(0, .ref (a 12)), (1, .ref (ek 14))] := hl
  generalize hmc : r0.2.2.1 = mc
  generalize hms : r0.2.2.2 = ms
  have blk : ∀ k : Nat, (bX p l e (headSpec w_f_X6_writeWord__ek14 ({ frames := 4, cells := mc, slots := ms, locals := 85 })).room s m #[.ref (a 12), .ref (ek 14)] below meth c dC dI cy a A (fun r => vx_MQ below (xV dC dI cy a A [] z r) (xX dC dI cy a A [] z r) #[.ref (a 12), .ref (ek 14)] s mc ms A) [] z mc ms 3 (f_X6_writeWord__ek14 k 0) (fun z L => [(0, .ref (a 12)), (1, .ref (ek 14))]) 0 (fun z L => [])) ∧ (bX p l e (headSpec w_f_X6_writeWord__ek14 ({ frames := 4, cells := mc, slots := ms, locals := 85 })).room s m #[.ref (a 12), .ref (ek 14)] below meth c dC dI cy a A (fun r => vx_MQ below (xV dC dI cy a A [] z r) (xX dC dI cy a A [] z r) #[.ref (a 12), .ref (ek 14)] s mc ms A) [] z mc ms 3 (f_X6_writeWord__ek14 k 1) (fun z L => [(0, .ref (a 12)), (1, .ref (ek 14)), (2, .int (L.1 2))]) 2 (fun z L => [])) ∧ (bX p l e (headSpec w_f_X6_writeWord__ek14 ({ frames := 4, cells := mc, slots := ms, locals := 85 })).room s m #[.ref (a 12), .ref (ek 14)] below meth c dC dI cy a A (fun r => vx_MQ below (xV dC dI cy a A [] z r) (xX dC dI cy a A [] z r) #[.ref (a 12), .ref (ek 14)] s mc ms A) [] z mc ms 3 (f_X6_writeWord__ek14 k 2) (fun z L => []) 25 (fun z L => [])) := by
    intro k
    induction k with
    | zero => exact ⟨fun z c1 c2 L σ r h => (by cases h), fun z c1 c2 L σ r h => (by cases h), fun z c1 c2 L σ r h => (by cases h)⟩
    | succ k ih =>
      refine ⟨?_, ?_, ?_⟩
      · intro z cells slots L σ r h hzk hc hs H locs ls hP hD hS hl
        rw [f_X6_writeWord__ek14] at h
        refine lv_iconst (v := 0) hx hb dX6_writeWord_0 (by decide) ?_
        refine lv_istore_n (lv' := [(2, .int 0), (0, .ref (a 12)), (1, .ref (ek 14))]) hx hb dX6_writeWord_1 rfl hl (by decide) rfl (fun ls hl => ?_)
        exact ih.2.1 z _ _ (lI L 2 0) σ _ h hzk hc hs H locs ls hP hD hS (lv_sub hl [1, 2, 0] rfl)
      · intro z cells slots L σ r h hzk hc hs H locs ls hP hD hS hl
        rw [f_X6_writeWord__ek14] at h
        refine lv_iload_n hx hb dX6_writeWord_2 rfl (lv_at hl 2 rfl) ?_
        refine lv_aload_n hx hb dX6_writeWord_3 rfl (lv_at hl 1 rfl) ?_
        refine ks_i (va_runV (As := []) (rest := [.int (L.1 2)]) ⟨hx, hb, hml, hown, hts⟩ (c_J7_len l dC dI cy ek H.size) (cwV 0 hts g_f_X6_writeWord__ek14_wsJ0_length_8abf5_83 rfl rfl rfl (by decide +kernel) ⟨Nat.le_of_ble_eq_true rfl, Nat.le_of_ble_eq_true rfl⟩) ⟨nb_blindE, (vk_recv (i := 7) hE.2.2.1 (by decide) hS), fun U hU hW => ⟨rfl, ⟨by rw [hU], nb_nil, va_K.moved hW.alike hK, nb_nilD, hG.warm hW⟩, nE.to hE hS hW hU (va_free (wc := []) hD hS hA [] rfl)⟩⟩ rfl rfl hl.1 rfl (lv_room (Nat.le_of_ble_eq_true rfl)) dX6_writeWord_4 ⟨(Nat.le_trans (Nat.le_add_right _ _) (Nat.le_of_eq hc)), (Nat.le_trans (Nat.le_add_right _ _) (Nat.le_of_eq hs))⟩) hA hP hD hS (fun H locs hP hS => ?_)
        refine lv_icmp_ge (tgt := 25) hx hb dX6_writeWord_7 (by decide) (fun c1 => ?_) (fun c1 => ?_)
        · rw [if_pos c1] at h
          exact ih.2.2 z _ _ L σ _ h hzk hc hs H locs ls hP hD hS (lv_sub hl [] rfl)
        · rw [if_neg c1] at h
          refine lv_aload_n hx hb dX6_writeWord_10 rfl (lv_at hl 0 rfl) ?_
          refine lv_aload_n hx hb dX6_writeWord_11 rfl (lv_at hl 1 rfl) ?_
          refine lv_iload_n hx hb dX6_writeWord_12 rfl (lv_at hl 2 rfl) ?_
          obtain ⟨q2, h⟩ := kr_ite1 h
          have hch := c_J7_charAt l dC dI cy ek ((L.1 2)).toNatClampNeg q2.2 H.size
          rw [nI_back q2.1] at hch
          refine ks_i (va_runV (As := [.int (L.1 2)]) (rest := [.ref (a 12)]) ⟨hx, hb, hml, hown, hts⟩ hch (cwV 1 hts g_f_X6_writeWord__ek14_wsJ0_charAt_5068e_88 rfl rfl rfl (by decide +kernel) ⟨Nat.le_of_ble_eq_true rfl, Nat.le_of_ble_eq_true rfl⟩) ⟨nb_blindE, (vk_recv (i := 7) hE.2.2.1 (by decide) hS), fun U hU hW => ⟨rfl, ⟨by rw [hU], nb_nil, va_K.moved hW.alike hK, nb_nilD, hG.warm hW⟩, nE.to hE hS hW hU (va_free (wc := []) hD hS hA [] rfl)⟩⟩ rfl rfl hl.1 rfl (lv_room (Nat.le_of_ble_eq_true rfl)) dX6_writeWord_13 ⟨(Nat.le_trans (Nat.le_add_right _ _) (Nat.le_of_eq hc)), (Nat.le_trans (Nat.le_add_right _ _) (Nat.le_of_eq hs))⟩) hA hP hD hS (fun H locs hP hS => ?_)
          obtain ⟨r3, hc3, h⟩ := op_ex h
          refine kc_v (va_runV (As := [.int (sx7.getD ((L.1 2)).toNatClampNeg 0 &&& 255)]) (rest := []) ⟨hx, hb, hml, hown, hts⟩ (c_y_X6_put l dC dI cy a z k (lI lZ 1 ((sx7.getD ((L.1 2)).toNatClampNeg 0 &&& 255))) σ r3 hc3 H.size) (cwV 1 hts g_y_X6_writeWord__ek14_X6_put_V55 rfl rfl rfl hd_y_X6_put ⟨Nat.le_of_ble_eq_true rfl, Nat.le_of_ble_eq_true rfl⟩) ⟨nb_blind, va_recv hK hP (ci := 5) (q0 := 12) rfl rfl, (kb_pre hK hG hP hD)⟩ rfl rfl hl.1 rfl (lv_room (Nat.le_of_ble_eq_true rfl)) dX6_writeWord_16 ⟨(Nat.le_trans (Nat.le_add_right _ _) (Nat.le_of_eq hc)), (Nat.le_trans (Nat.le_add_right _ _) (Nat.le_of_eq hs))⟩) hA hP hD hS (fun H locs hP hD hS => ?_)
          refine lv_iinc (v := ((L.1 2)) + 1) (lv' := [(2, .int (((L.1 2)) + 1)), (0, .ref (a 12)), (1, .ref (ek 14))]) hx hb dX6_writeWord_19 hl (k := 2) rfl rfl (by decide) rfl (fun ls hl => ?_)
          refine lv_goto (tgt := 2) hx hb dX6_writeWord_22 (by decide) ?_
          exact ih.2.1 z _ _ (lI L 2 ((((L.1 2)) + 1))) r3.2 _ h hzk hc hs H locs ls hP hD hS (lv_sub hl [1, 2, 0] rfl)
      · intro z cells slots L σ r h hzk hc hs H locs ls hP hD hS hl
        rw [f_X6_writeWord__ek14] at h
        obtain rfl := Option.some.inj h
        subst hc
        subst hs
        exact xr_v hx hb hr hK hzk hP hD hS hlocks dX6_writeWord_25
  exact (blk k0).1 z 0 0 L0 σ0 r0 h0 (zk_rf _ _) ((Nat.zero_add _).trans hmc) ((Nat.zero_add _).trans hms) s.heap [] ls hP hD hS hl
/-! X6_writeWord__ek16 -/
def f_X6_writeWord__ek16 : Nat → Nat → LV → CS → Option RS
  | 0, _, _, _ => none
  | k + 1, 0, L, σ => f_X6_writeWord__ek16 k 1 (lI L 2 0) σ
  | k + 1, 1, L, σ => if 4 ≤ ((L.1 2)) then (f_X6_writeWord__ek16 k 2 L σ) else (if ¬ ((L.1 2)) < 0 ∧ ((L.1 2)).toNatClampNeg < 4 then (op (y_X6_put k 0 (lI lZ 1 ((sx8.getD ((L.1 2)).toNatClampNeg 0 &&& 255))) σ) (fun r3 => f_X6_writeWord__ek16 k 1 (lI L 2 ((((L.1 2)) + 1))) r3.2)) else none)
  | k + 1, 2, L, σ => some ((0, 0), σ, (0, 0))
  | _ + 1, _ + 3, _, _ => none
def o_f_X6_writeWord__ek16 : List Cond := [.methodLink RX6 83 yJ0_length_8abf5, .instanceMethod yJ0_length_8abf5, .selects RJ0 yJ0_length_8abf5 yJ0_length_8abf5, .initialized RJ0, .methodLink RX6 88 yJ0_charAt_5068e, .instanceMethod yJ0_charAt_5068e, .selects RJ0 yJ0_charAt_5068e yJ0_charAt_5068e, .methodLink RX6 55 yX6_put, .instanceMethod yX6_put, .selects RX6 yX6_put yX6_put, .initialized RX6]
theorem o_f_X6_writeWord__ek16_good : o_f_X6_writeWord__ek16.all goodWord = true := by decide +kernel
def p_f_X6_writeWord__ek16 : List Cond := o_f_X6_writeWord__ek16 ++ (wsJ0_length_8abf5 ++ (wsJ0_charAt_5068e ++ ((.code yX6_put cX6_put 2 none :: p_y_X6_put) ++ [])))
theorem p_f_X6_writeWord__ek16_good : p_f_X6_writeWord__ek16.all goodWord = true := nb_all2 o_f_X6_writeWord__ek16_good (nb_all2 (by decide +kernel) (nb_all2 (by decide +kernel) (nb_all2 (nb_allc (by decide +kernel) p_y_X6_put_good) rfl)))
def w_f_X6_writeWord__ek16 : List Cond := .code yX6_writeWord cX6_writeWord 3 none :: (p_f_X6_writeWord__ek16 ++ fC)
theorem w_f_X6_writeWord__ek16_good : w_f_X6_writeWord__ek16.all goodWord = true := nb_allc (by decide +kernel) (nb_all2 p_f_X6_writeWord__ek16_good fC_good)
theorem hd_f_X6_writeWord__ek16 : yX6_writeWord.cls = RX6 ∧ yX6_writeWord.cls ≠ "java/lang/invoke/MethodHandle" ∧ yX6_writeWord.cls ≠ "java/lang/invoke/VarHandle" ∧ (parseMethodDescriptor yX6_writeWord.desc).map (fun d => d.parameters.length) = some 1 := by decide +kernel
theorem gg_f_X6_writeWord__ek16_X6_put : GoodIn w_f_X6_writeWord__ek16 w_y_X6_put := goodIn_sub (fun w h => (List.mem_cons.mp h).elim (fun e => (List.mem_cons_of_mem _ (List.mem_append_left _ (List.mem_append_right _ (List.mem_append_right _ (List.mem_append_right _ (List.mem_append_left _ (List.mem_cons.mpr (Or.inl e))))))))) (fun h => (List.mem_append.mp h).elim (fun h => (List.mem_cons_of_mem _ (List.mem_append_left _ (List.mem_append_right _ (List.mem_append_right _ (List.mem_append_right _ (List.mem_append_left _ (List.mem_cons_of_mem _ h)))))))) (fun h => List.mem_cons_of_mem _ (List.mem_append_right _ h)))) w_y_X6_put_good
theorem g_y_X6_writeWord__ek16_X6_put_V55 : GoodIn w_f_X6_writeWord__ek16 (wsV RX6 55 RX6 yX6_put w_y_X6_put) := goodIn_app (nb_g4 (List.mem_cons_of_mem _ (List.mem_append_left _ (List.mem_append_left _ (List.mem_of_getElem? (i := 7) rfl)))) (List.mem_cons_of_mem _ (List.mem_append_left _ (List.mem_append_left _ (List.mem_of_getElem? (i := 8) rfl)))) (List.mem_cons_of_mem _ (List.mem_append_left _ (List.mem_append_left _ (List.mem_of_getElem? (i := 9) rfl)))) (List.mem_cons_of_mem _ (List.mem_append_left _ (List.mem_append_left _ (List.mem_of_getElem? (i := 10) rfl)))) (by decide +kernel)) gg_f_X6_writeWord__ek16_X6_put
theorem gg_f_X6_writeWord__ek16_wsJ0_charAt_5068e : GoodIn w_f_X6_writeWord__ek16 wsJ0_charAt_5068e := goodIn_sub (fun w h => (List.mem_cons_of_mem _ (List.mem_append_left _ (List.mem_append_right _ (List.mem_append_right _ (List.mem_append_left _ h)))))) (by decide +kernel)
theorem g_f_X6_writeWord__ek16_wsJ0_charAt_5068e_88 : GoodIn w_f_X6_writeWord__ek16 (wsV RX6 88 RJ0 yJ0_charAt_5068e wsJ0_charAt_5068e) := goodIn_app (nb_g4 (List.mem_cons_of_mem _ (List.mem_append_left _ (List.mem_append_left _ (List.mem_of_getElem? (i := 4) rfl)))) (List.mem_cons_of_mem _ (List.mem_append_left _ (List.mem_append_left _ (List.mem_of_getElem? (i := 5) rfl)))) (List.mem_cons_of_mem _ (List.mem_append_left _ (List.mem_append_left _ (List.mem_of_getElem? (i := 6) rfl)))) (List.mem_cons_of_mem _ (List.mem_append_left _ (List.mem_append_left _ (List.mem_of_getElem? (i := 3) rfl)))) (by decide +kernel)) gg_f_X6_writeWord__ek16_wsJ0_charAt_5068e
theorem gg_f_X6_writeWord__ek16_wsJ0_length_8abf5 : GoodIn w_f_X6_writeWord__ek16 wsJ0_length_8abf5 := goodIn_sub (fun w h => (List.mem_cons_of_mem _ (List.mem_append_left _ (List.mem_append_right _ (List.mem_append_left _ h))))) (by decide +kernel)
theorem g_f_X6_writeWord__ek16_wsJ0_length_8abf5_83 : GoodIn w_f_X6_writeWord__ek16 (wsV RX6 83 RJ0 yJ0_length_8abf5 wsJ0_length_8abf5) := goodIn_app (nb_g4 (List.mem_cons_of_mem _ (List.mem_append_left _ (List.mem_append_left _ (List.mem_of_getElem? (i := 0) rfl)))) (List.mem_cons_of_mem _ (List.mem_append_left _ (List.mem_append_left _ (List.mem_of_getElem? (i := 1) rfl)))) (List.mem_cons_of_mem _ (List.mem_append_left _ (List.mem_append_left _ (List.mem_of_getElem? (i := 2) rfl)))) (List.mem_cons_of_mem _ (List.mem_append_left _ (List.mem_append_left _ (List.mem_of_getElem? (i := 3) rfl)))) (by decide +kernel)) gg_f_X6_writeWord__ek16_wsJ0_length_8abf5
set_option maxHeartbeats 40000000 in
set_option maxRecDepth 100000 in
theorem c_f_X6_writeWord__ek16 (l : Launch) (hl0 : l.stackTraces = false) (dC : Nat → ClassId) (dI : Nat → Nat → Nat) (cy : Nat → ClassId) (ek a : Nat → Nat) (k0 : Nat) (L0 : LV) (σ0 : CS) (r0 : RS) (h0 : f_X6_writeWord__ek16 k0 0 L0 σ0 = some r0) (z : Nat → Nat) (sz : Nat) : vx_Met l yX6_writeWord w_f_X6_writeWord__ek16 ({ frames := 4, cells := r0.2.2.1, slots := r0.2.2.2, locals := 85 }) (va_Pc [.ref (a 12), .ref (ek 16)] (nInF (dC, dI) cy ek sz (vC cy a z σ0))) (xV dC dI cy a (va_A (vC cy a z σ0) sz) [] z r0) (xX dC dI cy a (va_A (vC cy a z σ0) sz) [] z r0) r0.2.2.1 r0.2.2.2 (va_A (vC cy a z σ0) sz) := by
  refine vx_ofW (cc := cX6_writeWord) (maxL := 3) (ret := none) (by decide) rfl ?_
  intro p e s m args below meth c s₁ B hml hno hv
  obtain ⟨rfl, ⟨⟨hsz, hP, hK, hD0, hG⟩, hE⟩, hT⟩ := hv
  have hx := B.exec
  have hb := B.bytes
  have hr := B.returns
  have hts := atoms_spec (ws := w_f_X6_writeWord__ek16) B.pre
  have hown : s.vm.findClass RX6 = some m.cls := findClass_of_methodNamed B.named
  have hlocks := B.notSynchronized
  subst hsz
  have hD := hD0.self (sz := s.heap.size)
  generalize hAe : va_A (vC cy a z σ0) s.heap.size = A at hD hE hT ⊢
  have hA : ∀ q : Nat, s.heap.size ≤ q → A q := fun q h => by rw [← hAe]; exact Or.inr h
  have hS : va_S A s.heap s.heap [] := va_S.rf
  have hl := lv_entry ([.ref (a 12), .ref (ek 16)]) (n := 3) (Nat.le_of_ble_eq_true rfl)
  rw [lg_entry_eq]
  generalize (lg_sl ([.ref (a 12), .ref (ek 16)]) ++ List.replicate (3 - (lg_sl ([.ref (a 12), .ref (ek 16)])).length) Slot.unset).toArray = ls at hl ⊢
  have hl : lv_has ls 3 [(0, .ref (a 12)), (1, .ref (ek 16))] := hl
  generalize hmc : r0.2.2.1 = mc
  generalize hms : r0.2.2.2 = ms
  have blk : ∀ k : Nat, (bX p l e (headSpec w_f_X6_writeWord__ek16 ({ frames := 4, cells := mc, slots := ms, locals := 85 })).room s m #[.ref (a 12), .ref (ek 16)] below meth c dC dI cy a A (fun r => vx_MQ below (xV dC dI cy a A [] z r) (xX dC dI cy a A [] z r) #[.ref (a 12), .ref (ek 16)] s mc ms A) [] z mc ms 3 (f_X6_writeWord__ek16 k 0) (fun z L => [(0, .ref (a 12)), (1, .ref (ek 16))]) 0 (fun z L => [])) ∧ (bX p l e (headSpec w_f_X6_writeWord__ek16 ({ frames := 4, cells := mc, slots := ms, locals := 85 })).room s m #[.ref (a 12), .ref (ek 16)] below meth c dC dI cy a A (fun r => vx_MQ below (xV dC dI cy a A [] z r) (xX dC dI cy a A [] z r) #[.ref (a 12), .ref (ek 16)] s mc ms A) [] z mc ms 3 (f_X6_writeWord__ek16 k 1) (fun z L => [(0, .ref (a 12)), (1, .ref (ek 16)), (2, .int (L.1 2))]) 2 (fun z L => [])) ∧ (bX p l e (headSpec w_f_X6_writeWord__ek16 ({ frames := 4, cells := mc, slots := ms, locals := 85 })).room s m #[.ref (a 12), .ref (ek 16)] below meth c dC dI cy a A (fun r => vx_MQ below (xV dC dI cy a A [] z r) (xX dC dI cy a A [] z r) #[.ref (a 12), .ref (ek 16)] s mc ms A) [] z mc ms 3 (f_X6_writeWord__ek16 k 2) (fun z L => []) 25 (fun z L => [])) := by
    intro k
    induction k with
    | zero => exact ⟨fun z c1 c2 L σ r h => (by cases h), fun z c1 c2 L σ r h => (by cases h), fun z c1 c2 L σ r h => (by cases h)⟩
    | succ k ih =>
      refine ⟨?_, ?_, ?_⟩
      · intro z cells slots L σ r h hzk hc hs H locs ls hP hD hS hl
        rw [f_X6_writeWord__ek16] at h
        refine lv_iconst (v := 0) hx hb dX6_writeWord_0 (by decide) ?_
        refine lv_istore_n (lv' := [(2, .int 0), (0, .ref (a 12)), (1, .ref (ek 16))]) hx hb dX6_writeWord_1 rfl hl (by decide) rfl (fun ls hl => ?_)
        exact ih.2.1 z _ _ (lI L 2 0) σ _ h hzk hc hs H locs ls hP hD hS (lv_sub hl [1, 2, 0] rfl)
      · intro z cells slots L σ r h hzk hc hs H locs ls hP hD hS hl
        rw [f_X6_writeWord__ek16] at h
        refine lv_iload_n hx hb dX6_writeWord_2 rfl (lv_at hl 2 rfl) ?_
        refine lv_aload_n hx hb dX6_writeWord_3 rfl (lv_at hl 1 rfl) ?_
        refine ks_i (va_runV (As := []) (rest := [.int (L.1 2)]) ⟨hx, hb, hml, hown, hts⟩ (c_J8_len l dC dI cy ek H.size) (cwV 0 hts g_f_X6_writeWord__ek16_wsJ0_length_8abf5_83 rfl rfl rfl (by decide +kernel) ⟨Nat.le_of_ble_eq_true rfl, Nat.le_of_ble_eq_true rfl⟩) ⟨nb_blindE, (vk_recv (i := 8) hE.2.2.1 (by decide) hS), fun U hU hW => ⟨rfl, ⟨by rw [hU], nb_nil, va_K.moved hW.alike hK, nb_nilD, hG.warm hW⟩, nE.to hE hS hW hU (va_free (wc := []) hD hS hA [] rfl)⟩⟩ rfl rfl hl.1 rfl (lv_room (Nat.le_of_ble_eq_true rfl)) dX6_writeWord_4 ⟨(Nat.le_trans (Nat.le_add_right _ _) (Nat.le_of_eq hc)), (Nat.le_trans (Nat.le_add_right _ _) (Nat.le_of_eq hs))⟩) hA hP hD hS (fun H locs hP hS => ?_)
        refine lv_icmp_ge (tgt := 25) hx hb dX6_writeWord_7 (by decide) (fun c1 => ?_) (fun c1 => ?_)
        · rw [if_pos c1] at h
          exact ih.2.2 z _ _ L σ _ h hzk hc hs H locs ls hP hD hS (lv_sub hl [] rfl)
        · rw [if_neg c1] at h
          refine lv_aload_n hx hb dX6_writeWord_10 rfl (lv_at hl 0 rfl) ?_
          refine lv_aload_n hx hb dX6_writeWord_11 rfl (lv_at hl 1 rfl) ?_
          refine lv_iload_n hx hb dX6_writeWord_12 rfl (lv_at hl 2 rfl) ?_
          obtain ⟨q2, h⟩ := kr_ite1 h
          have hch := c_J8_charAt l dC dI cy ek ((L.1 2)).toNatClampNeg q2.2 H.size
          rw [nI_back q2.1] at hch
          refine ks_i (va_runV (As := [.int (L.1 2)]) (rest := [.ref (a 12)]) ⟨hx, hb, hml, hown, hts⟩ hch (cwV 1 hts g_f_X6_writeWord__ek16_wsJ0_charAt_5068e_88 rfl rfl rfl (by decide +kernel) ⟨Nat.le_of_ble_eq_true rfl, Nat.le_of_ble_eq_true rfl⟩) ⟨nb_blindE, (vk_recv (i := 8) hE.2.2.1 (by decide) hS), fun U hU hW => ⟨rfl, ⟨by rw [hU], nb_nil, va_K.moved hW.alike hK, nb_nilD, hG.warm hW⟩, nE.to hE hS hW hU (va_free (wc := []) hD hS hA [] rfl)⟩⟩ rfl rfl hl.1 rfl (lv_room (Nat.le_of_ble_eq_true rfl)) dX6_writeWord_13 ⟨(Nat.le_trans (Nat.le_add_right _ _) (Nat.le_of_eq hc)), (Nat.le_trans (Nat.le_add_right _ _) (Nat.le_of_eq hs))⟩) hA hP hD hS (fun H locs hP hS => ?_)
          obtain ⟨r3, hc3, h⟩ := op_ex h
          refine kc_v (va_runV (As := [.int (sx8.getD ((L.1 2)).toNatClampNeg 0 &&& 255)]) (rest := []) ⟨hx, hb, hml, hown, hts⟩ (c_y_X6_put l dC dI cy a z k (lI lZ 1 ((sx8.getD ((L.1 2)).toNatClampNeg 0 &&& 255))) σ r3 hc3 H.size) (cwV 1 hts g_y_X6_writeWord__ek16_X6_put_V55 rfl rfl rfl hd_y_X6_put ⟨Nat.le_of_ble_eq_true rfl, Nat.le_of_ble_eq_true rfl⟩) ⟨nb_blind, va_recv hK hP (ci := 5) (q0 := 12) rfl rfl, (kb_pre hK hG hP hD)⟩ rfl rfl hl.1 rfl (lv_room (Nat.le_of_ble_eq_true rfl)) dX6_writeWord_16 ⟨(Nat.le_trans (Nat.le_add_right _ _) (Nat.le_of_eq hc)), (Nat.le_trans (Nat.le_add_right _ _) (Nat.le_of_eq hs))⟩) hA hP hD hS (fun H locs hP hD hS => ?_)
          refine lv_iinc (v := ((L.1 2)) + 1) (lv' := [(2, .int (((L.1 2)) + 1)), (0, .ref (a 12)), (1, .ref (ek 16))]) hx hb dX6_writeWord_19 hl (k := 2) rfl rfl (by decide) rfl (fun ls hl => ?_)
          refine lv_goto (tgt := 2) hx hb dX6_writeWord_22 (by decide) ?_
          exact ih.2.1 z _ _ (lI L 2 ((((L.1 2)) + 1))) r3.2 _ h hzk hc hs H locs ls hP hD hS (lv_sub hl [1, 2, 0] rfl)
      · intro z cells slots L σ r h hzk hc hs H locs ls hP hD hS hl
        rw [f_X6_writeWord__ek16] at h
        obtain rfl := Option.some.inj h
        subst hc
        subst hs
        exact xr_v hx hb hr hK hzk hP hD hS hlocks dX6_writeWord_25
  exact (blk k0).1 z 0 0 L0 σ0 r0 h0 (zk_rf _ _) ((Nat.zero_add _).trans hmc) ((Nat.zero_add _).trans hms) s.heap [] ls hP hD hS hl
/-! X6_writeWord__ek18 -/
def f_X6_writeWord__ek18 : Nat → Nat → LV → CS → Option RS
  | 0, _, _, _ => none
  | k + 1, 0, L, σ => f_X6_writeWord__ek18 k 1 (lI L 2 0) σ
  | k + 1, 1, L, σ => if 5 ≤ ((L.1 2)) then (f_X6_writeWord__ek18 k 2 L σ) else (if ¬ ((L.1 2)) < 0 ∧ ((L.1 2)).toNatClampNeg < 5 then (op (y_X6_put k 0 (lI lZ 1 ((sx9.getD ((L.1 2)).toNatClampNeg 0 &&& 255))) σ) (fun r3 => f_X6_writeWord__ek18 k 1 (lI L 2 ((((L.1 2)) + 1))) r3.2)) else none)
  | k + 1, 2, L, σ => some ((0, 0), σ, (0, 0))
  | _ + 1, _ + 3, _, _ => none
def o_f_X6_writeWord__ek18 : List Cond := [.methodLink RX6 83 yJ0_length_8abf5, .instanceMethod yJ0_length_8abf5, .selects RJ0 yJ0_length_8abf5 yJ0_length_8abf5, .initialized RJ0, .methodLink RX6 88 yJ0_charAt_5068e, .instanceMethod yJ0_charAt_5068e, .selects RJ0 yJ0_charAt_5068e yJ0_charAt_5068e, .methodLink RX6 55 yX6_put, .instanceMethod yX6_put, .selects RX6 yX6_put yX6_put, .initialized RX6]
theorem o_f_X6_writeWord__ek18_good : o_f_X6_writeWord__ek18.all goodWord = true := by decide +kernel
def p_f_X6_writeWord__ek18 : List Cond := o_f_X6_writeWord__ek18 ++ (wsJ0_length_8abf5 ++ (wsJ0_charAt_5068e ++ ((.code yX6_put cX6_put 2 none :: p_y_X6_put) ++ [])))
theorem p_f_X6_writeWord__ek18_good : p_f_X6_writeWord__ek18.all goodWord = true := nb_all2 o_f_X6_writeWord__ek18_good (nb_all2 (by decide +kernel) (nb_all2 (by decide +kernel) (nb_all2 (nb_allc (by decide +kernel) p_y_X6_put_good) rfl)))
def w_f_X6_writeWord__ek18 : List Cond := .code yX6_writeWord cX6_writeWord 3 none :: (p_f_X6_writeWord__ek18 ++ fC)
theorem w_f_X6_writeWord__ek18_good : w_f_X6_writeWord__ek18.all goodWord = true := nb_allc (by decide +kernel) (nb_all2 p_f_X6_writeWord__ek18_good fC_good)
theorem hd_f_X6_writeWord__ek18 : yX6_writeWord.cls = RX6 ∧ yX6_writeWord.cls ≠ "java/lang/invoke/MethodHandle" ∧ yX6_writeWord.cls ≠ "java/lang/invoke/VarHandle" ∧ (parseMethodDescriptor yX6_writeWord.desc).map (fun d => d.parameters.length) = some 1 := by decide +kernel
theorem gg_f_X6_writeWord__ek18_X6_put : GoodIn w_f_X6_writeWord__ek18 w_y_X6_put := goodIn_sub (fun w h => (List.mem_cons.mp h).elim (fun e => (List.mem_cons_of_mem _ (List.mem_append_left _ (List.mem_append_right _ (List.mem_append_right _ (List.mem_append_right _ (List.mem_append_left _ (List.mem_cons.mpr (Or.inl e))))))))) (fun h => (List.mem_append.mp h).elim (fun h => (List.mem_cons_of_mem _ (List.mem_append_left _ (List.mem_append_right _ (List.mem_append_right _ (List.mem_append_right _ (List.mem_append_left _ (List.mem_cons_of_mem _ h)))))))) (fun h => List.mem_cons_of_mem _ (List.mem_append_right _ h)))) w_y_X6_put_good
theorem g_y_X6_writeWord__ek18_X6_put_V55 : GoodIn w_f_X6_writeWord__ek18 (wsV RX6 55 RX6 yX6_put w_y_X6_put) := goodIn_app (nb_g4 (List.mem_cons_of_mem _ (List.mem_append_left _ (List.mem_append_left _ (List.mem_of_getElem? (i := 7) rfl)))) (List.mem_cons_of_mem _ (List.mem_append_left _ (List.mem_append_left _ (List.mem_of_getElem? (i := 8) rfl)))) (List.mem_cons_of_mem _ (List.mem_append_left _ (List.mem_append_left _ (List.mem_of_getElem? (i := 9) rfl)))) (List.mem_cons_of_mem _ (List.mem_append_left _ (List.mem_append_left _ (List.mem_of_getElem? (i := 10) rfl)))) (by decide +kernel)) gg_f_X6_writeWord__ek18_X6_put
theorem gg_f_X6_writeWord__ek18_wsJ0_charAt_5068e : GoodIn w_f_X6_writeWord__ek18 wsJ0_charAt_5068e := goodIn_sub (fun w h => (List.mem_cons_of_mem _ (List.mem_append_left _ (List.mem_append_right _ (List.mem_append_right _ (List.mem_append_left _ h)))))) (by decide +kernel)
theorem g_f_X6_writeWord__ek18_wsJ0_charAt_5068e_88 : GoodIn w_f_X6_writeWord__ek18 (wsV RX6 88 RJ0 yJ0_charAt_5068e wsJ0_charAt_5068e) := goodIn_app (nb_g4 (List.mem_cons_of_mem _ (List.mem_append_left _ (List.mem_append_left _ (List.mem_of_getElem? (i := 4) rfl)))) (List.mem_cons_of_mem _ (List.mem_append_left _ (List.mem_append_left _ (List.mem_of_getElem? (i := 5) rfl)))) (List.mem_cons_of_mem _ (List.mem_append_left _ (List.mem_append_left _ (List.mem_of_getElem? (i := 6) rfl)))) (List.mem_cons_of_mem _ (List.mem_append_left _ (List.mem_append_left _ (List.mem_of_getElem? (i := 3) rfl)))) (by decide +kernel)) gg_f_X6_writeWord__ek18_wsJ0_charAt_5068e
theorem gg_f_X6_writeWord__ek18_wsJ0_length_8abf5 : GoodIn w_f_X6_writeWord__ek18 wsJ0_length_8abf5 := goodIn_sub (fun w h => (List.mem_cons_of_mem _ (List.mem_append_left _ (List.mem_append_right _ (List.mem_append_left _ h))))) (by decide +kernel)
theorem g_f_X6_writeWord__ek18_wsJ0_length_8abf5_83 : GoodIn w_f_X6_writeWord__ek18 (wsV RX6 83 RJ0 yJ0_length_8abf5 wsJ0_length_8abf5) := goodIn_app (nb_g4 (List.mem_cons_of_mem _ (List.mem_append_left _ (List.mem_append_left _ (List.mem_of_getElem? (i := 0) rfl)))) (List.mem_cons_of_mem _ (List.mem_append_left _ (List.mem_append_left _ (List.mem_of_getElem? (i := 1) rfl)))) (List.mem_cons_of_mem _ (List.mem_append_left _ (List.mem_append_left _ (List.mem_of_getElem? (i := 2) rfl)))) (List.mem_cons_of_mem _ (List.mem_append_left _ (List.mem_append_left _ (List.mem_of_getElem? (i := 3) rfl)))) (by decide +kernel)) gg_f_X6_writeWord__ek18_wsJ0_length_8abf5
set_option maxHeartbeats 40000000 in
set_option maxRecDepth 100000 in
theorem c_f_X6_writeWord__ek18 (l : Launch) (hl0 : l.stackTraces = false) (dC : Nat → ClassId) (dI : Nat → Nat → Nat) (cy : Nat → ClassId) (ek a : Nat → Nat) (k0 : Nat) (L0 : LV) (σ0 : CS) (r0 : RS) (h0 : f_X6_writeWord__ek18 k0 0 L0 σ0 = some r0) (z : Nat → Nat) (sz : Nat) : vx_Met l yX6_writeWord w_f_X6_writeWord__ek18 ({ frames := 4, cells := r0.2.2.1, slots := r0.2.2.2, locals := 85 }) (va_Pc [.ref (a 12), .ref (ek 18)] (nInF (dC, dI) cy ek sz (vC cy a z σ0))) (xV dC dI cy a (va_A (vC cy a z σ0) sz) [] z r0) (xX dC dI cy a (va_A (vC cy a z σ0) sz) [] z r0) r0.2.2.1 r0.2.2.2 (va_A (vC cy a z σ0) sz) := by
  refine vx_ofW (cc := cX6_writeWord) (maxL := 3) (ret := none) (by decide) rfl ?_
  intro p e s m args below meth c s₁ B hml hno hv
  obtain ⟨rfl, ⟨⟨hsz, hP, hK, hD0, hG⟩, hE⟩, hT⟩ := hv
  have hx := B.exec
  have hb := B.bytes
  have hr := B.returns
  have hts := atoms_spec (ws := w_f_X6_writeWord__ek18) B.pre
  have hown : s.vm.findClass RX6 = some m.cls := findClass_of_methodNamed B.named
  have hlocks := B.notSynchronized
  subst hsz
  have hD := hD0.self (sz := s.heap.size)
  generalize hAe : va_A (vC cy a z σ0) s.heap.size = A at hD hE hT ⊢
  have hA : ∀ q : Nat, s.heap.size ≤ q → A q := fun q h => by rw [← hAe]; exact Or.inr h
  have hS : va_S A s.heap s.heap [] := va_S.rf
  have hl := lv_entry ([.ref (a 12), .ref (ek 18)]) (n := 3) (Nat.le_of_ble_eq_true rfl)
  rw [lg_entry_eq]
  generalize (lg_sl ([.ref (a 12), .ref (ek 18)]) ++ List.replicate (3 - (lg_sl ([.ref (a 12), .ref (ek 18)])).length) Slot.unset).toArray = ls at hl ⊢
  have hl : lv_has ls 3 [(0, .ref (a 12)), (1, .ref (ek 18))] := hl
  generalize hmc : r0.2.2.1 = mc
  generalize hms : r0.2.2.2 = ms
  have blk : ∀ k : Nat, (bX p l e (headSpec w_f_X6_writeWord__ek18 ({ frames := 4, cells := mc, slots := ms, locals := 85 })).room s m #[.ref (a 12), .ref (ek 18)] below meth c dC dI cy a A (fun r => vx_MQ below (xV dC dI cy a A [] z r) (xX dC dI cy a A [] z r) #[.ref (a 12), .ref (ek 18)] s mc ms A) [] z mc ms 3 (f_X6_writeWord__ek18 k 0) (fun z L => [(0, .ref (a 12)), (1, .ref (ek 18))]) 0 (fun z L => [])) ∧ (bX p l e (headSpec w_f_X6_writeWord__ek18 ({ frames := 4, cells := mc, slots := ms, locals := 85 })).room s m #[.ref (a 12), .ref (ek 18)] below meth c dC dI cy a A (fun r => vx_MQ below (xV dC dI cy a A [] z r) (xX dC dI cy a A [] z r) #[.ref (a 12), .ref (ek 18)] s mc ms A) [] z mc ms 3 (f_X6_writeWord__ek18 k 1) (fun z L => [(0, .ref (a 12)), (1, .ref (ek 18)), (2, .int (L.1 2))]) 2 (fun z L => [])) ∧ (bX p l e (headSpec w_f_X6_writeWord__ek18 ({ frames := 4, cells := mc, slots := ms, locals := 85 })).room s m #[.ref (a 12), .ref (ek 18)] below meth c dC dI cy a A (fun r => vx_MQ below (xV dC dI cy a A [] z r) (xX dC dI cy a A [] z r) #[.ref (a 12), .ref (ek 18)] s mc ms A) [] z mc ms 3 (f_X6_writeWord__ek18 k 2) (fun z L => []) 25 (fun z L => [])) := by
    intro k
    induction k with
    | zero => exact ⟨fun z c1 c2 L σ r h => (by cases h), fun z c1 c2 L σ r h => (by cases h), fun z c1 c2 L σ r h => (by cases h)⟩
    | succ k ih =>
      refine ⟨?_, ?_, ?_⟩
      · intro z cells slots L σ r h hzk hc hs H locs ls hP hD hS hl
        rw [f_X6_writeWord__ek18] at h
        refine lv_iconst (v := 0) hx hb dX6_writeWord_0 (by decide) ?_
        refine lv_istore_n (lv' := [(2, .int 0), (0, .ref (a 12)), (1, .ref (ek 18))]) hx hb dX6_writeWord_1 rfl hl (by decide) rfl (fun ls hl => ?_)
        exact ih.2.1 z _ _ (lI L 2 0) σ _ h hzk hc hs H locs ls hP hD hS (lv_sub hl [1, 2, 0] rfl)
      · intro z cells slots L σ r h hzk hc hs H locs ls hP hD hS hl
        rw [f_X6_writeWord__ek18] at h
        refine lv_iload_n hx hb dX6_writeWord_2 rfl (lv_at hl 2 rfl) ?_
        refine lv_aload_n hx hb dX6_writeWord_3 rfl (lv_at hl 1 rfl) ?_
        refine ks_i (va_runV (As := []) (rest := [.int (L.1 2)]) ⟨hx, hb, hml, hown, hts⟩ (c_J9_len l dC dI cy ek H.size) (cwV 0 hts g_f_X6_writeWord__ek18_wsJ0_length_8abf5_83 rfl rfl rfl (by decide +kernel) ⟨Nat.le_of_ble_eq_true rfl, Nat.le_of_ble_eq_true rfl⟩) ⟨nb_blindE, (vk_recv (i := 9) hE.2.2.1 (by decide) hS), fun U hU hW => ⟨rfl, ⟨by rw [hU], nb_nil, va_K.moved hW.alike hK, nb_nilD, hG.warm hW⟩, nE.to hE hS hW hU (va_free (wc := []) hD hS hA [] rfl)⟩⟩ rfl rfl hl.1 rfl (lv_room (Nat.le_of_ble_eq_true rfl)) dX6_writeWord_4 ⟨(Nat.le_trans (Nat.le_add_right _ _) (Nat.le_of_eq hc)), (Nat.le_trans (Nat.le_add_right _ _) (Nat.le_of_eq hs))⟩) hA hP hD hS (fun H locs hP hS => ?_)
        refine lv_icmp_ge (tgt := 25) hx hb dX6_writeWord_7 (by decide) (fun c1 => ?_) (fun c1 => ?_)
        · rw [if_pos c1] at h
          exact ih.2.2 z _ _ L σ _ h hzk hc hs H locs ls hP hD hS (lv_sub hl [] rfl)
        · rw [if_neg c1] at h
          refine lv_aload_n hx hb dX6_writeWord_10 rfl (lv_at hl 0 rfl) ?_
          refine lv_aload_n hx hb dX6_writeWord_11 rfl (lv_at hl 1 rfl) ?_
          refine lv_iload_n hx hb dX6_writeWord_12 rfl (lv_at hl 2 rfl) ?_
          obtain ⟨q2, h⟩ := kr_ite1 h
          have hch := c_J9_charAt l dC dI cy ek ((L.1 2)).toNatClampNeg q2.2 H.size
          rw [nI_back q2.1] at hch
          refine ks_i (va_runV (As := [.int (L.1 2)]) (rest := [.ref (a 12)]) ⟨hx, hb, hml, hown, hts⟩ hch (cwV 1 hts g_f_X6_writeWord__ek18_wsJ0_charAt_5068e_88 rfl rfl rfl (by decide +kernel) ⟨Nat.le_of_ble_eq_true rfl, Nat.le_of_ble_eq_true rfl⟩) ⟨nb_blindE, (vk_recv (i := 9) hE.2.2.1 (by decide) hS), fun U hU hW => ⟨rfl, ⟨by rw [hU], nb_nil, va_K.moved hW.alike hK, nb_nilD, hG.warm hW⟩, nE.to hE hS hW hU (va_free (wc := []) hD hS hA [] rfl)⟩⟩ rfl rfl hl.1 rfl (lv_room (Nat.le_of_ble_eq_true rfl)) dX6_writeWord_13 ⟨(Nat.le_trans (Nat.le_add_right _ _) (Nat.le_of_eq hc)), (Nat.le_trans (Nat.le_add_right _ _) (Nat.le_of_eq hs))⟩) hA hP hD hS (fun H locs hP hS => ?_)
          obtain ⟨r3, hc3, h⟩ := op_ex h
          refine kc_v (va_runV (As := [.int (sx9.getD ((L.1 2)).toNatClampNeg 0 &&& 255)]) (rest := []) ⟨hx, hb, hml, hown, hts⟩ (c_y_X6_put l dC dI cy a z k (lI lZ 1 ((sx9.getD ((L.1 2)).toNatClampNeg 0 &&& 255))) σ r3 hc3 H.size) (cwV 1 hts g_y_X6_writeWord__ek18_X6_put_V55 rfl rfl rfl hd_y_X6_put ⟨Nat.le_of_ble_eq_true rfl, Nat.le_of_ble_eq_true rfl⟩) ⟨nb_blind, va_recv hK hP (ci := 5) (q0 := 12) rfl rfl, (kb_pre hK hG hP hD)⟩ rfl rfl hl.1 rfl (lv_room (Nat.le_of_ble_eq_true rfl)) dX6_writeWord_16 ⟨(Nat.le_trans (Nat.le_add_right _ _) (Nat.le_of_eq hc)), (Nat.le_trans (Nat.le_add_right _ _) (Nat.le_of_eq hs))⟩) hA hP hD hS (fun H locs hP hD hS => ?_)
          refine lv_iinc (v := ((L.1 2)) + 1) (lv' := [(2, .int (((L.1 2)) + 1)), (0, .ref (a 12)), (1, .ref (ek 18))]) hx hb dX6_writeWord_19 hl (k := 2) rfl rfl (by decide) rfl (fun ls hl => ?_)
          refine lv_goto (tgt := 2) hx hb dX6_writeWord_22 (by decide) ?_
          exact ih.2.1 z _ _ (lI L 2 ((((L.1 2)) + 1))) r3.2 _ h hzk hc hs H locs ls hP hD hS (lv_sub hl [1, 2, 0] rfl)
      · intro z cells slots L σ r h hzk hc hs H locs ls hP hD hS hl
        rw [f_X6_writeWord__ek18] at h
        obtain rfl := Option.some.inj h
        subst hc
        subst hs
        exact xr_v hx hb hr hK hzk hP hD hS hlocks dX6_writeWord_25
  exact (blk k0).1 z 0 0 L0 σ0 r0 h0 (zk_rf _ _) ((Nat.zero_add _).trans hmc) ((Nat.zero_add _).trans hms) s.heap [] ls hP hD hS hl
/-! F1: X6.write, X6.writeRow -/
def t_X6_write (X : Nat → Nat → Nat → LV → CS → Option RS) (K d : Nat) (b : Nat) (L : LV) (σ : CS) : Option RS := match b with
  | 0 => op (y_X1_kind K 0 (lI lZ 1 ((L.1 1))) σ) (fun r1 => if r1.1 = (1 : Int32) then (X d 0 1 L r1.2) else (if r1.1 = (2 : Int32) then (X d 0 2 L r1.2) else (if r1.1 = (3 : Int32) then (X d 0 3 L r1.2) else (if r1.1 = (4 : Int32) then (X d 0 4 L r1.2) else (if r1.1 = (5 : Int32) then (X d 0 5 L r1.2) else (if r1.1 = (6 : Int32) then (X d 0 6 L r1.2) else (X d 0 7 L r1.2)))))))
  | 1 => if ((L.1 1)) = ((-1879048191)) then (X d 0 9 L σ) else (X d 0 8 L σ)
  | 2 => op (y_X10_writeDigits__a13 K 0 (lI (lI lZ 1 ((L.1 1))) 3 ((σ.1 1203))) σ) (fun r1 => X d 0 10 L (uI r1.2 1203 r1.1))
  | 3 => op (y_X6_put K 0 (lI lZ 1 35) σ) (fun r1 => op (y_X10_small K 0 (lI lZ 0 ((((L.1 1)) &&& 268435455))) r1.2) (fun r2 => op (y_X10_writeDigits__a13 K 0 (lI (lI lZ 1 r2.1) 3 ((r2.2.1 1203))) r2.2) (fun r3 => X d 0 10 L (uI r3.2 1203 r3.1))))
  | 4 => op (y_X6_put K 0 (lI lZ 1 34) σ) (fun r1 => op (y_X6_writeBytes K 0 (lI lZ 1 ((L.1 1))) r1.2) (fun r2 => op (y_X6_put K 0 (lI lZ 1 34) r2.2) (fun r3 => X d 0 10 L r3.2)))
  | 5 => of d (fun e1 => ox (X e1 1 0 (lI (lI (lI lZ 1 ((L.1 1))) 2 91) 3 93) σ) (fun r1 => X d 0 10 L r1.2.1))
  | 6 => of d (fun e1 => ox (X e1 1 0 (lI (lI (lI lZ 1 ((L.1 1))) 2 123) 3 125) σ) (fun r1 => X d 0 10 L r1.2.1))
  | 7 => ox (f_X6_writeWord__ek14 K 0 lZ σ) (fun r1 => X d 0 10 L r1.2.1)
  | 8 => X d 0 11 L σ
  | 9 => ox (f_X6_writeWord__ek16 K 0 lZ σ) (fun r1 => X d 0 10 L r1.2.1)
  | 10 => some ((0, 0), σ, (0, 0))
  | 11 => ox (f_X6_writeWord__ek18 K 0 lZ σ) (fun r1 => X d 0 10 L r1.2.1)
  | _ => none
theorem t_X6_write_0 (X : Nat → Nat → Nat → LV → CS → Option RS) (K d : Nat) (L : LV) (σ : CS) : t_X6_write X K d 0 L σ = (op (y_X1_kind K 0 (lI lZ 1 ((L.1 1))) σ) (fun r1 => if r1.1 = (1 : Int32) then (X d 0 1 L r1.2) else (if r1.1 = (2 : Int32) then (X d 0 2 L r1.2) else (if r1.1 = (3 : Int32) then (X d 0 3 L r1.2) else (if r1.1 = (4 : Int32) then (X d 0 4 L r1.2) else (if r1.1 = (5 : Int32) then (X d 0 5 L r1.2) else (if r1.1 = (6 : Int32) then (X d 0 6 L r1.2) else (X d 0 7 L r1.2)))))))) := rfl
theorem t_X6_write_1 (X : Nat → Nat → Nat → LV → CS → Option RS) (K d : Nat) (L : LV) (σ : CS) : t_X6_write X K d 1 L σ = (if ((L.1 1)) = ((-1879048191)) then (X d 0 9 L σ) else (X d 0 8 L σ)) := rfl
theorem t_X6_write_2 (X : Nat → Nat → Nat → LV → CS → Option RS) (K d : Nat) (L : LV) (σ : CS) : t_X6_write X K d 2 L σ = (op (y_X10_writeDigits__a13 K 0 (lI (lI lZ 1 ((L.1 1))) 3 ((σ.1 1203))) σ) (fun r1 => X d 0 10 L (uI r1.2 1203 r1.1))) := rfl
theorem t_X6_write_3 (X : Nat → Nat → Nat → LV → CS → Option RS) (K d : Nat) (L : LV) (σ : CS) : t_X6_write X K d 3 L σ = (op (y_X6_put K 0 (lI lZ 1 35) σ) (fun r1 => op (y_X10_small K 0 (lI lZ 0 ((((L.1 1)) &&& 268435455))) r1.2) (fun r2 => op (y_X10_writeDigits__a13 K 0 (lI (lI lZ 1 r2.1) 3 ((r2.2.1 1203))) r2.2) (fun r3 => X d 0 10 L (uI r3.2 1203 r3.1))))) := rfl
theorem t_X6_write_4 (X : Nat → Nat → Nat → LV → CS → Option RS) (K d : Nat) (L : LV) (σ : CS) : t_X6_write X K d 4 L σ = (op (y_X6_put K 0 (lI lZ 1 34) σ) (fun r1 => op (y_X6_writeBytes K 0 (lI lZ 1 ((L.1 1))) r1.2) (fun r2 => op (y_X6_put K 0 (lI lZ 1 34) r2.2) (fun r3 => X d 0 10 L r3.2)))) := rfl
theorem t_X6_write_5 (X : Nat → Nat → Nat → LV → CS → Option RS) (K d : Nat) (L : LV) (σ : CS) : t_X6_write X K d 5 L σ = (of d (fun e1 => ox (X e1 1 0 (lI (lI (lI lZ 1 ((L.1 1))) 2 91) 3 93) σ) (fun r1 => X d 0 10 L r1.2.1))) := rfl
theorem t_X6_write_6 (X : Nat → Nat → Nat → LV → CS → Option RS) (K d : Nat) (L : LV) (σ : CS) : t_X6_write X K d 6 L σ = (of d (fun e1 => ox (X e1 1 0 (lI (lI (lI lZ 1 ((L.1 1))) 2 123) 3 125) σ) (fun r1 => X d 0 10 L r1.2.1))) := rfl
theorem t_X6_write_7 (X : Nat → Nat → Nat → LV → CS → Option RS) (K d : Nat) (L : LV) (σ : CS) : t_X6_write X K d 7 L σ = (ox (f_X6_writeWord__ek14 K 0 lZ σ) (fun r1 => X d 0 10 L r1.2.1)) := rfl
theorem t_X6_write_8 (X : Nat → Nat → Nat → LV → CS → Option RS) (K d : Nat) (L : LV) (σ : CS) : t_X6_write X K d 8 L σ = (X d 0 11 L σ) := rfl
theorem t_X6_write_9 (X : Nat → Nat → Nat → LV → CS → Option RS) (K d : Nat) (L : LV) (σ : CS) : t_X6_write X K d 9 L σ = (ox (f_X6_writeWord__ek16 K 0 lZ σ) (fun r1 => X d 0 10 L r1.2.1)) := rfl
theorem t_X6_write_10 (X : Nat → Nat → Nat → LV → CS → Option RS) (K d : Nat) (L : LV) (σ : CS) : t_X6_write X K d 10 L σ = (some ((0, 0), σ, (0, 0))) := rfl
theorem t_X6_write_11 (X : Nat → Nat → Nat → LV → CS → Option RS) (K d : Nat) (L : LV) (σ : CS) : t_X6_write X K d 11 L σ = (ox (f_X6_writeWord__ek18 K 0 lZ σ) (fun r1 => X d 0 10 L r1.2.1)) := rfl
def t_X6_writeRow (X : Nat → Nat → Nat → LV → CS → Option RS) (K d : Nat) (b : Nat) (L : LV) (σ : CS) : Option RS := match b with
  | 0 => op (y_X6_put K 0 (lI lZ 1 ((L.1 2))) σ) (fun r1 => op (y_X1_length K 0 (lI lZ 1 ((L.1 1))) r1.2) (fun r2 => X d 1 1 (lI (lI L 4 r2.1) 5 0) r2.2))
  | 1 => if ((L.1 4)) ≤ ((L.1 5)) then (X d 1 2 L σ) else (if ((L.1 5)) ≤ 0 then (X d 1 3 L σ) else (op (y_X6_put K 0 (lI lZ 1 44) σ) (fun r3 => op (y_X6_put K 0 (lI lZ 1 32) r3.2) (fun r4 => X d 1 3 L r4.2))))
  | 2 => op (y_X6_put K 0 (lI lZ 1 ((L.1 3))) σ) (fun r1 => some ((0, 0), r1.2, (0, 0)))
  | 3 => op (y_X1_member K 0 (lI (lI lZ 1 ((L.1 1))) 2 ((L.1 5))) σ) (fun r1 => of d (fun e2 => ox (X e2 0 0 (lI lZ 1 r1.1) r1.2) (fun r2 => X d 1 1 (lI L 5 ((((L.1 5)) + 1))) r2.2.1)))
  | _ => none
theorem t_X6_writeRow_0 (X : Nat → Nat → Nat → LV → CS → Option RS) (K d : Nat) (L : LV) (σ : CS) : t_X6_writeRow X K d 0 L σ = (op (y_X6_put K 0 (lI lZ 1 ((L.1 2))) σ) (fun r1 => op (y_X1_length K 0 (lI lZ 1 ((L.1 1))) r1.2) (fun r2 => X d 1 1 (lI (lI L 4 r2.1) 5 0) r2.2))) := rfl
theorem t_X6_writeRow_1 (X : Nat → Nat → Nat → LV → CS → Option RS) (K d : Nat) (L : LV) (σ : CS) : t_X6_writeRow X K d 1 L σ = (if ((L.1 4)) ≤ ((L.1 5)) then (X d 1 2 L σ) else (if ((L.1 5)) ≤ 0 then (X d 1 3 L σ) else (op (y_X6_put K 0 (lI lZ 1 44) σ) (fun r3 => op (y_X6_put K 0 (lI lZ 1 32) r3.2) (fun r4 => X d 1 3 L r4.2))))) := rfl
theorem t_X6_writeRow_2 (X : Nat → Nat → Nat → LV → CS → Option RS) (K d : Nat) (L : LV) (σ : CS) : t_X6_writeRow X K d 2 L σ = (op (y_X6_put K 0 (lI lZ 1 ((L.1 3))) σ) (fun r1 => some ((0, 0), r1.2, (0, 0)))) := rfl
theorem t_X6_writeRow_3 (X : Nat → Nat → Nat → LV → CS → Option RS) (K d : Nat) (L : LV) (σ : CS) : t_X6_writeRow X K d 3 L σ = (op (y_X1_member K 0 (lI (lI lZ 1 ((L.1 1))) 2 ((L.1 5))) σ) (fun r1 => of d (fun e2 => ox (X e2 0 0 (lI lZ 1 r1.1) r1.2) (fun r2 => X d 1 1 (lI L 5 ((((L.1 5)) + 1))) r2.2.1)))) := rfl
def f_F1 : Nat → Nat → Nat → Nat → LV → CS → Option RS
  | 0 => fun _ _ _ _ _ => none
  | k + 1 => fun d m b L σ => match m with
    | 0 => t_X6_write (f_F1 k) k d b L σ
    | 1 => t_X6_writeRow (f_F1 k) k d b L σ
    | _ => none
theorem f_F1_0 (k d b : Nat) (L : LV) (σ : CS) : f_F1 (k + 1) d 0 b L σ = t_X6_write (f_F1 k) k d b L σ := rfl
theorem f_F1_1 (k d b : Nat) (L : LV) (σ : CS) : f_F1 (k + 1) d 1 b L σ = t_X6_writeRow (f_F1 k) k d b L σ := rfl
def o_f_F1 : List Cond := [.code yX6_write cX6_write 2 none, .code yX6_writeRow cX6_writeRow 6 none, .fieldLink RX6 15 "SetHouse$Printer" "heap" "LSetHouse$Heap;", .methodLink RX6 31 yX1_kind, .instanceMethod yX1_kind, .selects RX1 yX1_kind yX1_kind, .initialized RX1, .constant RX6 40 (-1879048191), .fieldLink RX6 19 "SetHouse$Printer" "wholes" "LSetHouse$Wholes;", .fieldLink RX6 11 "SetHouse$Printer" "text" "[B", .fieldLink RX6 23 "SetHouse$Printer" "length" "I", .methodLink RX6 49 yX10_writeDigits, .instanceMethod yX10_writeDigits, .selects RX10 yX10_writeDigits yX10_writeDigits, .initialized RX10, .methodLink RX6 55 yX6_put, .instanceMethod yX6_put, .selects RX6 yX6_put yX6_put, .initialized RX6, .constant RX6 58 (268435455), .methodLink RX6 59 yX10_small, .static yX10_small, .methodLink RX6 37 yX6_writeBytes, .instanceMethod yX6_writeBytes, .selects RX6 yX6_writeBytes yX6_writeBytes, .methodLink RX6 62 yX6_writeRow, .instanceMethod yX6_writeRow, .selects RX6 yX6_writeRow yX6_writeRow, .methodLink RX6 45 yX6_writeWord, .instanceMethod yX6_writeWord, .selects RX6 yX6_writeWord yX6_writeWord, .methodLink RX6 68 yX1_length, .instanceMethod yX1_length, .selects RX1 yX1_length yX1_length, .methodLink RX6 70 yX1_member, .instanceMethod yX1_member, .selects RX1 yX1_member yX1_member, .methodLink RX6 27 yX6_write, .instanceMethod yX6_write, .selects RX6 yX6_write yX6_write]
theorem o_f_F1_good : o_f_F1.all goodWord = true := by decide +kernel
def p_f_F1 : List Cond := o_f_F1 ++ ((.code yX1_kind cX1_kind 2 (some .int) :: p_y_X1_kind) ++ ((.code yX10_writeDigits cX10_writeDigits 8 (some .int) :: p_y_X10_writeDigits__a13) ++ ((.code yX6_put cX6_put 2 none :: p_y_X6_put) ++ ((.code yX10_small cX10_small 1 (some .int) :: p_y_X10_small) ++ ((.code yX6_writeBytes cX6_writeBytes 3 none :: p_y_X6_writeBytes) ++ ((.code yX6_writeWord cX6_writeWord 3 none :: p_f_X6_writeWord__ek14) ++ ((.code yX6_writeWord cX6_writeWord 3 none :: p_f_X6_writeWord__ek16) ++ ((.code yX6_writeWord cX6_writeWord 3 none :: p_f_X6_writeWord__ek18) ++ ((.code yX1_length cX1_length 2 (some .int) :: p_y_X1_length) ++ ((.code yX1_member cX1_member 3 (some .int) :: p_y_X1_member) ++ []))))))))))
theorem p_f_F1_good : p_f_F1.all goodWord = true := nb_all2 o_f_F1_good (nb_all2 (nb_allc (by decide +kernel) p_y_X1_kind_good) (nb_all2 (nb_allc (by decide +kernel) p_y_X10_writeDigits__a13_good) (nb_all2 (nb_allc (by decide +kernel) p_y_X6_put_good) (nb_all2 (nb_allc (by decide +kernel) p_y_X10_small_good) (nb_all2 (nb_allc (by decide +kernel) p_y_X6_writeBytes_good) (nb_all2 (nb_allc (by decide +kernel) p_f_X6_writeWord__ek14_good) (nb_all2 (nb_allc (by decide +kernel) p_f_X6_writeWord__ek16_good) (nb_all2 (nb_allc (by decide +kernel) p_f_X6_writeWord__ek18_good) (nb_all2 (nb_allc (by decide +kernel) p_y_X1_length_good) (nb_all2 (nb_allc (by decide +kernel) p_y_X1_member_good) rfl))))))))))
def w_f_X6_write : List Cond := .code yX6_write cX6_write 2 none :: (p_f_F1 ++ fC)
theorem w_f_X6_write_good : w_f_X6_write.all goodWord = true := nb_allc (by decide +kernel) (nb_all2 p_f_F1_good fC_good)
theorem in_f_X6_write_X6 : ∀ w ∈ wsX60, w ∈ w_f_X6_write := fun _ h => List.mem_cons_of_mem _ (List.mem_append_right _ (List.mem_append_right _ (List.mem_append_right _ (List.mem_append_right _ (List.mem_append_right _ (List.mem_append_right _ (List.mem_append_left _ h)))))))
theorem hd_f_X6_write : yX6_write.cls = RX6 ∧ yX6_write.cls ≠ "java/lang/invoke/MethodHandle" ∧ yX6_write.cls ≠ "java/lang/invoke/VarHandle" ∧ (parseMethodDescriptor yX6_write.desc).map (fun d => d.parameters.length) = some 1 := by decide +kernel
def w_f_X6_writeRow : List Cond := .code yX6_writeRow cX6_writeRow 6 none :: (p_f_F1 ++ fC)
theorem w_f_X6_writeRow_good : w_f_X6_writeRow.all goodWord = true := nb_allc (by decide +kernel) (nb_all2 p_f_F1_good fC_good)
theorem in_f_X6_writeRow_X6 : ∀ w ∈ wsX60, w ∈ w_f_X6_writeRow := fun _ h => List.mem_cons_of_mem _ (List.mem_append_right _ (List.mem_append_right _ (List.mem_append_right _ (List.mem_append_right _ (List.mem_append_right _ (List.mem_append_right _ (List.mem_append_left _ h)))))))
theorem hd_f_X6_writeRow : yX6_writeRow.cls = RX6 ∧ yX6_writeRow.cls ≠ "java/lang/invoke/MethodHandle" ∧ yX6_writeRow.cls ≠ "java/lang/invoke/VarHandle" ∧ (parseMethodDescriptor yX6_writeRow.desc).map (fun d => d.parameters.length) = some 3 := by decide +kernel
abbrev P_F1 (l : Launch) (dC : Nat → ClassId) (dI : Nat → Nat → Nat) (cy : Nat → ClassId) (ek a : Nat → Nat) (k0 : Nat) : Prop := (∀ (d : Nat) (L0 : LV) (σ0 : CS) (r0 : RS), f_F1 k0 d 0 0 L0 σ0 = some r0 → ∀ (z : Nat → Nat) (sz : Nat), vx_Met l yX6_write w_f_X6_write ({ frames := 5 + d, cells := r0.2.2.1, slots := r0.2.2.2, locals := 110 + 25 * d }) (va_Pc [.ref (a 12), .int (L0.1 1)] (nInF (dC, dI) cy ek sz (vC cy a z σ0))) (xV dC dI cy a (va_A (vC cy a z σ0) sz) [] z r0) (xX dC dI cy a (va_A (vC cy a z σ0) sz) [] z r0) r0.2.2.1 r0.2.2.2 (va_A (vC cy a z σ0) sz)) ∧ (∀ (d : Nat) (L0 : LV) (σ0 : CS) (r0 : RS), f_F1 k0 d 1 0 L0 σ0 = some r0 → ∀ (z : Nat → Nat) (sz : Nat), vx_Met l yX6_writeRow w_f_X6_writeRow ({ frames := 5 + d, cells := r0.2.2.1, slots := r0.2.2.2, locals := 110 + 25 * d }) (va_Pc [.ref (a 12), .int (L0.1 1), .int (L0.1 2), .int (L0.1 3)] (nInF (dC, dI) cy ek sz (vC cy a z σ0))) (xV dC dI cy a (va_A (vC cy a z σ0) sz) [] z r0) (xX dC dI cy a (va_A (vC cy a z σ0) sz) [] z r0) r0.2.2.1 r0.2.2.2 (va_A (vC cy a z σ0) sz))
theorem gg_f_X6_write_X6_writeRow : GoodIn w_f_X6_write w_f_X6_writeRow := goodIn_sub (fun w h => (List.mem_cons.mp h).elim (fun e => e ▸ (List.mem_cons_of_mem _ (List.mem_append_left _ (List.mem_append_left _ (List.mem_of_getElem? (i := 1) rfl))))) (fun h => List.mem_cons_of_mem _ h)) w_f_X6_writeRow_good
theorem g_f_X6_write_X6_writeRow_V62 : GoodIn w_f_X6_write (wsV RX6 62 RX6 yX6_writeRow w_f_X6_writeRow) := goodIn_app (nb_g4 (List.mem_cons_of_mem _ (List.mem_append_left _ (List.mem_append_left _ (List.mem_of_getElem? (i := 25) rfl)))) (List.mem_cons_of_mem _ (List.mem_append_left _ (List.mem_append_left _ (List.mem_of_getElem? (i := 26) rfl)))) (List.mem_cons_of_mem _ (List.mem_append_left _ (List.mem_append_left _ (List.mem_of_getElem? (i := 27) rfl)))) (List.mem_cons_of_mem _ (List.mem_append_left _ (List.mem_append_left _ (List.mem_of_getElem? (i := 18) rfl)))) (by decide +kernel)) gg_f_X6_write_X6_writeRow
theorem gg_f_X6_write_X6_writeWord__ek14 : GoodIn w_f_X6_write w_f_X6_writeWord__ek14 := goodIn_sub (fun w h => (List.mem_cons.mp h).elim (fun e => (List.mem_cons_of_mem _ (List.mem_append_left _ (List.mem_append_right _ (List.mem_append_right _ (List.mem_append_right _ (List.mem_append_right _ (List.mem_append_right _ (List.mem_append_right _ (List.mem_append_left _ (List.mem_cons.mpr (Or.inl e)))))))))))) (fun h => (List.mem_append.mp h).elim (fun h => (List.mem_cons_of_mem _ (List.mem_append_left _ (List.mem_append_right _ (List.mem_append_right _ (List.mem_append_right _ (List.mem_append_right _ (List.mem_append_right _ (List.mem_append_right _ (List.mem_append_left _ (List.mem_cons_of_mem _ h))))))))))) (fun h => List.mem_cons_of_mem _ (List.mem_append_right _ h)))) w_f_X6_writeWord__ek14_good
theorem g_f_X6_write_X6_writeWord__ek14_V45 : GoodIn w_f_X6_write (wsV RX6 45 RX6 yX6_writeWord w_f_X6_writeWord__ek14) := goodIn_app (nb_g4 (List.mem_cons_of_mem _ (List.mem_append_left _ (List.mem_append_left _ (List.mem_of_getElem? (i := 28) rfl)))) (List.mem_cons_of_mem _ (List.mem_append_left _ (List.mem_append_left _ (List.mem_of_getElem? (i := 29) rfl)))) (List.mem_cons_of_mem _ (List.mem_append_left _ (List.mem_append_left _ (List.mem_of_getElem? (i := 30) rfl)))) (List.mem_cons_of_mem _ (List.mem_append_left _ (List.mem_append_left _ (List.mem_of_getElem? (i := 18) rfl)))) (by decide +kernel)) gg_f_X6_write_X6_writeWord__ek14
theorem gg_f_X6_write_X6_writeWord__ek16 : GoodIn w_f_X6_write w_f_X6_writeWord__ek16 := goodIn_sub (fun w h => (List.mem_cons.mp h).elim (fun e => (List.mem_cons_of_mem _ (List.mem_append_left _ (List.mem_append_right _ (List.mem_append_right _ (List.mem_append_right _ (List.mem_append_right _ (List.mem_append_right _ (List.mem_append_right _ (List.mem_append_right _ (List.mem_append_left _ (List.mem_cons.mpr (Or.inl e))))))))))))) (fun h => (List.mem_append.mp h).elim (fun h => (List.mem_cons_of_mem _ (List.mem_append_left _ (List.mem_append_right _ (List.mem_append_right _ (List.mem_append_right _ (List.mem_append_right _ (List.mem_append_right _ (List.mem_append_right _ (List.mem_append_right _ (List.mem_append_left _ (List.mem_cons_of_mem _ h)))))))))))) (fun h => List.mem_cons_of_mem _ (List.mem_append_right _ h)))) w_f_X6_writeWord__ek16_good
theorem g_f_X6_write_X6_writeWord__ek16_V45 : GoodIn w_f_X6_write (wsV RX6 45 RX6 yX6_writeWord w_f_X6_writeWord__ek16) := goodIn_app (nb_g4 (List.mem_cons_of_mem _ (List.mem_append_left _ (List.mem_append_left _ (List.mem_of_getElem? (i := 28) rfl)))) (List.mem_cons_of_mem _ (List.mem_append_left _ (List.mem_append_left _ (List.mem_of_getElem? (i := 29) rfl)))) (List.mem_cons_of_mem _ (List.mem_append_left _ (List.mem_append_left _ (List.mem_of_getElem? (i := 30) rfl)))) (List.mem_cons_of_mem _ (List.mem_append_left _ (List.mem_append_left _ (List.mem_of_getElem? (i := 18) rfl)))) (by decide +kernel)) gg_f_X6_write_X6_writeWord__ek16
theorem gg_f_X6_write_X6_writeWord__ek18 : GoodIn w_f_X6_write w_f_X6_writeWord__ek18 := goodIn_sub (fun w h => (List.mem_cons.mp h).elim (fun e => (List.mem_cons_of_mem _ (List.mem_append_left _ (List.mem_append_right _ (List.mem_append_right _ (List.mem_append_right _ (List.mem_append_right _ (List.mem_append_right _ (List.mem_append_right _ (List.mem_append_right _ (List.mem_append_right _ (List.mem_append_left _ (List.mem_cons.mpr (Or.inl e)))))))))))))) (fun h => (List.mem_append.mp h).elim (fun h => (List.mem_cons_of_mem _ (List.mem_append_left _ (List.mem_append_right _ (List.mem_append_right _ (List.mem_append_right _ (List.mem_append_right _ (List.mem_append_right _ (List.mem_append_right _ (List.mem_append_right _ (List.mem_append_right _ (List.mem_append_left _ (List.mem_cons_of_mem _ h))))))))))))) (fun h => List.mem_cons_of_mem _ (List.mem_append_right _ h)))) w_f_X6_writeWord__ek18_good
theorem g_f_X6_write_X6_writeWord__ek18_V45 : GoodIn w_f_X6_write (wsV RX6 45 RX6 yX6_writeWord w_f_X6_writeWord__ek18) := goodIn_app (nb_g4 (List.mem_cons_of_mem _ (List.mem_append_left _ (List.mem_append_left _ (List.mem_of_getElem? (i := 28) rfl)))) (List.mem_cons_of_mem _ (List.mem_append_left _ (List.mem_append_left _ (List.mem_of_getElem? (i := 29) rfl)))) (List.mem_cons_of_mem _ (List.mem_append_left _ (List.mem_append_left _ (List.mem_of_getElem? (i := 30) rfl)))) (List.mem_cons_of_mem _ (List.mem_append_left _ (List.mem_append_left _ (List.mem_of_getElem? (i := 18) rfl)))) (by decide +kernel)) gg_f_X6_write_X6_writeWord__ek18
theorem gg_f_X6_write_X10_small : GoodIn w_f_X6_write w_y_X10_small := goodIn_sub (fun w h => (List.mem_cons.mp h).elim (fun e => (List.mem_cons_of_mem _ (List.mem_append_left _ (List.mem_append_right _ (List.mem_append_right _ (List.mem_append_right _ (List.mem_append_right _ (List.mem_append_left _ (List.mem_cons.mpr (Or.inl e)))))))))) (fun h => (List.mem_append.mp h).elim (fun h => (List.mem_cons_of_mem _ (List.mem_append_left _ (List.mem_append_right _ (List.mem_append_right _ (List.mem_append_right _ (List.mem_append_right _ (List.mem_append_left _ (List.mem_cons_of_mem _ h))))))))) (fun h => List.mem_cons_of_mem _ (List.mem_append_right _ h)))) w_y_X10_small_good
theorem g_y_X6_write_X10_small_S59 : GoodIn w_f_X6_write (va_wsS RX6 59 yX10_small w_y_X10_small) := goodIn_app (nb_g3 (List.mem_cons_of_mem _ (List.mem_append_left _ (List.mem_append_left _ (List.mem_of_getElem? (i := 20) rfl)))) (List.mem_cons_of_mem _ (List.mem_append_left _ (List.mem_append_left _ (List.mem_of_getElem? (i := 21) rfl)))) (List.mem_cons_of_mem _ (List.mem_append_left _ (List.mem_append_left _ (List.mem_of_getElem? (i := 14) rfl)))) (by decide +kernel)) gg_f_X6_write_X10_small
theorem gg_f_X6_write_X10_writeDigits__a13 : GoodIn w_f_X6_write w_y_X10_writeDigits__a13 := goodIn_sub (fun w h => (List.mem_cons.mp h).elim (fun e => (List.mem_cons_of_mem _ (List.mem_append_left _ (List.mem_append_right _ (List.mem_append_right _ (List.mem_append_left _ (List.mem_cons.mpr (Or.inl e)))))))) (fun h => (List.mem_append.mp h).elim (fun h => (List.mem_cons_of_mem _ (List.mem_append_left _ (List.mem_append_right _ (List.mem_append_right _ (List.mem_append_left _ (List.mem_cons_of_mem _ h))))))) (fun h => List.mem_cons_of_mem _ (List.mem_append_right _ h)))) w_y_X10_writeDigits__a13_good
theorem g_y_X6_write_X10_writeDigits__a13_V49 : GoodIn w_f_X6_write (wsV RX6 49 RX10 yX10_writeDigits w_y_X10_writeDigits__a13) := goodIn_app (nb_g4 (List.mem_cons_of_mem _ (List.mem_append_left _ (List.mem_append_left _ (List.mem_of_getElem? (i := 11) rfl)))) (List.mem_cons_of_mem _ (List.mem_append_left _ (List.mem_append_left _ (List.mem_of_getElem? (i := 12) rfl)))) (List.mem_cons_of_mem _ (List.mem_append_left _ (List.mem_append_left _ (List.mem_of_getElem? (i := 13) rfl)))) (List.mem_cons_of_mem _ (List.mem_append_left _ (List.mem_append_left _ (List.mem_of_getElem? (i := 14) rfl)))) (by decide +kernel)) gg_f_X6_write_X10_writeDigits__a13
theorem gg_f_X6_write_X1_kind : GoodIn w_f_X6_write w_y_X1_kind := goodIn_sub (fun w h => (List.mem_cons.mp h).elim (fun e => (List.mem_cons_of_mem _ (List.mem_append_left _ (List.mem_append_right _ (List.mem_append_left _ (List.mem_cons.mpr (Or.inl e))))))) (fun h => (List.mem_append.mp h).elim (fun h => (List.mem_cons_of_mem _ (List.mem_append_left _ (List.mem_append_right _ (List.mem_append_left _ (List.mem_cons_of_mem _ h)))))) (fun h => List.mem_cons_of_mem _ (List.mem_append_right _ h)))) w_y_X1_kind_good
theorem g_y_X6_write_X1_kind_V31 : GoodIn w_f_X6_write (wsV RX6 31 RX1 yX1_kind w_y_X1_kind) := goodIn_app (nb_g4 (List.mem_cons_of_mem _ (List.mem_append_left _ (List.mem_append_left _ (List.mem_of_getElem? (i := 3) rfl)))) (List.mem_cons_of_mem _ (List.mem_append_left _ (List.mem_append_left _ (List.mem_of_getElem? (i := 4) rfl)))) (List.mem_cons_of_mem _ (List.mem_append_left _ (List.mem_append_left _ (List.mem_of_getElem? (i := 5) rfl)))) (List.mem_cons_of_mem _ (List.mem_append_left _ (List.mem_append_left _ (List.mem_of_getElem? (i := 6) rfl)))) (by decide +kernel)) gg_f_X6_write_X1_kind
theorem gg_f_X6_write_X6_put : GoodIn w_f_X6_write w_y_X6_put := goodIn_sub (fun w h => (List.mem_cons.mp h).elim (fun e => (List.mem_cons_of_mem _ (List.mem_append_left _ (List.mem_append_right _ (List.mem_append_right _ (List.mem_append_right _ (List.mem_append_left _ (List.mem_cons.mpr (Or.inl e))))))))) (fun h => (List.mem_append.mp h).elim (fun h => (List.mem_cons_of_mem _ (List.mem_append_left _ (List.mem_append_right _ (List.mem_append_right _ (List.mem_append_right _ (List.mem_append_left _ (List.mem_cons_of_mem _ h)))))))) (fun h => List.mem_cons_of_mem _ (List.mem_append_right _ h)))) w_y_X6_put_good
theorem g_y_X6_write_X6_put_V55 : GoodIn w_f_X6_write (wsV RX6 55 RX6 yX6_put w_y_X6_put) := goodIn_app (nb_g4 (List.mem_cons_of_mem _ (List.mem_append_left _ (List.mem_append_left _ (List.mem_of_getElem? (i := 15) rfl)))) (List.mem_cons_of_mem _ (List.mem_append_left _ (List.mem_append_left _ (List.mem_of_getElem? (i := 16) rfl)))) (List.mem_cons_of_mem _ (List.mem_append_left _ (List.mem_append_left _ (List.mem_of_getElem? (i := 17) rfl)))) (List.mem_cons_of_mem _ (List.mem_append_left _ (List.mem_append_left _ (List.mem_of_getElem? (i := 18) rfl)))) (by decide +kernel)) gg_f_X6_write_X6_put
theorem gg_f_X6_write_X6_writeBytes : GoodIn w_f_X6_write w_y_X6_writeBytes := goodIn_sub (fun w h => (List.mem_cons.mp h).elim (fun e => (List.mem_cons_of_mem _ (List.mem_append_left _ (List.mem_append_right _ (List.mem_append_right _ (List.mem_append_right _ (List.mem_append_right _ (List.mem_append_right _ (List.mem_append_left _ (List.mem_cons.mpr (Or.inl e))))))))))) (fun h => (List.mem_append.mp h).elim (fun h => (List.mem_cons_of_mem _ (List.mem_append_left _ (List.mem_append_right _ (List.mem_append_right _ (List.mem_append_right _ (List.mem_append_right _ (List.mem_append_right _ (List.mem_append_left _ (List.mem_cons_of_mem _ h)))))))))) (fun h => List.mem_cons_of_mem _ (List.mem_append_right _ h)))) w_y_X6_writeBytes_good
theorem g_y_X6_write_X6_writeBytes_V37 : GoodIn w_f_X6_write (wsV RX6 37 RX6 yX6_writeBytes w_y_X6_writeBytes) := goodIn_app (nb_g4 (List.mem_cons_of_mem _ (List.mem_append_left _ (List.mem_append_left _ (List.mem_of_getElem? (i := 22) rfl)))) (List.mem_cons_of_mem _ (List.mem_append_left _ (List.mem_append_left _ (List.mem_of_getElem? (i := 23) rfl)))) (List.mem_cons_of_mem _ (List.mem_append_left _ (List.mem_append_left _ (List.mem_of_getElem? (i := 24) rfl)))) (List.mem_cons_of_mem _ (List.mem_append_left _ (List.mem_append_left _ (List.mem_of_getElem? (i := 18) rfl)))) (by decide +kernel)) gg_f_X6_write_X6_writeBytes
set_option maxHeartbeats 40000000 in
set_option maxRecDepth 100000 in
theorem c_t_X6_write (l : Launch) (hl0 : l.stackTraces = false) (dC : Nat → ClassId) (dI : Nat → Nat → Nat) (cy : Nat → ClassId) (ek a : Nat → Nat) (k0 : Nat) (IH : ∀ j : Nat, j < k0 → P_F1 l dC dI cy ek a j) (d : Nat) (L0 : LV) (σ0 : CS) (r0 : RS) (h0 : f_F1 k0 d 0 0 L0 σ0 = some r0) (z : Nat → Nat) (sz : Nat) : vx_Met l yX6_write w_f_X6_write ({ frames := 5 + d, cells := r0.2.2.1, slots := r0.2.2.2, locals := 110 + 25 * d }) (va_Pc [.ref (a 12), .int (L0.1 1)] (nInF (dC, dI) cy ek sz (vC cy a z σ0))) (xV dC dI cy a (va_A (vC cy a z σ0) sz) [] z r0) (xX dC dI cy a (va_A (vC cy a z σ0) sz) [] z r0) r0.2.2.1 r0.2.2.2 (va_A (vC cy a z σ0) sz) := by
  refine vx_ofW (cc := cX6_write) (maxL := 2) (ret := none) (by decide) rfl ?_
  intro p e s m args below meth c s₁ B hml hno hv
  obtain ⟨rfl, ⟨⟨hsz, hP, hK, hD0, hG⟩, hE⟩, hT⟩ := hv
  have hx := B.exec
  have hb := B.bytes
  have hr := B.returns
  have hts := atoms_spec (ws := w_f_X6_write) B.pre
  have hown : s.vm.findClass RX6 = some m.cls := findClass_of_methodNamed B.named
  have hlocks := B.notSynchronized
  subst hsz
  have hD := hD0.self (sz := s.heap.size)
  generalize hAe : va_A (vC cy a z σ0) s.heap.size = A at hD hE hT ⊢
  have hA : ∀ q : Nat, s.heap.size ≤ q → A q := fun q h => by rw [← hAe]; exact Or.inr h
  have hS : va_S A s.heap s.heap [] := va_S.rf
  have hl := lv_entry ([.ref (a 12), .int (L0.1 1)]) (n := 2) (Nat.le_of_ble_eq_true rfl)
  rw [lg_entry_eq]
  generalize (lg_sl ([.ref (a 12), .int (L0.1 1)]) ++ List.replicate (2 - (lg_sl ([.ref (a 12), .int (L0.1 1)])).length) Slot.unset).toArray = ls at hl ⊢
  have hl : lv_has ls 2 [(0, .ref (a 12)), (1, .int (L0.1 1))] := hl
  generalize hmc : r0.2.2.1 = mc
  generalize hms : r0.2.2.2 = ms
  have blk : ∀ k : Nat, k ≤ k0 → (bX p l e (headSpec w_f_X6_write ({ frames := 5 + d, cells := mc, slots := ms, locals := 110 + 25 * d })).room s m #[.ref (a 12), .int (L0.1 1)] below meth c dC dI cy a A (fun r => vx_MQ below (xV dC dI cy a A [] z r) (xX dC dI cy a A [] z r) #[.ref (a 12), .int (L0.1 1)] s mc ms A) [] z mc ms 2 (f_F1 k d 0 0) (fun z L => [(0, .ref (a 12)), (1, .int (L.1 1))]) 0 (fun z L => [])) ∧ (bX p l e (headSpec w_f_X6_write ({ frames := 5 + d, cells := mc, slots := ms, locals := 110 + 25 * d })).room s m #[.ref (a 12), .int (L0.1 1)] below meth c dC dI cy a A (fun r => vx_MQ below (xV dC dI cy a A [] z r) (xX dC dI cy a A [] z r) #[.ref (a 12), .int (L0.1 1)] s mc ms A) [] z mc ms 2 (f_F1 k d 0 1) (fun z L => [(0, .ref (a 12)), (1, .int (L.1 1))]) 48 (fun z L => [])) ∧ (bX p l e (headSpec w_f_X6_write ({ frames := 5 + d, cells := mc, slots := ms, locals := 110 + 25 * d })).room s m #[.ref (a 12), .int (L0.1 1)] below meth c dC dI cy a A (fun r => vx_MQ below (xV dC dI cy a A [] z r) (xX dC dI cy a A [] z r) #[.ref (a 12), .int (L0.1 1)] s mc ms A) [] z mc ms 2 (f_F1 k d 0 2) (fun z L => [(0, .ref (a 12)), (1, .int (L.1 1))]) 68 (fun z L => [])) ∧ (bX p l e (headSpec w_f_X6_write ({ frames := 5 + d, cells := mc, slots := ms, locals := 110 + 25 * d })).room s m #[.ref (a 12), .int (L0.1 1)] below meth c dC dI cy a A (fun r => vx_MQ below (xV dC dI cy a A [] z r) (xX dC dI cy a A [] z r) #[.ref (a 12), .int (L0.1 1)] s mc ms A) [] z mc ms 2 (f_F1 k d 0 3) (fun z L => [(0, .ref (a 12)), (1, .int (L.1 1))]) 91 (fun z L => [])) ∧ (bX p l e (headSpec w_f_X6_write ({ frames := 5 + d, cells := mc, slots := ms, locals := 110 + 25 * d })).room s m #[.ref (a 12), .int (L0.1 1)] below meth c dC dI cy a A (fun r => vx_MQ below (xV dC dI cy a A [] z r) (xX dC dI cy a A [] z r) #[.ref (a 12), .int (L0.1 1)] s mc ms A) [] z mc ms 2 (f_F1 k d 0 4) (fun z L => [(0, .ref (a 12)), (1, .int (L.1 1))]) 126 (fun z L => [])) ∧ (bX p l e (headSpec w_f_X6_write ({ frames := 5 + d, cells := mc, slots := ms, locals := 110 + 25 * d })).room s m #[.ref (a 12), .int (L0.1 1)] below meth c dC dI cy a A (fun r => vx_MQ below (xV dC dI cy a A [] z r) (xX dC dI cy a A [] z r) #[.ref (a 12), .int (L0.1 1)] s mc ms A) [] z mc ms 2 (f_F1 k d 0 5) (fun z L => [(0, .ref (a 12)), (1, .int (L.1 1))]) 146 (fun z L => [])) ∧ (bX p l e (headSpec w_f_X6_write ({ frames := 5 + d, cells := mc, slots := ms, locals := 110 + 25 * d })).room s m #[.ref (a 12), .int (L0.1 1)] below meth c dC dI cy a A (fun r => vx_MQ below (xV dC dI cy a A [] z r) (xX dC dI cy a A [] z r) #[.ref (a 12), .int (L0.1 1)] s mc ms A) [] z mc ms 2 (f_F1 k d 0 6) (fun z L => [(0, .ref (a 12)), (1, .int (L.1 1))]) 158 (fun z L => [])) ∧ (bX p l e (headSpec w_f_X6_write ({ frames := 5 + d, cells := mc, slots := ms, locals := 110 + 25 * d })).room s m #[.ref (a 12), .int (L0.1 1)] below meth c dC dI cy a A (fun r => vx_MQ below (xV dC dI cy a A [] z r) (xX dC dI cy a A [] z r) #[.ref (a 12), .int (L0.1 1)] s mc ms A) [] z mc ms 2 (f_F1 k d 0 7) (fun z L => [(0, .ref (a 12))]) 170 (fun z L => [])) ∧ (bX p l e (headSpec w_f_X6_write ({ frames := 5 + d, cells := mc, slots := ms, locals := 110 + 25 * d })).room s m #[.ref (a 12), .int (L0.1 1)] below meth c dC dI cy a A (fun r => vx_MQ below (xV dC dI cy a A [] z r) (xX dC dI cy a A [] z r) #[.ref (a 12), .int (L0.1 1)] s mc ms A) [] z mc ms 2 (f_F1 k d 0 8) (fun z L => []) 60 (fun z L => [.ref (a 12)])) ∧ (bX p l e (headSpec w_f_X6_write ({ frames := 5 + d, cells := mc, slots := ms, locals := 110 + 25 * d })).room s m #[.ref (a 12), .int (L0.1 1)] below meth c dC dI cy a A (fun r => vx_MQ below (xV dC dI cy a A [] z r) (xX dC dI cy a A [] z r) #[.ref (a 12), .int (L0.1 1)] s mc ms A) [] z mc ms 2 (f_F1 k d 0 9) (fun z L => []) 62 (fun z L => [.ref (ek 16), .ref (a 12)])) ∧ (bX p l e (headSpec w_f_X6_write ({ frames := 5 + d, cells := mc, slots := ms, locals := 110 + 25 * d })).room s m #[.ref (a 12), .int (L0.1 1)] below meth c dC dI cy a A (fun r => vx_MQ below (xV dC dI cy a A [] z r) (xX dC dI cy a A [] z r) #[.ref (a 12), .int (L0.1 1)] s mc ms A) [] z mc ms 2 (f_F1 k d 0 10) (fun z L => []) 176 (fun z L => [])) ∧ (bX p l e (headSpec w_f_X6_write ({ frames := 5 + d, cells := mc, slots := ms, locals := 110 + 25 * d })).room s m #[.ref (a 12), .int (L0.1 1)] below meth c dC dI cy a A (fun r => vx_MQ below (xV dC dI cy a A [] z r) (xX dC dI cy a A [] z r) #[.ref (a 12), .int (L0.1 1)] s mc ms A) [] z mc ms 2 (f_F1 k d 0 11) (fun z L => []) 62 (fun z L => [.ref (ek 18), .ref (a 12)])) := by
    intro k
    induction k with
    | zero => exact fun _ => ⟨fun z c1 c2 L σ r h => (by cases h), fun z c1 c2 L σ r h => (by cases h), fun z c1 c2 L σ r h => (by cases h), fun z c1 c2 L σ r h => (by cases h), fun z c1 c2 L σ r h => (by cases h), fun z c1 c2 L σ r h => (by cases h), fun z c1 c2 L σ r h => (by cases h), fun z c1 c2 L σ r h => (by cases h), fun z c1 c2 L σ r h => (by cases h), fun z c1 c2 L σ r h => (by cases h), fun z c1 c2 L σ r h => (by cases h), fun z c1 c2 L σ r h => (by cases h)⟩
    | succ k ih =>
      intro hk
      replace ih := ih (by omega)
      refine ⟨?_, ?_, ?_, ?_, ?_, ?_, ?_, ?_, ?_, ?_, ?_, ?_⟩
      · intro z cells slots L σ r h hzk hc hs H locs ls hP hD hS hl
        rw [f_F1_0, t_X6_write_0] at h
        refine lv_aload_n hx hb dX6_write_0 rfl (lv_at hl 0 rfl) ?_
        refine hg_12_0 hx hb hts in_f_X6_write_X6 hown hK hP (hts _ (List.mem_cons_of_mem _ (List.mem_append_left _ (List.mem_append_left _ (List.mem_of_getElem? (i := 2) rfl))))) dX6_write_1 ?_
        refine lv_iload_n hx hb dX6_write_4 rfl (lv_at hl 1 rfl) ?_
        obtain ⟨r1, hc1, h⟩ := op_ex h
        refine kc_i (va_runV (As := [.int (L.1 1)]) (rest := []) ⟨hx, hb, hml, hown, hts⟩ (c_y_X1_kind l dC dI cy a z k (lI lZ 1 ((L.1 1))) σ r1 hc1 H.size) (cwV 1 hts g_y_X6_write_X1_kind_V31 rfl rfl rfl hd_y_X1_kind (by show 0 + 1 ≤ 5 + d ∧ 8 + (2 + 11) + 0 ≤ 110 + 25 * d; omega)) ⟨nb_blind, va_recv hK hP (ci := 1) (q0 := 0) rfl rfl, (kb_pre hK hG hP hD)⟩ rfl rfl hl.1 rfl (lv_room (Nat.le_of_ble_eq_true rfl)) dX6_write_5 ⟨(Nat.le_trans (Nat.le_add_right _ _) (Nat.le_of_eq hc)), (Nat.le_trans (Nat.le_add_right _ _) (Nat.le_of_eq hs))⟩) hA hP hD hS (fun H locs hP hD hS => ?_)
        by_cases q2 : r1.1 = (1 : Int32)
        · rw [if_pos q2] at h
          refine lv_tableIn (off := 40) (tgt := 48) hx hb dX6_write_8 (by rw [q2]; decide) (by rw [q2]; decide) (by rw [q2]; decide) (by decide) ?_
          exact ih.2.1 z _ _ L r1.2 _ h hzk hc hs H locs ls hP hD hS (lv_sub hl [0, 1] rfl)
        · rw [if_neg q2] at h
          by_cases q3 : r1.1 = (2 : Int32)
          · rw [if_pos q3] at h
            refine lv_tableIn (off := 60) (tgt := 68) hx hb dX6_write_8 (by rw [q3]; decide) (by rw [q3]; decide) (by rw [q3]; decide) (by decide) ?_
            exact ih.2.2.1 z _ _ L r1.2 _ h hzk hc hs H locs ls hP hD hS (lv_sub hl [0, 1] rfl)
          · rw [if_neg q3] at h
            by_cases q4 : r1.1 = (3 : Int32)
            · rw [if_pos q4] at h
              refine lv_tableIn (off := 83) (tgt := 91) hx hb dX6_write_8 (by rw [q4]; decide) (by rw [q4]; decide) (by rw [q4]; decide) (by decide) ?_
              exact ih.2.2.2.1 z _ _ L r1.2 _ h hzk hc hs H locs ls hP hD hS (lv_sub hl [0, 1] rfl)
            · rw [if_neg q4] at h
              by_cases q5 : r1.1 = (4 : Int32)
              · rw [if_pos q5] at h
                refine lv_tableIn (off := 118) (tgt := 126) hx hb dX6_write_8 (by rw [q5]; decide) (by rw [q5]; decide) (by rw [q5]; decide) (by decide) ?_
                exact ih.2.2.2.2.1 z _ _ L r1.2 _ h hzk hc hs H locs ls hP hD hS (lv_sub hl [0, 1] rfl)
              · rw [if_neg q5] at h
                by_cases q6 : r1.1 = (5 : Int32)
                · rw [if_pos q6] at h
                  refine lv_tableIn (off := 138) (tgt := 146) hx hb dX6_write_8 (by rw [q6]; decide) (by rw [q6]; decide) (by rw [q6]; decide) (by decide) ?_
                  exact ih.2.2.2.2.2.1 z _ _ L r1.2 _ h hzk hc hs H locs ls hP hD hS (lv_sub hl [0, 1] rfl)
                · rw [if_neg q6] at h
                  by_cases q7 : r1.1 = (6 : Int32)
                  · rw [if_pos q7] at h
                    refine lv_tableIn (off := 150) (tgt := 158) hx hb dX6_write_8 (by rw [q7]; decide) (by rw [q7]; decide) (by rw [q7]; decide) (by decide) ?_
                    exact ih.2.2.2.2.2.2.1 z _ _ L r1.2 _ h hzk hc hs H locs ls hP hD hS (lv_sub hl [0, 1] rfl)
                  · rw [if_neg q7] at h
                    have nq2 : ¬ (r1.1).toInt = 1 := nb_ti q2 rfl
                    have nq3 : ¬ (r1.1).toInt = 2 := nb_ti q3 rfl
                    have nq4 : ¬ (r1.1).toInt = 3 := nb_ti q4 rfl
                    have nq5 : ¬ (r1.1).toInt = 4 := nb_ti q5 rfl
                    have nq6 : ¬ (r1.1).toInt = 5 := nb_ti q6 rfl
                    have nq7 : ¬ (r1.1).toInt = 6 := nb_ti q7 rfl
                    refine lv_tableOut (tgt := 170) hx hb dX6_write_8 (by omega) (by decide) ?_
                    exact ih.2.2.2.2.2.2.2.1 z _ _ L r1.2 _ h hzk hc hs H locs ls hP hD hS (lv_sub hl [0] rfl)
      · intro z cells slots L σ r h hzk hc hs H locs ls hP hD hS hl
        rw [f_F1_0, t_X6_write_1] at h
        refine lv_aload_n hx hb dX6_write_48 rfl (lv_at hl 0 rfl) ?_
        refine lv_iload_n hx hb dX6_write_49 rfl (lv_at hl 1 rfl) ?_
        refine lv_ldc (v := (-1879048191)) hx hb hown (hts _ (List.mem_cons_of_mem _ (List.mem_append_left _ (List.mem_append_left _ (List.mem_of_getElem? (i := 7) rfl))))) dX6_write_50 ?_
        refine lv_icmp_ne (tgt := 60) hx hb dX6_write_52 (by decide) (fun c1 => ?_) (fun c1 => ?_)
        · rw [if_neg c1] at h
          exact ih.2.2.2.2.2.2.2.2.1 z _ _ L σ _ h hzk hc hs H locs ls hP hD hS (lv_sub hl [] rfl)
        · rw [if_pos c1] at h
          refine va_ldcS hx hb hown (hE.2.2.2.1 _ (List.mem_of_getElem? (i := 8) rfl)) dX6_write_55 ?_
          refine lv_goto (tgt := 62) hx hb dX6_write_57 (by decide) ?_
          exact ih.2.2.2.2.2.2.2.2.2.1 z _ _ L σ _ h hzk hc hs H locs ls hP hD hS (lv_sub hl [] rfl)
      · intro z cells slots L σ r h hzk hc hs H locs ls hP hD hS hl
        rw [f_F1_0, t_X6_write_2] at h
        refine lv_aload_n hx hb dX6_write_68 rfl (lv_at hl 0 rfl) ?_
        refine lv_aload_n hx hb dX6_write_69 rfl (lv_at hl 0 rfl) ?_
        refine hg_12_1 hx hb hts in_f_X6_write_X6 hown hK hP (hts _ (List.mem_cons_of_mem _ (List.mem_append_left _ (List.mem_append_left _ (List.mem_of_getElem? (i := 8) rfl))))) dX6_write_70 ?_
        refine lv_iload_n hx hb dX6_write_73 rfl (lv_at hl 1 rfl) ?_
        refine lv_aload_n hx hb dX6_write_74 rfl (lv_at hl 0 rfl) ?_
        refine hg_12_2 hx hb hts in_f_X6_write_X6 hown hK hP (hts _ (List.mem_cons_of_mem _ (List.mem_append_left _ (List.mem_append_left _ (List.mem_of_getElem? (i := 9) rfl))))) dX6_write_75 ?_
        refine lv_aload_n hx hb dX6_write_78 rfl (lv_at hl 0 rfl) ?_
        refine hg_12_3 hx hb hts in_f_X6_write_X6 hown hK hP (hts _ (List.mem_cons_of_mem _ (List.mem_append_left _ (List.mem_append_left _ (List.mem_of_getElem? (i := 10) rfl))))) dX6_write_79 ?_
        obtain ⟨r1, hc1, h⟩ := op_ex h
        refine kc_i (va_runV (As := [.int (L.1 1), .ref (a 13), .int (σ.1 1203)]) (rest := [.ref (a 12)]) ⟨hx, hb, hml, hown, hts⟩ (c_y_X10_writeDigits__a13 l dC dI cy a z k (lI (lI lZ 1 ((L.1 1))) 3 ((σ.1 1203))) σ r1 hc1 H.size) (cwV 3 hts g_y_X6_write_X10_writeDigits__a13_V49 rfl rfl rfl hd_y_X10_writeDigits__a13 (by show 2 + 1 ≤ 5 + d ∧ 8 + (8 + 11) + 83 ≤ 110 + 25 * d; omega)) ⟨nb_blind, va_recv hK hP (ci := 9) (q0 := 4) rfl rfl, (kb_pre hK hG hP hD)⟩ rfl rfl hl.1 rfl (lv_room (Nat.le_of_ble_eq_true rfl)) dX6_write_82 ⟨(Nat.le_trans (Nat.le_add_right _ _) (Nat.le_of_eq hc)), (Nat.le_trans (Nat.le_add_right _ _) (Nat.le_of_eq hs))⟩) hA hP hD hS (fun H locs hP hD hS => ?_)
        refine hp_12_3 hx hb hts in_f_X6_write_X6 hown hK hP hD hS (hts _ (List.mem_cons_of_mem _ (List.mem_append_left _ (List.mem_append_left _ (List.mem_of_getElem? (i := 10) rfl))))) dX6_write_85 (fun H locs hP hD hS => ?_)
        refine lv_goto (tgt := 176) hx hb dX6_write_88 (by decide) ?_
        exact ih.2.2.2.2.2.2.2.2.2.2.1 z _ _ L (uI r1.2 1203 r1.1) _ h hzk hc hs H locs ls hP hD hS (lv_sub hl [] rfl)
      · intro z cells slots L σ r h hzk hc hs H locs ls hP hD hS hl
        rw [f_F1_0, t_X6_write_3] at h
        refine lv_aload_n hx hb dX6_write_91 rfl (lv_at hl 0 rfl) ?_
        refine lv_bipush (v := 35) hx hb dX6_write_92 (by decide) ?_
        obtain ⟨r1, hc1, h⟩ := op_ex h
        refine kc_v (va_runV (As := [.int 35]) (rest := []) ⟨hx, hb, hml, hown, hts⟩ (c_y_X6_put l dC dI cy a z k (lI lZ 1 35) σ r1 hc1 H.size) (cwV 1 hts g_y_X6_write_X6_put_V55 rfl rfl rfl hd_y_X6_put (by show 0 + 1 ≤ 5 + d ∧ 8 + (2 + 11) + 0 ≤ 110 + 25 * d; omega)) ⟨nb_blind, va_recv hK hP (ci := 5) (q0 := 12) rfl rfl, (kb_pre hK hG hP hD)⟩ rfl rfl hl.1 rfl (lv_room (Nat.le_of_ble_eq_true rfl)) dX6_write_94 ⟨(Nat.le_trans (Nat.le_add_right _ _) (Nat.le_of_eq hc)), (Nat.le_trans (Nat.le_add_right _ _) (Nat.le_of_eq hs))⟩) hA hP hD hS (fun H locs hP hD hS => ?_)
        refine lv_aload_n hx hb dX6_write_97 rfl (lv_at hl 0 rfl) ?_
        refine lv_aload_n hx hb dX6_write_98 rfl (lv_at hl 0 rfl) ?_
        refine hg_12_1 hx hb hts in_f_X6_write_X6 hown hK hP (hts _ (List.mem_cons_of_mem _ (List.mem_append_left _ (List.mem_append_left _ (List.mem_of_getElem? (i := 8) rfl))))) dX6_write_99 ?_
        refine lv_iload_n hx hb dX6_write_102 rfl (lv_at hl 1 rfl) ?_
        refine lv_ldc (v := 268435455) hx hb hown (hts _ (List.mem_cons_of_mem _ (List.mem_append_left _ (List.mem_append_left _ (List.mem_of_getElem? (i := 19) rfl))))) dX6_write_103 ?_
        refine lv_iand hx hb dX6_write_105 ?_
        obtain ⟨r2, hc2, h⟩ := op_ex h
        refine kc_i (va_runS (As := [.int (((L.1 1)) &&& 268435455)]) (rest := [.ref (a 4), .ref (a 12)]) ⟨hx, hb, hml, hown, hts⟩ (c_y_X10_small l dC dI cy a z k (lI lZ 0 ((((L.1 1)) &&& 268435455))) r1.2 r2 hc2 H.size) (va_cwS 1 hts g_y_X6_write_X10_small_S59 rfl rfl rfl hd_y_X10_small (by show 0 + 1 ≤ 5 + d ∧ 8 + (1 + 11) + 0 ≤ 110 + 25 * d; omega)) ⟨nb_blind, (kb_pre hK hG hP hD)⟩ rfl rfl hl.1 rfl (lv_room (Nat.le_of_ble_eq_true rfl)) dX6_write_106 ⟨(Nat.le_trans (Nat.le_add_right _ _) (Nat.le_of_eq hc)), (Nat.le_trans (Nat.le_add_right _ _) (Nat.le_of_eq hs))⟩) hA hP hD hS (fun H locs hP hD hS => ?_)
        refine lv_aload_n hx hb dX6_write_109 rfl (lv_at hl 0 rfl) ?_
        refine hg_12_2 hx hb hts in_f_X6_write_X6 hown hK hP (hts _ (List.mem_cons_of_mem _ (List.mem_append_left _ (List.mem_append_left _ (List.mem_of_getElem? (i := 9) rfl))))) dX6_write_110 ?_
        refine lv_aload_n hx hb dX6_write_113 rfl (lv_at hl 0 rfl) ?_
        refine hg_12_3 hx hb hts in_f_X6_write_X6 hown hK hP (hts _ (List.mem_cons_of_mem _ (List.mem_append_left _ (List.mem_append_left _ (List.mem_of_getElem? (i := 10) rfl))))) dX6_write_114 ?_
        obtain ⟨r3, hc3, h⟩ := op_ex h
        refine kc_i (va_runV (As := [.int r2.1, .ref (a 13), .int (r2.2.1 1203)]) (rest := [.ref (a 12)]) ⟨hx, hb, hml, hown, hts⟩ (c_y_X10_writeDigits__a13 l dC dI cy a z k (lI (lI lZ 1 r2.1) 3 ((r2.2.1 1203))) r2.2 r3 hc3 H.size) (cwV 3 hts g_y_X6_write_X10_writeDigits__a13_V49 rfl rfl rfl hd_y_X10_writeDigits__a13 (by show 2 + 1 ≤ 5 + d ∧ 8 + (8 + 11) + 83 ≤ 110 + 25 * d; omega)) ⟨nb_blind, va_recv hK hP (ci := 9) (q0 := 4) rfl rfl, (kb_pre hK hG hP hD)⟩ rfl rfl hl.1 rfl (lv_room (Nat.le_of_ble_eq_true rfl)) dX6_write_117 ⟨(Nat.le_trans (Nat.le_add_right _ _) (Nat.le_of_eq hc)), (Nat.le_trans (Nat.le_add_right _ _) (Nat.le_of_eq hs))⟩) hA hP hD hS (fun H locs hP hD hS => ?_)
        refine hp_12_3 hx hb hts in_f_X6_write_X6 hown hK hP hD hS (hts _ (List.mem_cons_of_mem _ (List.mem_append_left _ (List.mem_append_left _ (List.mem_of_getElem? (i := 10) rfl))))) dX6_write_120 (fun H locs hP hD hS => ?_)
        refine lv_goto (tgt := 176) hx hb dX6_write_123 (by decide) ?_
        exact ih.2.2.2.2.2.2.2.2.2.2.1 z _ _ L (uI r3.2 1203 r3.1) _ h hzk hc hs H locs ls hP hD hS (lv_sub hl [] rfl)
      · intro z cells slots L σ r h hzk hc hs H locs ls hP hD hS hl
        rw [f_F1_0, t_X6_write_4] at h
        refine lv_aload_n hx hb dX6_write_126 rfl (lv_at hl 0 rfl) ?_
        refine lv_bipush (v := 34) hx hb dX6_write_127 (by decide) ?_
        obtain ⟨r1, hc1, h⟩ := op_ex h
        refine kc_v (va_runV (As := [.int 34]) (rest := []) ⟨hx, hb, hml, hown, hts⟩ (c_y_X6_put l dC dI cy a z k (lI lZ 1 34) σ r1 hc1 H.size) (cwV 1 hts g_y_X6_write_X6_put_V55 rfl rfl rfl hd_y_X6_put (by show 0 + 1 ≤ 5 + d ∧ 8 + (2 + 11) + 0 ≤ 110 + 25 * d; omega)) ⟨nb_blind, va_recv hK hP (ci := 5) (q0 := 12) rfl rfl, (kb_pre hK hG hP hD)⟩ rfl rfl hl.1 rfl (lv_room (Nat.le_of_ble_eq_true rfl)) dX6_write_129 ⟨(Nat.le_trans (Nat.le_add_right _ _) (Nat.le_of_eq hc)), (Nat.le_trans (Nat.le_add_right _ _) (Nat.le_of_eq hs))⟩) hA hP hD hS (fun H locs hP hD hS => ?_)
        refine lv_aload_n hx hb dX6_write_132 rfl (lv_at hl 0 rfl) ?_
        refine lv_iload_n hx hb dX6_write_133 rfl (lv_at hl 1 rfl) ?_
        obtain ⟨r2, hc2, h⟩ := op_ex h
        refine kc_v (va_runV (As := [.int (L.1 1)]) (rest := []) ⟨hx, hb, hml, hown, hts⟩ (c_y_X6_writeBytes l dC dI cy a z k (lI lZ 1 ((L.1 1))) r1.2 r2 hc2 H.size) (cwV 1 hts g_y_X6_write_X6_writeBytes_V37 rfl rfl rfl hd_y_X6_writeBytes (by show 1 + 1 ≤ 5 + d ∧ 8 + (3 + 11) + 27 ≤ 110 + 25 * d; omega)) ⟨nb_blind, va_recv hK hP (ci := 5) (q0 := 12) rfl rfl, (kb_pre hK hG hP hD)⟩ rfl rfl hl.1 rfl (lv_room (Nat.le_of_ble_eq_true rfl)) dX6_write_134 ⟨(Nat.le_trans (Nat.le_add_right _ _) (Nat.le_of_eq hc)), (Nat.le_trans (Nat.le_add_right _ _) (Nat.le_of_eq hs))⟩) hA hP hD hS (fun H locs hP hD hS => ?_)
        refine lv_aload_n hx hb dX6_write_137 rfl (lv_at hl 0 rfl) ?_
        refine lv_bipush (v := 34) hx hb dX6_write_138 (by decide) ?_
        obtain ⟨r3, hc3, h⟩ := op_ex h
        refine kc_v (va_runV (As := [.int 34]) (rest := []) ⟨hx, hb, hml, hown, hts⟩ (c_y_X6_put l dC dI cy a z k (lI lZ 1 34) r2.2 r3 hc3 H.size) (cwV 1 hts g_y_X6_write_X6_put_V55 rfl rfl rfl hd_y_X6_put (by show 0 + 1 ≤ 5 + d ∧ 8 + (2 + 11) + 0 ≤ 110 + 25 * d; omega)) ⟨nb_blind, va_recv hK hP (ci := 5) (q0 := 12) rfl rfl, (kb_pre hK hG hP hD)⟩ rfl rfl hl.1 rfl (lv_room (Nat.le_of_ble_eq_true rfl)) dX6_write_140 ⟨(Nat.le_trans (Nat.le_add_right _ _) (Nat.le_of_eq hc)), (Nat.le_trans (Nat.le_add_right _ _) (Nat.le_of_eq hs))⟩) hA hP hD hS (fun H locs hP hD hS => ?_)
        refine lv_goto (tgt := 176) hx hb dX6_write_143 (by decide) ?_
        exact ih.2.2.2.2.2.2.2.2.2.2.1 z _ _ L r3.2 _ h hzk hc hs H locs ls hP hD hS (lv_sub hl [] rfl)
      · intro z cells slots L σ r h hzk hc hs H locs ls hP hD hS hl
        rw [f_F1_0, t_X6_write_5] at h
        refine lv_aload_n hx hb dX6_write_146 rfl (lv_at hl 0 rfl) ?_
        refine lv_iload_n hx hb dX6_write_147 rfl (lv_at hl 1 rfl) ?_
        refine lv_bipush (v := 91) hx hb dX6_write_148 (by decide) ?_
        refine lv_bipush (v := 93) hx hb dX6_write_150 (by decide) ?_
        obtain ⟨e1, he1, h⟩ := of_ex h
        obtain ⟨r1, hc1, hle1, h9⟩ := ox_ex h
        clear h
        refine kx_v (vx_runV (As := [.int (L.1 1), .int 91, .int 93]) (rest := []) ⟨hx, hb, hml, hown, hts⟩ ((IH k (by omega)).2 e1 (lI (lI (lI lZ 1 ((L.1 1))) 2 91) 3 93) σ r1 hc1 z H.size) (cwV 3 hts g_f_X6_write_X6_writeRow_V62 rfl rfl rfl hd_f_X6_writeRow (by show (5 + e1) + 1 ≤ 5 + d ∧ 8 + (6 + 11) + (110 + 25 * e1) ≤ 110 + 25 * d; omega)) ⟨nb_blindF, va_recv hK hP (ci := 5) (q0 := 12) rfl rfl, (kx_pre hK hG hE hT hA hP hD hS)⟩ rfl rfl hl.1 rfl (lv_room (Nat.le_of_ble_eq_true rfl)) dX6_write_152 ⟨Nat.le_trans (Nat.add_le_add_left hle1.1 _) (Nat.le_of_eq hc), Nat.le_trans (Nat.add_le_add_left hle1.2 _) (Nat.le_of_eq hs)⟩) hK hA hzk hP hD hS (by decide) hno hlocks ?_
        rcases h9 with ⟨h00, y1, hny1, hy⟩ | ⟨h00, hy⟩
        · subst hy
          have h := hny1
          refine Or.inl ⟨h00, fun u H locs hz1 hzk hP hD hS => ?_⟩
          obtain rfl := (zk_nil hz1).symm
          replace hc := (Nat.add_assoc _ _ _).trans hc
          replace hs := (Nat.add_assoc _ _ _).trans hs
          refine lv_goto (tgt := 176) hx hb dX6_write_155 (by decide) ?_
          exact ih.2.2.2.2.2.2.2.2.2.2.1 z _ _ L r1.2.1 _ h hzk hc hs H locs ls hP hD hS (lv_sub hl [] rfl)
        · subst hy
          exact Or.inr ⟨h00, rfl, hc, hs⟩
      · intro z cells slots L σ r h hzk hc hs H locs ls hP hD hS hl
        rw [f_F1_0, t_X6_write_6] at h
        refine lv_aload_n hx hb dX6_write_158 rfl (lv_at hl 0 rfl) ?_
        refine lv_iload_n hx hb dX6_write_159 rfl (lv_at hl 1 rfl) ?_
        refine lv_bipush (v := 123) hx hb dX6_write_160 (by decide) ?_
        refine lv_bipush (v := 125) hx hb dX6_write_162 (by decide) ?_
        obtain ⟨e1, he1, h⟩ := of_ex h
        obtain ⟨r1, hc1, hle1, h9⟩ := ox_ex h
        clear h
        refine kx_v (vx_runV (As := [.int (L.1 1), .int 123, .int 125]) (rest := []) ⟨hx, hb, hml, hown, hts⟩ ((IH k (by omega)).2 e1 (lI (lI (lI lZ 1 ((L.1 1))) 2 123) 3 125) σ r1 hc1 z H.size) (cwV 3 hts g_f_X6_write_X6_writeRow_V62 rfl rfl rfl hd_f_X6_writeRow (by show (5 + e1) + 1 ≤ 5 + d ∧ 8 + (6 + 11) + (110 + 25 * e1) ≤ 110 + 25 * d; omega)) ⟨nb_blindF, va_recv hK hP (ci := 5) (q0 := 12) rfl rfl, (kx_pre hK hG hE hT hA hP hD hS)⟩ rfl rfl hl.1 rfl (lv_room (Nat.le_of_ble_eq_true rfl)) dX6_write_164 ⟨Nat.le_trans (Nat.add_le_add_left hle1.1 _) (Nat.le_of_eq hc), Nat.le_trans (Nat.add_le_add_left hle1.2 _) (Nat.le_of_eq hs)⟩) hK hA hzk hP hD hS (by decide) hno hlocks ?_
        rcases h9 with ⟨h00, y1, hny1, hy⟩ | ⟨h00, hy⟩
        · subst hy
          have h := hny1
          refine Or.inl ⟨h00, fun u H locs hz1 hzk hP hD hS => ?_⟩
          obtain rfl := (zk_nil hz1).symm
          replace hc := (Nat.add_assoc _ _ _).trans hc
          replace hs := (Nat.add_assoc _ _ _).trans hs
          refine lv_goto (tgt := 176) hx hb dX6_write_167 (by decide) ?_
          exact ih.2.2.2.2.2.2.2.2.2.2.1 z _ _ L r1.2.1 _ h hzk hc hs H locs ls hP hD hS (lv_sub hl [] rfl)
        · subst hy
          exact Or.inr ⟨h00, rfl, hc, hs⟩
      · intro z cells slots L σ r h hzk hc hs H locs ls hP hD hS hl
        rw [f_F1_0, t_X6_write_7] at h
        refine lv_aload_n hx hb dX6_write_170 rfl (lv_at hl 0 rfl) ?_
        refine va_ldcS hx hb hown (hE.2.2.2.1 _ (List.mem_of_getElem? (i := 10) rfl)) dX6_write_171 ?_
        obtain ⟨r1, hc1, hle1, h9⟩ := ox_ex h
        clear h
        refine kx_v (vx_runV (As := [.ref (ek 14)]) (rest := []) ⟨hx, hb, hml, hown, hts⟩ (c_f_X6_writeWord__ek14 l hl0 dC dI cy ek a k lZ σ r1 hc1 z H.size) (cwV 1 hts g_f_X6_write_X6_writeWord__ek14_V45 rfl rfl rfl hd_f_X6_writeWord__ek14 (by show 4 + 1 ≤ 5 + d ∧ 8 + (3 + 11) + 85 ≤ 110 + 25 * d; omega)) ⟨nb_blindF, va_recv hK hP (ci := 5) (q0 := 12) rfl rfl, (kx_pre hK hG hE hT hA hP hD hS)⟩ rfl rfl hl.1 rfl (lv_room (Nat.le_of_ble_eq_true rfl)) dX6_write_173 ⟨Nat.le_trans (Nat.add_le_add_left hle1.1 _) (Nat.le_of_eq hc), Nat.le_trans (Nat.add_le_add_left hle1.2 _) (Nat.le_of_eq hs)⟩) hK hA hzk hP hD hS (by decide) hno hlocks ?_
        rcases h9 with ⟨h00, y1, hny1, hy⟩ | ⟨h00, hy⟩
        · subst hy
          have h := hny1
          refine Or.inl ⟨h00, fun u H locs hz1 hzk hP hD hS => ?_⟩
          obtain rfl := (zk_nil hz1).symm
          replace hc := (Nat.add_assoc _ _ _).trans hc
          replace hs := (Nat.add_assoc _ _ _).trans hs
          exact ih.2.2.2.2.2.2.2.2.2.2.1 z _ _ L r1.2.1 _ h hzk hc hs H locs ls hP hD hS (lv_sub hl [] rfl)
        · subst hy
          exact Or.inr ⟨h00, rfl, hc, hs⟩
      · intro z cells slots L σ r h hzk hc hs H locs ls hP hD hS hl
        rw [f_F1_0, t_X6_write_8] at h
        refine va_ldcS hx hb hown (hE.2.2.2.1 _ (List.mem_of_getElem? (i := 9) rfl)) dX6_write_60 ?_
        exact ih.2.2.2.2.2.2.2.2.2.2.2 z _ _ L σ _ h hzk hc hs H locs ls hP hD hS (lv_sub hl [] rfl)
      · intro z cells slots L σ r h hzk hc hs H locs ls hP hD hS hl
        rw [f_F1_0, t_X6_write_9] at h
        obtain ⟨r1, hc1, hle1, h9⟩ := ox_ex h
        clear h
        refine kx_v (vx_runV (As := [.ref (ek 16)]) (rest := []) ⟨hx, hb, hml, hown, hts⟩ (c_f_X6_writeWord__ek16 l hl0 dC dI cy ek a k lZ σ r1 hc1 z H.size) (cwV 1 hts g_f_X6_write_X6_writeWord__ek16_V45 rfl rfl rfl hd_f_X6_writeWord__ek16 (by show 4 + 1 ≤ 5 + d ∧ 8 + (3 + 11) + 85 ≤ 110 + 25 * d; omega)) ⟨nb_blindF, va_recv hK hP (ci := 5) (q0 := 12) rfl rfl, (kx_pre hK hG hE hT hA hP hD hS)⟩ rfl rfl hl.1 rfl (lv_room (Nat.le_of_ble_eq_true rfl)) dX6_write_62 ⟨Nat.le_trans (Nat.add_le_add_left hle1.1 _) (Nat.le_of_eq hc), Nat.le_trans (Nat.add_le_add_left hle1.2 _) (Nat.le_of_eq hs)⟩) hK hA hzk hP hD hS (by decide) hno hlocks ?_
        rcases h9 with ⟨h00, y1, hny1, hy⟩ | ⟨h00, hy⟩
        · subst hy
          have h := hny1
          refine Or.inl ⟨h00, fun u H locs hz1 hzk hP hD hS => ?_⟩
          obtain rfl := (zk_nil hz1).symm
          replace hc := (Nat.add_assoc _ _ _).trans hc
          replace hs := (Nat.add_assoc _ _ _).trans hs
          refine lv_goto (tgt := 176) hx hb dX6_write_65 (by decide) ?_
          exact ih.2.2.2.2.2.2.2.2.2.2.1 z _ _ L r1.2.1 _ h hzk hc hs H locs ls hP hD hS (lv_sub hl [] rfl)
        · subst hy
          exact Or.inr ⟨h00, rfl, hc, hs⟩
      · intro z cells slots L σ r h hzk hc hs H locs ls hP hD hS hl
        rw [f_F1_0, t_X6_write_10] at h
        obtain rfl := Option.some.inj h
        subst hc
        subst hs
        exact xr_v hx hb hr hK hzk hP hD hS hlocks dX6_write_176
      · intro z cells slots L σ r h hzk hc hs H locs ls hP hD hS hl
        rw [f_F1_0, t_X6_write_11] at h
        obtain ⟨r1, hc1, hle1, h9⟩ := ox_ex h
        clear h
        refine kx_v (vx_runV (As := [.ref (ek 18)]) (rest := []) ⟨hx, hb, hml, hown, hts⟩ (c_f_X6_writeWord__ek18 l hl0 dC dI cy ek a k lZ σ r1 hc1 z H.size) (cwV 1 hts g_f_X6_write_X6_writeWord__ek18_V45 rfl rfl rfl hd_f_X6_writeWord__ek18 (by show 4 + 1 ≤ 5 + d ∧ 8 + (3 + 11) + 85 ≤ 110 + 25 * d; omega)) ⟨nb_blindF, va_recv hK hP (ci := 5) (q0 := 12) rfl rfl, (kx_pre hK hG hE hT hA hP hD hS)⟩ rfl rfl hl.1 rfl (lv_room (Nat.le_of_ble_eq_true rfl)) dX6_write_62 ⟨Nat.le_trans (Nat.add_le_add_left hle1.1 _) (Nat.le_of_eq hc), Nat.le_trans (Nat.add_le_add_left hle1.2 _) (Nat.le_of_eq hs)⟩) hK hA hzk hP hD hS (by decide) hno hlocks ?_
        rcases h9 with ⟨h00, y1, hny1, hy⟩ | ⟨h00, hy⟩
        · subst hy
          have h := hny1
          refine Or.inl ⟨h00, fun u H locs hz1 hzk hP hD hS => ?_⟩
          obtain rfl := (zk_nil hz1).symm
          replace hc := (Nat.add_assoc _ _ _).trans hc
          replace hs := (Nat.add_assoc _ _ _).trans hs
          refine lv_goto (tgt := 176) hx hb dX6_write_65 (by decide) ?_
          exact ih.2.2.2.2.2.2.2.2.2.2.1 z _ _ L r1.2.1 _ h hzk hc hs H locs ls hP hD hS (lv_sub hl [] rfl)
        · subst hy
          exact Or.inr ⟨h00, rfl, hc, hs⟩
  exact (blk k0 (Nat.le_refl _)).1 z 0 0 L0 σ0 r0 h0 (zk_rf _ _) ((Nat.zero_add _).trans hmc) ((Nat.zero_add _).trans hms) s.heap [] ls hP hD hS hl
theorem gg_f_X6_writeRow_X6_write : GoodIn w_f_X6_writeRow w_f_X6_write := goodIn_sub (fun w h => (List.mem_cons.mp h).elim (fun e => e ▸ (List.mem_cons_of_mem _ (List.mem_append_left _ (List.mem_append_left _ (List.mem_of_getElem? (i := 0) rfl))))) (fun h => List.mem_cons_of_mem _ h)) w_f_X6_write_good
theorem g_f_X6_writeRow_X6_write_V27 : GoodIn w_f_X6_writeRow (wsV RX6 27 RX6 yX6_write w_f_X6_write) := goodIn_app (nb_g4 (List.mem_cons_of_mem _ (List.mem_append_left _ (List.mem_append_left _ (List.mem_of_getElem? (i := 37) rfl)))) (List.mem_cons_of_mem _ (List.mem_append_left _ (List.mem_append_left _ (List.mem_of_getElem? (i := 38) rfl)))) (List.mem_cons_of_mem _ (List.mem_append_left _ (List.mem_append_left _ (List.mem_of_getElem? (i := 39) rfl)))) (List.mem_cons_of_mem _ (List.mem_append_left _ (List.mem_append_left _ (List.mem_of_getElem? (i := 18) rfl)))) (by decide +kernel)) gg_f_X6_writeRow_X6_write
theorem gg_f_X6_writeRow_X1_length : GoodIn w_f_X6_writeRow w_y_X1_length := goodIn_sub (fun w h => (List.mem_cons.mp h).elim (fun e => (List.mem_cons_of_mem _ (List.mem_append_left _ (List.mem_append_right _ (List.mem_append_right _ (List.mem_append_right _ (List.mem_append_right _ (List.mem_append_right _ (List.mem_append_right _ (List.mem_append_right _ (List.mem_append_right _ (List.mem_append_right _ (List.mem_append_left _ (List.mem_cons.mpr (Or.inl e))))))))))))))) (fun h => (List.mem_append.mp h).elim (fun h => (List.mem_cons_of_mem _ (List.mem_append_left _ (List.mem_append_right _ (List.mem_append_right _ (List.mem_append_right _ (List.mem_append_right _ (List.mem_append_right _ (List.mem_append_right _ (List.mem_append_right _ (List.mem_append_right _ (List.mem_append_right _ (List.mem_append_left _ (List.mem_cons_of_mem _ h)))))))))))))) (fun h => List.mem_cons_of_mem _ (List.mem_append_right _ h)))) w_y_X1_length_good
theorem g_y_X6_writeRow_X1_length_V68 : GoodIn w_f_X6_writeRow (wsV RX6 68 RX1 yX1_length w_y_X1_length) := goodIn_app (nb_g4 (List.mem_cons_of_mem _ (List.mem_append_left _ (List.mem_append_left _ (List.mem_of_getElem? (i := 31) rfl)))) (List.mem_cons_of_mem _ (List.mem_append_left _ (List.mem_append_left _ (List.mem_of_getElem? (i := 32) rfl)))) (List.mem_cons_of_mem _ (List.mem_append_left _ (List.mem_append_left _ (List.mem_of_getElem? (i := 33) rfl)))) (List.mem_cons_of_mem _ (List.mem_append_left _ (List.mem_append_left _ (List.mem_of_getElem? (i := 6) rfl)))) (by decide +kernel)) gg_f_X6_writeRow_X1_length
theorem gg_f_X6_writeRow_X1_member : GoodIn w_f_X6_writeRow w_y_X1_member := goodIn_sub (fun w h => (List.mem_cons.mp h).elim (fun e => (List.mem_cons_of_mem _ (List.mem_append_left _ (List.mem_append_right _ (List.mem_append_right _ (List.mem_append_right _ (List.mem_append_right _ (List.mem_append_right _ (List.mem_append_right _ (List.mem_append_right _ (List.mem_append_right _ (List.mem_append_right _ (List.mem_append_right _ (List.mem_append_left _ (List.mem_cons.mpr (Or.inl e)))))))))))))))) (fun h => (List.mem_append.mp h).elim (fun h => (List.mem_cons_of_mem _ (List.mem_append_left _ (List.mem_append_right _ (List.mem_append_right _ (List.mem_append_right _ (List.mem_append_right _ (List.mem_append_right _ (List.mem_append_right _ (List.mem_append_right _ (List.mem_append_right _ (List.mem_append_right _ (List.mem_append_right _ (List.mem_append_left _ (List.mem_cons_of_mem _ h))))))))))))))) (fun h => List.mem_cons_of_mem _ (List.mem_append_right _ h)))) w_y_X1_member_good
theorem g_y_X6_writeRow_X1_member_V70 : GoodIn w_f_X6_writeRow (wsV RX6 70 RX1 yX1_member w_y_X1_member) := goodIn_app (nb_g4 (List.mem_cons_of_mem _ (List.mem_append_left _ (List.mem_append_left _ (List.mem_of_getElem? (i := 34) rfl)))) (List.mem_cons_of_mem _ (List.mem_append_left _ (List.mem_append_left _ (List.mem_of_getElem? (i := 35) rfl)))) (List.mem_cons_of_mem _ (List.mem_append_left _ (List.mem_append_left _ (List.mem_of_getElem? (i := 36) rfl)))) (List.mem_cons_of_mem _ (List.mem_append_left _ (List.mem_append_left _ (List.mem_of_getElem? (i := 6) rfl)))) (by decide +kernel)) gg_f_X6_writeRow_X1_member
theorem gg_f_X6_writeRow_X6_put : GoodIn w_f_X6_writeRow w_y_X6_put := goodIn_sub (fun w h => (List.mem_cons.mp h).elim (fun e => (List.mem_cons_of_mem _ (List.mem_append_left _ (List.mem_append_right _ (List.mem_append_right _ (List.mem_append_right _ (List.mem_append_left _ (List.mem_cons.mpr (Or.inl e))))))))) (fun h => (List.mem_append.mp h).elim (fun h => (List.mem_cons_of_mem _ (List.mem_append_left _ (List.mem_append_right _ (List.mem_append_right _ (List.mem_append_right _ (List.mem_append_left _ (List.mem_cons_of_mem _ h)))))))) (fun h => List.mem_cons_of_mem _ (List.mem_append_right _ h)))) w_y_X6_put_good
theorem g_y_X6_writeRow_X6_put_V55 : GoodIn w_f_X6_writeRow (wsV RX6 55 RX6 yX6_put w_y_X6_put) := goodIn_app (nb_g4 (List.mem_cons_of_mem _ (List.mem_append_left _ (List.mem_append_left _ (List.mem_of_getElem? (i := 15) rfl)))) (List.mem_cons_of_mem _ (List.mem_append_left _ (List.mem_append_left _ (List.mem_of_getElem? (i := 16) rfl)))) (List.mem_cons_of_mem _ (List.mem_append_left _ (List.mem_append_left _ (List.mem_of_getElem? (i := 17) rfl)))) (List.mem_cons_of_mem _ (List.mem_append_left _ (List.mem_append_left _ (List.mem_of_getElem? (i := 18) rfl)))) (by decide +kernel)) gg_f_X6_writeRow_X6_put
set_option maxHeartbeats 40000000 in
set_option maxRecDepth 100000 in
theorem c_t_X6_writeRow (l : Launch) (hl0 : l.stackTraces = false) (dC : Nat → ClassId) (dI : Nat → Nat → Nat) (cy : Nat → ClassId) (ek a : Nat → Nat) (k0 : Nat) (IH : ∀ j : Nat, j < k0 → P_F1 l dC dI cy ek a j) (d : Nat) (L0 : LV) (σ0 : CS) (r0 : RS) (h0 : f_F1 k0 d 1 0 L0 σ0 = some r0) (z : Nat → Nat) (sz : Nat) : vx_Met l yX6_writeRow w_f_X6_writeRow ({ frames := 5 + d, cells := r0.2.2.1, slots := r0.2.2.2, locals := 110 + 25 * d }) (va_Pc [.ref (a 12), .int (L0.1 1), .int (L0.1 2), .int (L0.1 3)] (nInF (dC, dI) cy ek sz (vC cy a z σ0))) (xV dC dI cy a (va_A (vC cy a z σ0) sz) [] z r0) (xX dC dI cy a (va_A (vC cy a z σ0) sz) [] z r0) r0.2.2.1 r0.2.2.2 (va_A (vC cy a z σ0) sz) := by
  refine vx_ofW (cc := cX6_writeRow) (maxL := 6) (ret := none) (by decide) rfl ?_
  intro p e s m args below meth c s₁ B hml hno hv
  obtain ⟨rfl, ⟨⟨hsz, hP, hK, hD0, hG⟩, hE⟩, hT⟩ := hv
  have hx := B.exec
  have hb := B.bytes
  have hr := B.returns
  have hts := atoms_spec (ws := w_f_X6_writeRow) B.pre
  have hown : s.vm.findClass RX6 = some m.cls := findClass_of_methodNamed B.named
  have hlocks := B.notSynchronized
  subst hsz
  have hD := hD0.self (sz := s.heap.size)
  generalize hAe : va_A (vC cy a z σ0) s.heap.size = A at hD hE hT ⊢
  have hA : ∀ q : Nat, s.heap.size ≤ q → A q := fun q h => by rw [← hAe]; exact Or.inr h
  have hS : va_S A s.heap s.heap [] := va_S.rf
  have hl := lv_entry ([.ref (a 12), .int (L0.1 1), .int (L0.1 2), .int (L0.1 3)]) (n := 6) (Nat.le_of_ble_eq_true rfl)
  rw [lg_entry_eq]
  generalize (lg_sl ([.ref (a 12), .int (L0.1 1), .int (L0.1 2), .int (L0.1 3)]) ++ List.replicate (6 - (lg_sl ([.ref (a 12), .int (L0.1 1), .int (L0.1 2), .int (L0.1 3)])).length) Slot.unset).toArray = ls at hl ⊢
  have hl : lv_has ls 6 [(0, .ref (a 12)), (1, .int (L0.1 1)), (2, .int (L0.1 2)), (3, .int (L0.1 3))] := hl
  generalize hmc : r0.2.2.1 = mc
  generalize hms : r0.2.2.2 = ms
  have blk : ∀ k : Nat, k ≤ k0 → (bX p l e (headSpec w_f_X6_writeRow ({ frames := 5 + d, cells := mc, slots := ms, locals := 110 + 25 * d })).room s m #[.ref (a 12), .int (L0.1 1), .int (L0.1 2), .int (L0.1 3)] below meth c dC dI cy a A (fun r => vx_MQ below (xV dC dI cy a A [] z r) (xX dC dI cy a A [] z r) #[.ref (a 12), .int (L0.1 1), .int (L0.1 2), .int (L0.1 3)] s mc ms A) [] z mc ms 6 (f_F1 k d 1 0) (fun z L => [(0, .ref (a 12)), (1, .int (L.1 1)), (2, .int (L.1 2)), (3, .int (L.1 3))]) 0 (fun z L => [])) ∧ (bX p l e (headSpec w_f_X6_writeRow ({ frames := 5 + d, cells := mc, slots := ms, locals := 110 + 25 * d })).room s m #[.ref (a 12), .int (L0.1 1), .int (L0.1 2), .int (L0.1 3)] below meth c dC dI cy a A (fun r => vx_MQ below (xV dC dI cy a A [] z r) (xX dC dI cy a A [] z r) #[.ref (a 12), .int (L0.1 1), .int (L0.1 2), .int (L0.1 3)] s mc ms A) [] z mc ms 6 (f_F1 k d 1 1) (fun z L => [(0, .ref (a 12)), (1, .int (L.1 1)), (3, .int (L.1 3)), (4, .int (L.1 4)), (5, .int (L.1 5))]) 18 (fun z L => [])) ∧ (bX p l e (headSpec w_f_X6_writeRow ({ frames := 5 + d, cells := mc, slots := ms, locals := 110 + 25 * d })).room s m #[.ref (a 12), .int (L0.1 1), .int (L0.1 2), .int (L0.1 3)] below meth c dC dI cy a A (fun r => vx_MQ below (xV dC dI cy a A [] z r) (xX dC dI cy a A [] z r) #[.ref (a 12), .int (L0.1 1), .int (L0.1 2), .int (L0.1 3)] s mc ms A) [] z mc ms 6 (f_F1 k d 1 2) (fun z L => [(0, .ref (a 12)), (3, .int (L.1 3))]) 62 (fun z L => [])) ∧ (bX p l e (headSpec w_f_X6_writeRow ({ frames := 5 + d, cells := mc, slots := ms, locals := 110 + 25 * d })).room s m #[.ref (a 12), .int (L0.1 1), .int (L0.1 2), .int (L0.1 3)] below meth c dC dI cy a A (fun r => vx_MQ below (xV dC dI cy a A [] z r) (xX dC dI cy a A [] z r) #[.ref (a 12), .int (L0.1 1), .int (L0.1 2), .int (L0.1 3)] s mc ms A) [] z mc ms 6 (f_F1 k d 1 3) (fun z L => [(0, .ref (a 12)), (1, .int (L.1 1)), (3, .int (L.1 3)), (4, .int (L.1 4)), (5, .int (L.1 5))]) 42 (fun z L => [])) := by
    intro k
    induction k with
    | zero => exact fun _ => ⟨fun z c1 c2 L σ r h => (by cases h), fun z c1 c2 L σ r h => (by cases h), fun z c1 c2 L σ r h => (by cases h), fun z c1 c2 L σ r h => (by cases h)⟩
    | succ k ih =>
      intro hk
      replace ih := ih (by omega)
      refine ⟨?_, ?_, ?_, ?_⟩
      · intro z cells slots L σ r h hzk hc hs H locs ls hP hD hS hl
        rw [f_F1_1, t_X6_writeRow_0] at h
        refine lv_aload_n hx hb dX6_writeRow_0 rfl (lv_at hl 0 rfl) ?_
        refine lv_iload_n hx hb dX6_writeRow_1 rfl (lv_at hl 2 rfl) ?_
        obtain ⟨r1, hc1, h⟩ := op_ex h
        refine kc_v (va_runV (As := [.int (L.1 2)]) (rest := []) ⟨hx, hb, hml, hown, hts⟩ (c_y_X6_put l dC dI cy a z k (lI lZ 1 ((L.1 2))) σ r1 hc1 H.size) (cwV 1 hts g_y_X6_writeRow_X6_put_V55 rfl rfl rfl hd_y_X6_put (by show 0 + 1 ≤ 5 + d ∧ 8 + (2 + 11) + 0 ≤ 110 + 25 * d; omega)) ⟨nb_blind, va_recv hK hP (ci := 5) (q0 := 12) rfl rfl, (kb_pre hK hG hP hD)⟩ rfl rfl hl.1 rfl (lv_room (Nat.le_of_ble_eq_true rfl)) dX6_writeRow_2 ⟨(Nat.le_trans (Nat.le_add_right _ _) (Nat.le_of_eq hc)), (Nat.le_trans (Nat.le_add_right _ _) (Nat.le_of_eq hs))⟩) hA hP hD hS (fun H locs hP hD hS => ?_)
        refine lv_aload_n hx hb dX6_writeRow_5 rfl (lv_at hl 0 rfl) ?_
        refine hg_12_0 hx hb hts in_f_X6_writeRow_X6 hown hK hP (hts _ (List.mem_cons_of_mem _ (List.mem_append_left _ (List.mem_append_left _ (List.mem_of_getElem? (i := 2) rfl))))) dX6_writeRow_6 ?_
        refine lv_iload_n hx hb dX6_writeRow_9 rfl (lv_at hl 1 rfl) ?_
        obtain ⟨r2, hc2, h⟩ := op_ex h
        refine kc_i (va_runV (As := [.int (L.1 1)]) (rest := []) ⟨hx, hb, hml, hown, hts⟩ (c_y_X1_length l dC dI cy a z k (lI lZ 1 ((L.1 1))) r1.2 r2 hc2 H.size) (cwV 1 hts g_y_X6_writeRow_X1_length_V68 rfl rfl rfl hd_y_X1_length (by show 0 + 1 ≤ 5 + d ∧ 8 + (2 + 11) + 0 ≤ 110 + 25 * d; omega)) ⟨nb_blind, va_recv hK hP (ci := 1) (q0 := 0) rfl rfl, (kb_pre hK hG hP hD)⟩ rfl rfl hl.1 rfl (lv_room (Nat.le_of_ble_eq_true rfl)) dX6_writeRow_10 ⟨(Nat.le_trans (Nat.le_add_right _ _) (Nat.le_of_eq hc)), (Nat.le_trans (Nat.le_add_right _ _) (Nat.le_of_eq hs))⟩) hA hP hD hS (fun H locs hP hD hS => ?_)
        refine lv_istore (lv' := [(4, .int r2.1), (0, .ref (a 12)), (1, .int (L.1 1)), (2, .int (L.1 2)), (3, .int (L.1 3))]) hx hb dX6_writeRow_13 hl (by decide) rfl (fun ls hl => ?_)
        refine lv_iconst (v := 0) hx hb dX6_writeRow_15 (by decide) ?_
        refine lv_istore (lv' := [(5, .int 0), (4, .int r2.1), (0, .ref (a 12)), (1, .int (L.1 1)), (2, .int (L.1 2)), (3, .int (L.1 3))]) hx hb dX6_writeRow_16 hl (by decide) rfl (fun ls hl => ?_)
        exact ih.2.1 z _ _ (lI (lI L 4 r2.1) 5 0) r2.2 _ h hzk hc hs H locs ls hP hD hS (lv_sub hl [2, 3, 5, 1, 0] rfl)
      · intro z cells slots L σ r h hzk hc hs H locs ls hP hD hS hl
        rw [f_F1_1, t_X6_writeRow_1] at h
        refine lv_iload hx hb dX6_writeRow_18 (lv_at hl 4 rfl) ?_
        refine lv_iload hx hb dX6_writeRow_20 (lv_at hl 3 rfl) ?_
        refine lv_icmp_ge (tgt := 62) hx hb dX6_writeRow_22 (by decide) (fun c1 => ?_) (fun c1 => ?_)
        · rw [if_pos c1] at h
          exact ih.2.2.1 z _ _ L σ _ h hzk hc hs H locs ls hP hD hS (lv_sub hl [0, 2] rfl)
        · rw [if_neg c1] at h
          refine lv_iload hx hb dX6_writeRow_25 (lv_at hl 4 rfl) ?_
          refine lv_if_le (tgt := 42) hx hb dX6_writeRow_27 (by decide) (fun c2 => ?_) (fun c2 => ?_)
          · rw [if_pos c2] at h
            exact ih.2.2.2 z _ _ L σ _ h hzk hc hs H locs ls hP hD hS (lv_sub hl [0, 1, 2, 3, 4] rfl)
          · rw [if_neg c2] at h
            refine lv_aload_n hx hb dX6_writeRow_30 rfl (lv_at hl 0 rfl) ?_
            refine lv_bipush (v := 44) hx hb dX6_writeRow_31 (by decide) ?_
            obtain ⟨r3, hc3, h⟩ := op_ex h
            refine kc_v (va_runV (As := [.int 44]) (rest := []) ⟨hx, hb, hml, hown, hts⟩ (c_y_X6_put l dC dI cy a z k (lI lZ 1 44) σ r3 hc3 H.size) (cwV 1 hts g_y_X6_writeRow_X6_put_V55 rfl rfl rfl hd_y_X6_put (by show 0 + 1 ≤ 5 + d ∧ 8 + (2 + 11) + 0 ≤ 110 + 25 * d; omega)) ⟨nb_blind, va_recv hK hP (ci := 5) (q0 := 12) rfl rfl, (kb_pre hK hG hP hD)⟩ rfl rfl hl.1 rfl (lv_room (Nat.le_of_ble_eq_true rfl)) dX6_writeRow_33 ⟨(Nat.le_trans (Nat.le_add_right _ _) (Nat.le_of_eq hc)), (Nat.le_trans (Nat.le_add_right _ _) (Nat.le_of_eq hs))⟩) hA hP hD hS (fun H locs hP hD hS => ?_)
            refine lv_aload_n hx hb dX6_writeRow_36 rfl (lv_at hl 0 rfl) ?_
            refine lv_bipush (v := 32) hx hb dX6_writeRow_37 (by decide) ?_
            obtain ⟨r4, hc4, h⟩ := op_ex h
            refine kc_v (va_runV (As := [.int 32]) (rest := []) ⟨hx, hb, hml, hown, hts⟩ (c_y_X6_put l dC dI cy a z k (lI lZ 1 32) r3.2 r4 hc4 H.size) (cwV 1 hts g_y_X6_writeRow_X6_put_V55 rfl rfl rfl hd_y_X6_put (by show 0 + 1 ≤ 5 + d ∧ 8 + (2 + 11) + 0 ≤ 110 + 25 * d; omega)) ⟨nb_blind, va_recv hK hP (ci := 5) (q0 := 12) rfl rfl, (kb_pre hK hG hP hD)⟩ rfl rfl hl.1 rfl (lv_room (Nat.le_of_ble_eq_true rfl)) dX6_writeRow_39 ⟨(Nat.le_trans (Nat.le_add_right _ _) (Nat.le_of_eq hc)), (Nat.le_trans (Nat.le_add_right _ _) (Nat.le_of_eq hs))⟩) hA hP hD hS (fun H locs hP hD hS => ?_)
            exact ih.2.2.2 z _ _ L r4.2 _ h hzk hc hs H locs ls hP hD hS (lv_sub hl [0, 1, 2, 3, 4] rfl)
      · intro z cells slots L σ r h hzk hc hs H locs ls hP hD hS hl
        rw [f_F1_1, t_X6_writeRow_2] at h
        refine lv_aload_n hx hb dX6_writeRow_62 rfl (lv_at hl 0 rfl) ?_
        refine lv_iload_n hx hb dX6_writeRow_63 rfl (lv_at hl 1 rfl) ?_
        obtain ⟨r1, hc1, h⟩ := op_ex h
        refine kc_v (va_runV (As := [.int (L.1 3)]) (rest := []) ⟨hx, hb, hml, hown, hts⟩ (c_y_X6_put l dC dI cy a z k (lI lZ 1 ((L.1 3))) σ r1 hc1 H.size) (cwV 1 hts g_y_X6_writeRow_X6_put_V55 rfl rfl rfl hd_y_X6_put (by show 0 + 1 ≤ 5 + d ∧ 8 + (2 + 11) + 0 ≤ 110 + 25 * d; omega)) ⟨nb_blind, va_recv hK hP (ci := 5) (q0 := 12) rfl rfl, (kb_pre hK hG hP hD)⟩ rfl rfl hl.1 rfl (lv_room (Nat.le_of_ble_eq_true rfl)) dX6_writeRow_64 ⟨(Nat.le_trans (Nat.le_add_right _ _) (Nat.le_of_eq hc)), (Nat.le_trans (Nat.le_add_right _ _) (Nat.le_of_eq hs))⟩) hA hP hD hS (fun H locs hP hD hS => ?_)
        obtain rfl := Option.some.inj h
        subst hc
        subst hs
        exact xr_v hx hb hr hK hzk hP hD hS hlocks dX6_writeRow_67
      · intro z cells slots L σ r h hzk hc hs H locs ls hP hD hS hl
        rw [f_F1_1, t_X6_writeRow_3] at h
        refine lv_aload_n hx hb dX6_writeRow_42 rfl (lv_at hl 0 rfl) ?_
        refine lv_aload_n hx hb dX6_writeRow_43 rfl (lv_at hl 0 rfl) ?_
        refine hg_12_0 hx hb hts in_f_X6_writeRow_X6 hown hK hP (hts _ (List.mem_cons_of_mem _ (List.mem_append_left _ (List.mem_append_left _ (List.mem_of_getElem? (i := 2) rfl))))) dX6_writeRow_44 ?_
        refine lv_iload_n hx hb dX6_writeRow_47 rfl (lv_at hl 1 rfl) ?_
        refine lv_iload hx hb dX6_writeRow_48 (lv_at hl 4 rfl) ?_
        obtain ⟨r1, hc1, h⟩ := op_ex h
        refine kc_i (va_runV (As := [.int (L.1 1), .int (L.1 5)]) (rest := [.ref (a 12)]) ⟨hx, hb, hml, hown, hts⟩ (c_y_X1_member l dC dI cy a z k (lI (lI lZ 1 ((L.1 1))) 2 ((L.1 5))) σ r1 hc1 H.size) (cwV 2 hts g_y_X6_writeRow_X1_member_V70 rfl rfl rfl hd_y_X1_member (by show 0 + 1 ≤ 5 + d ∧ 8 + (3 + 11) + 0 ≤ 110 + 25 * d; omega)) ⟨nb_blind, va_recv hK hP (ci := 1) (q0 := 0) rfl rfl, (kb_pre hK hG hP hD)⟩ rfl rfl hl.1 rfl (lv_room (Nat.le_of_ble_eq_true rfl)) dX6_writeRow_50 ⟨(Nat.le_trans (Nat.le_add_right _ _) (Nat.le_of_eq hc)), (Nat.le_trans (Nat.le_add_right _ _) (Nat.le_of_eq hs))⟩) hA hP hD hS (fun H locs hP hD hS => ?_)
        obtain ⟨e2, he2, h⟩ := of_ex h
        obtain ⟨r2, hc2, hle2, h9⟩ := ox_ex h
        clear h
        refine kx_v (vx_runV (As := [.int r1.1]) (rest := []) ⟨hx, hb, hml, hown, hts⟩ ((IH k (by omega)).1 e2 (lI lZ 1 r1.1) r1.2 r2 hc2 z H.size) (cwV 1 hts g_f_X6_writeRow_X6_write_V27 rfl rfl rfl hd_f_X6_write (by show (5 + e2) + 1 ≤ 5 + d ∧ 8 + (2 + 11) + (110 + 25 * e2) ≤ 110 + 25 * d; omega)) ⟨nb_blindF, va_recv hK hP (ci := 5) (q0 := 12) rfl rfl, (kx_pre hK hG hE hT hA hP hD hS)⟩ rfl rfl hl.1 rfl (lv_room (Nat.le_of_ble_eq_true rfl)) dX6_writeRow_53 ⟨Nat.le_trans (Nat.add_le_add_left hle2.1 _) (Nat.le_of_eq hc), Nat.le_trans (Nat.add_le_add_left hle2.2 _) (Nat.le_of_eq hs)⟩) hK hA hzk hP hD hS (by decide) hno hlocks ?_
        rcases h9 with ⟨h00, y2, hny2, hy⟩ | ⟨h00, hy⟩
        · subst hy
          have h := hny2
          refine Or.inl ⟨h00, fun u H locs hz2 hzk hP hD hS => ?_⟩
          obtain rfl := (zk_nil hz2).symm
          replace hc := (Nat.add_assoc _ _ _).trans hc
          replace hs := (Nat.add_assoc _ _ _).trans hs
          refine lv_iinc (v := ((L.1 5)) + 1) (lv' := [(5, .int (((L.1 5)) + 1)), (0, .ref (a 12)), (1, .int (L.1 1)), (3, .int (L.1 3)), (4, .int (L.1 4))]) hx hb dX6_writeRow_56 hl (k := 4) rfl rfl (by decide) rfl (fun ls hl => ?_)
          refine lv_goto (tgt := 18) hx hb dX6_writeRow_59 (by decide) ?_
          exact ih.2.1 z _ _ (lI L 5 ((((L.1 5)) + 1))) r2.2.1 _ h hzk hc hs H locs ls hP hD hS (lv_sub hl [1, 2, 3, 4, 0] rfl)
        · subst hy
          exact Or.inr ⟨h00, rfl, hc, hs⟩
  exact (blk k0 (Nat.le_refl _)).1 z 0 0 L0 σ0 r0 h0 (zk_rf _ _) ((Nat.zero_add _).trans hmc) ((Nat.zero_add _).trans hms) s.heap [] ls hP hD hS hl

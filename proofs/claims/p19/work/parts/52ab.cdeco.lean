/-! X10_takeLimbs__a6__a5 -/
def y_X10_takeLimbs__a6__a5 : Nat → Nat → LV → CS → Option (Int32 × CS)
  | 0, _, _, _ => none
  | k + 1, 0, L, σ => y_X10_takeLimbs__a6__a5 k 1 (lI (lJ L 5 0) 7 0) σ
  | k + 1, 1, L, σ => if ((L.1 2)) ≤ ((L.1 7)) then (y_X10_takeLimbs__a6__a5 k 2 L σ) else (if ¬ (((L.1 7)) < 0 ∨ 72 ≤ ((L.1 7)).toNatClampNeg) then (if ((L.1 4)) ≤ ((L.1 7)) then (y_X10_takeLimbs__a6__a5 k 3 (lJ L 100 ((((L.2.1 5)) + ((((((σ.2.2.1 6 ((L.1 7)).toNatClampNeg)).toInt64)) &&& 4294967295))))) σ) else (if ¬ (((L.1 7)) < 0 ∨ 72 ≤ ((L.1 7)).toNatClampNeg) then (y_X10_takeLimbs__a6__a5 k 4 (lJ (lJ L 100 ((((((σ.2.2.1 5 ((L.1 7)).toNatClampNeg)).toInt64)) &&& 4294967295))) 101 ((((L.2.1 5)) + ((((((σ.2.2.1 6 ((L.1 7)).toNatClampNeg)).toInt64)) &&& 4294967295))))) σ) else none)) else none)
  | k + 1, 2, L, σ => some ((L.1 2), σ)
  | k + 1, 3, L, σ => y_X10_takeLimbs__a6__a5 k 4 (lJ (lJ L 100 0) 101 ((L.2.1 100))) σ
  | k + 1, 4, L, σ => if ¬ (((L.1 7)) < 0 ∨ 72 ≤ ((L.1 7)).toNatClampNeg) then (y_X10_takeLimbs__a6__a5 k 1 (lI (lJ L 5 ((((((L.2.1 101)) - ((L.2.1 100)))) >>> ((32 : Int32).toInt64 &&& 63)))) 7 ((((L.1 7)) + 1))) (uA σ 7 ((L.1 7)).toNatClampNeg ((((((L.2.1 101)) - ((L.2.1 100)))).toInt32)))) else none
  | _ + 1, _ + 5, _, _ => none
def o_y_X10_takeLimbs__a6__a5 : List Cond := [.constantLong RX10 105 (4294967295), .fieldLink RX10 18 "SetHouse$Wholes" "result" "[I"]
theorem o_y_X10_takeLimbs__a6__a5_good : o_y_X10_takeLimbs__a6__a5.all goodWord = true := by decide +kernel
def p_y_X10_takeLimbs__a6__a5 : List Cond := o_y_X10_takeLimbs__a6__a5 ++ []
theorem p_y_X10_takeLimbs__a6__a5_good : p_y_X10_takeLimbs__a6__a5.all goodWord = true := nb_all2 o_y_X10_takeLimbs__a6__a5_good rfl
def w_y_X10_takeLimbs__a6__a5 : List Cond := .code yX10_takeLimbs cX10_takeLimbs 8 (some .int) :: (p_y_X10_takeLimbs__a6__a5 ++ fC)
theorem w_y_X10_takeLimbs__a6__a5_good : w_y_X10_takeLimbs__a6__a5.all goodWord = true := nb_allc (by decide +kernel) (nb_all2 p_y_X10_takeLimbs__a6__a5_good fC_good)
theorem in_y_X10_takeLimbs__a6__a5_X10 : ∀ w ∈ wsX100, w ∈ w_y_X10_takeLimbs__a6__a5 := fun _ h => List.mem_cons_of_mem _ (List.mem_append_right _ (List.mem_append_right _ (List.mem_append_right _ (List.mem_append_right _ (List.mem_append_right _ (List.mem_append_right _ (List.mem_append_right _ (List.mem_append_right _ (List.mem_append_right _ (List.mem_append_right _ (List.mem_append_left _ h)))))))))))
theorem hd_y_X10_takeLimbs__a6__a5 : yX10_takeLimbs.cls = RX10 ∧ yX10_takeLimbs.cls ≠ "java/lang/invoke/MethodHandle" ∧ yX10_takeLimbs.cls ≠ "java/lang/invoke/VarHandle" ∧ (parseMethodDescriptor yX10_takeLimbs.desc).map (fun d => d.parameters.length) = some 4 := by decide +kernel
set_option maxHeartbeats 40000000 in
set_option maxRecDepth 100000 in
theorem c_y_X10_takeLimbs__a6__a5 (l : Launch) (dC : Nat → ClassId) (dI : Nat → Nat → Nat) (cy : Nat → ClassId) (a z : Nat → Nat) (k0 : Nat) (L0 : LV) (σ0 : CS) (r0 : Int32 × CS) (h0 : y_X10_takeLimbs__a6__a5 k0 0 L0 σ0 = some r0) (sz : Nat) : Met l yX10_takeLimbs w_y_X10_takeLimbs__a6__a5 ({ frames := 0, cells := 0, slots := 0, locals := 0 }) (va_Pc [.ref (a 4), .ref (a 6), .int (L0.1 2), .ref (a 5), .int (L0.1 4)] (nIn (dC, dI) cy sz (vC cy a z σ0))) (va_Qi (fun (x : Int32) (_ : Unit) => x = r0.1) (fun _ t => nOut (dC, dI) cy (va_A (vC cy a z σ0) sz) (vC cy a z r0.2) t) (va_A (vC cy a z σ0) sz)) 0 0 (va_A (vC cy a z σ0) sz) := by
  refine Met.ofW (cc := cX10_takeLimbs) (maxL := 8) (ret := (some .int)) (by decide) rfl ?_
  intro p e s m args below meth c s₁ B hml hv
  obtain ⟨rfl, hsz, hP, hK, hD0, hG⟩ := hv
  have hx := B.exec
  have hb := B.bytes
  have hr := B.returns
  have hts := atoms_spec (ws := w_y_X10_takeLimbs__a6__a5) B.pre
  have hown : s.vm.findClass RX10 = some m.cls := findClass_of_methodNamed B.named
  have hlocks := B.notSynchronized
  subst hsz
  have hD := hD0.self (sz := s.heap.size)
  generalize hAe : va_A (vC cy a z σ0) s.heap.size = A at hD ⊢
  have hA : ∀ q : Nat, s.heap.size ≤ q → A q := fun q h => by rw [← hAe]; exact Or.inr h
  have hS : va_S A s.heap s.heap [] := va_S.rf
  have hl := lv_entry ([.ref (a 4), .ref (a 6), .int (L0.1 2), .ref (a 5), .int (L0.1 4)]) (n := 8) (Nat.le_of_ble_eq_true rfl)
  rw [lg_entry_eq]
  generalize (lg_sl ([.ref (a 4), .ref (a 6), .int (L0.1 2), .ref (a 5), .int (L0.1 4)]) ++ List.replicate (8 - (lg_sl ([.ref (a 4), .ref (a 6), .int (L0.1 2), .ref (a 5), .int (L0.1 4)])).length) Slot.unset).toArray = ls at hl ⊢
  have hl : lv_has ls 8 [(0, .ref (a 4)), (1, .ref (a 6)), (2, .int (L0.1 2)), (3, .ref (a 5)), (4, .int (L0.1 4))] := hl
  have blk : ∀ k : Nat, (bC p l e (headSpec w_y_X10_takeLimbs__a6__a5 ({ frames := 0, cells := 0, slots := 0, locals := 0 })).room s m #[.ref (a 4), .ref (a 6), .int (L0.1 2), .ref (a 5), .int (L0.1 4)] below meth c dC dI cy a z A (kI dC dI cy a z A below #[.ref (a 4), .ref (a 6), .int (L0.1 2), .ref (a 5), .int (L0.1 4)] s) 8 (y_X10_takeLimbs__a6__a5 k 0) (fun L => [(0, .ref (a 4)), (1, .ref (a 6)), (2, .int (L.1 2)), (3, .ref (a 5)), (4, .int (L.1 4))]) 0 (fun L => [])) ∧ (bC p l e (headSpec w_y_X10_takeLimbs__a6__a5 ({ frames := 0, cells := 0, slots := 0, locals := 0 })).room s m #[.ref (a 4), .ref (a 6), .int (L0.1 2), .ref (a 5), .int (L0.1 4)] below meth c dC dI cy a z A (kI dC dI cy a z A below #[.ref (a 4), .ref (a 6), .int (L0.1 2), .ref (a 5), .int (L0.1 4)] s) 8 (y_X10_takeLimbs__a6__a5 k 1) (fun L => [(0, .ref (a 4)), (1, .ref (a 6)), (2, .int (L.1 2)), (3, .ref (a 5)), (4, .int (L.1 4)), (5, .long (L.2.1 5)), (7, .int (L.1 7))]) 6 (fun L => [])) ∧ (bC p l e (headSpec w_y_X10_takeLimbs__a6__a5 ({ frames := 0, cells := 0, slots := 0, locals := 0 })).room s m #[.ref (a 4), .ref (a 6), .int (L0.1 2), .ref (a 5), .int (L0.1 4)] below meth c dC dI cy a z A (kI dC dI cy a z A below #[.ref (a 4), .ref (a 6), .int (L0.1 2), .ref (a 5), .int (L0.1 4)] s) 8 (y_X10_takeLimbs__a6__a5 k 2) (fun L => [(2, .int (L.1 2))]) 70 (fun L => [])) ∧ (bC p l e (headSpec w_y_X10_takeLimbs__a6__a5 ({ frames := 0, cells := 0, slots := 0, locals := 0 })).room s m #[.ref (a 4), .ref (a 6), .int (L0.1 2), .ref (a 5), .int (L0.1 4)] below meth c dC dI cy a z A (kI dC dI cy a z A below #[.ref (a 4), .ref (a 6), .int (L0.1 2), .ref (a 5), .int (L0.1 4)] s) 8 (y_X10_takeLimbs__a6__a5 k 3) (fun L => [(0, .ref (a 4)), (1, .ref (a 6)), (2, .int (L.1 2)), (3, .ref (a 5)), (4, .int (L.1 4)), (7, .int (L.1 7))]) 43 (fun L => [.long (L.2.1 100)])) ∧ (bC p l e (headSpec w_y_X10_takeLimbs__a6__a5 ({ frames := 0, cells := 0, slots := 0, locals := 0 })).room s m #[.ref (a 4), .ref (a 6), .int (L0.1 2), .ref (a 5), .int (L0.1 4)] below meth c dC dI cy a z A (kI dC dI cy a z A below #[.ref (a 4), .ref (a 6), .int (L0.1 2), .ref (a 5), .int (L0.1 4)] s) 8 (y_X10_takeLimbs__a6__a5 k 4) (fun L => [(0, .ref (a 4)), (1, .ref (a 6)), (2, .int (L.1 2)), (3, .ref (a 5)), (4, .int (L.1 4)), (7, .int (L.1 7))]) 44 (fun L => [.long (L.2.1 100), .long (L.2.1 101)])) := by
    intro k
    induction k with
    | zero => exact ⟨fun L σ r h => (by cases h), fun L σ r h => (by cases h), fun L σ r h => (by cases h), fun L σ r h => (by cases h), fun L σ r h => (by cases h)⟩
    | succ k ih =>
      refine ⟨?_, ?_, ?_, ?_, ?_⟩
      · intro L σ r h H locs ls hP hD hS hl
        rw [y_X10_takeLimbs__a6__a5] at h
        refine lv_lconst (v := 0) hx hb dX10_takeLimbs_0 (by decide) ?_
        refine lv_lstore (lv' := [(5, .long 0), (0, .ref (a 4)), (1, .ref (a 6)), (2, .int (L.1 2)), (3, .ref (a 5)), (4, .int (L.1 4))]) hx hb dX10_takeLimbs_1 hl (by decide) rfl (fun ls hl => ?_)
        refine lv_iconst (v := 0) hx hb dX10_takeLimbs_3 (by decide) ?_
        refine lv_istore (lv' := [(7, .int 0), (5, .long 0), (0, .ref (a 4)), (1, .ref (a 6)), (2, .int (L.1 2)), (3, .ref (a 5)), (4, .int (L.1 4))]) hx hb dX10_takeLimbs_4 hl (by decide) rfl (fun ls hl => ?_)
        exact ih.2.1 (lI (lJ L 5 0) 7 0) σ r h H locs ls hP hD hS (lv_sub hl [2, 3, 4, 5, 6, 1, 0] rfl)
      · intro L σ r h H locs ls hP hD hS hl
        rw [y_X10_takeLimbs__a6__a5] at h
        refine lv_iload hx hb dX10_takeLimbs_6 (lv_at hl 6 rfl) ?_
        refine lv_iload_n hx hb dX10_takeLimbs_8 rfl (lv_at hl 2 rfl) ?_
        refine lv_icmp_ge (tgt := 70) hx hb dX10_takeLimbs_9 (by decide) (fun c1 => ?_) (fun c1 => ?_)
        · rw [if_pos c1] at h
          exact ih.2.2.1 L σ r h H locs ls hP hD hS (lv_sub hl [2] rfl)
        · rw [if_neg c1] at h
          refine lv_lload hx hb dX10_takeLimbs_12 (lv_at hl 5 rfl) ?_
          refine lv_aload_n hx hb dX10_takeLimbs_14 rfl (lv_at hl 1 rfl) ?_
          refine lv_iload hx hb dX10_takeLimbs_15 (lv_at hl 6 rfl) ?_
          obtain ⟨q2, h⟩ := kb_ite1 h
          refine hl_6 hx hb hK hP q2 dX10_takeLimbs_17 ?_
          refine lv_i2l (v := ((σ.2.2.1 6 ((L.1 7)).toNatClampNeg)).toInt64) hx hb dX10_takeLimbs_18 rfl ?_
          refine lv_ldc2 (v := 4294967295) hx hb hown (hts _ (List.mem_cons_of_mem _ (List.mem_append_left _ (List.mem_append_left _ (List.mem_of_getElem? (i := 0) rfl))))) dX10_takeLimbs_19 ?_
          refine lv_land hx hb dX10_takeLimbs_22 ?_
          refine lv_ladd hx hb dX10_takeLimbs_23 ?_
          refine lv_iload hx hb dX10_takeLimbs_24 (lv_at hl 6 rfl) ?_
          refine lv_iload hx hb dX10_takeLimbs_26 (lv_at hl 4 rfl) ?_
          refine lv_icmp_ge (tgt := 43) hx hb dX10_takeLimbs_28 (by decide) (fun c3 => ?_) (fun c3 => ?_)
          · rw [if_pos c3] at h
            exact ih.2.2.2.1 (lJ L 100 ((((L.2.1 5)) + ((((((σ.2.2.1 6 ((L.1 7)).toNatClampNeg)).toInt64)) &&& 4294967295))))) σ r h H locs ls hP hD hS (lv_sub hl [0, 1, 2, 3, 4, 6] rfl)
          · rw [if_neg c3] at h
            refine lv_aload_n hx hb dX10_takeLimbs_31 rfl (lv_at hl 3 rfl) ?_
            refine lv_iload hx hb dX10_takeLimbs_32 (lv_at hl 6 rfl) ?_
            obtain ⟨q4, h⟩ := kb_ite1 h
            refine hl_5 hx hb hK hP q4 dX10_takeLimbs_34 ?_
            refine lv_i2l (v := ((σ.2.2.1 5 ((L.1 7)).toNatClampNeg)).toInt64) hx hb dX10_takeLimbs_35 rfl ?_
            refine lv_ldc2 (v := 4294967295) hx hb hown (hts _ (List.mem_cons_of_mem _ (List.mem_append_left _ (List.mem_append_left _ (List.mem_of_getElem? (i := 0) rfl))))) dX10_takeLimbs_36 ?_
            refine lv_land hx hb dX10_takeLimbs_39 ?_
            refine lv_goto (tgt := 44) hx hb dX10_takeLimbs_40 (by decide) ?_
            exact ih.2.2.2.2 (lJ (lJ L 100 ((((((σ.2.2.1 5 ((L.1 7)).toNatClampNeg)).toInt64)) &&& 4294967295))) 101 ((((L.2.1 5)) + ((((((σ.2.2.1 6 ((L.1 7)).toNatClampNeg)).toInt64)) &&& 4294967295))))) σ r h H locs ls hP hD hS (lv_sub hl [0, 1, 2, 3, 4, 6] rfl)
      · intro L σ r h H locs ls hP hD hS hl
        rw [y_X10_takeLimbs__a6__a5] at h
        refine lv_iload_n hx hb dX10_takeLimbs_70 rfl (lv_at hl 0 rfl) ?_
        obtain rfl := Option.some.inj h
        exact W.iret (v := (L.1 2)) hx hb hr (fun t ht hW => ⟨⟨(L.1 2), (), rfl, rfl, by rw [ht]; exact hP, va_K.moved hW.alike hK, hD⟩, hS.F ht⟩) hS.2.2 dX10_takeLimbs_71
      · intro L σ r h H locs ls hP hD hS hl
        rw [y_X10_takeLimbs__a6__a5] at h
        refine lv_lconst (v := 0) hx hb dX10_takeLimbs_43 (by decide) ?_
        exact ih.2.2.2.2 (lJ (lJ L 100 0) 101 ((L.2.1 100))) σ r h H locs ls hP hD hS (lv_sub hl [0, 1, 2, 3, 4, 5] rfl)
      · intro L σ r h H locs ls hP hD hS hl
        rw [y_X10_takeLimbs__a6__a5] at h
        refine lv_lsub hx hb dX10_takeLimbs_44 ?_
        refine lv_lstore (lv' := [(5, .long (((L.2.1 101)) - ((L.2.1 100)))), (0, .ref (a 4)), (1, .ref (a 6)), (2, .int (L.1 2)), (3, .ref (a 5)), (4, .int (L.1 4)), (7, .int (L.1 7))]) hx hb dX10_takeLimbs_45 hl (by decide) rfl (fun ls hl => ?_)
        refine lv_aload_n hx hb dX10_takeLimbs_47 rfl (lv_at hl 1 rfl) ?_
        refine hg_4_3 hx hb hts in_y_X10_takeLimbs__a6__a5_X10 hown hK hP (hts _ (List.mem_cons_of_mem _ (List.mem_append_left _ (List.mem_append_left _ (List.mem_of_getElem? (i := 1) rfl))))) dX10_takeLimbs_48 ?_
        refine lv_iload hx hb dX10_takeLimbs_51 (lv_at hl 6 rfl) ?_
        refine lv_lload hx hb dX10_takeLimbs_53 (lv_at hl 0 rfl) ?_
        refine lv_l2i (v := ((((L.2.1 101)) - ((L.2.1 100)))).toInt32) hx hb dX10_takeLimbs_55 rfl ?_
        obtain ⟨q1, h⟩ := kb_ite1 h
        refine hs_7 hx hb hK hP hD hS q1 dX10_takeLimbs_56 (fun H locs hP hD hS => ?_)
        refine lv_lload hx hb dX10_takeLimbs_57 (lv_at hl 0 rfl) ?_
        refine lv_bipush (v := 32) hx hb dX10_takeLimbs_59 (by decide) ?_
        refine lv_lshr (v := ((((L.2.1 101)) - ((L.2.1 100)))) >>> ((32 : Int32).toInt64 &&& 63)) hx hb dX10_takeLimbs_61 rfl ?_
        refine lv_lstore (lv' := [(5, .long (((((L.2.1 101)) - ((L.2.1 100)))) >>> ((32 : Int32).toInt64 &&& 63))), (0, .ref (a 4)), (1, .ref (a 6)), (2, .int (L.1 2)), (3, .ref (a 5)), (4, .int (L.1 4)), (7, .int (L.1 7))]) hx hb dX10_takeLimbs_62 hl (by decide) rfl (fun ls hl => ?_)
        refine lv_iinc (v := ((L.1 7)) + 1) (lv' := [(7, .int (((L.1 7)) + 1)), (5, .long (((((L.2.1 101)) - ((L.2.1 100)))) >>> ((32 : Int32).toInt64 &&& 63))), (0, .ref (a 4)), (1, .ref (a 6)), (2, .int (L.1 2)), (3, .ref (a 5)), (4, .int (L.1 4))]) hx hb dX10_takeLimbs_64 hl (k := 6) rfl rfl (by decide) rfl (fun ls hl => ?_)
        refine lv_goto (tgt := 6) hx hb dX10_takeLimbs_67 (by decide) ?_
        exact ih.2.1 (lI (lJ L 5 ((((((L.2.1 101)) - ((L.2.1 100)))) >>> ((32 : Int32).toInt64 &&& 63)))) 7 ((((L.1 7)) + 1))) (uA σ 7 ((L.1 7)).toNatClampNeg ((((((L.2.1 101)) - ((L.2.1 100)))).toInt32))) r h H locs ls hP hD hS (lv_sub hl [2, 3, 4, 5, 6, 1, 0] rfl)
  exact (blk k0).1 L0 σ0 r0 h0 s.heap [] ls hP hD hS hl
/-! X10_added -/
def y_X10_added : Nat → Nat → LV → CS → Option (Int32 × CS)
  | 0, _, _, _ => none
  | k + 1, 0, L, σ => if 0 ≤ ((L.1 1)) then (y_X10_added k 1 L σ) else (if 0 ≤ ((L.1 2)) then (y_X10_added k 1 L σ) else (if ((L.1 3)) = 0 then (y_X10_added k 2 (lJ (lJ L 4 ((((((((L.1 2)) <<< ((4 : Int32) &&& 31))) >>> ((4 : Int32) &&& 31))).toInt64))) 100 ((((((((L.1 1)) <<< ((4 : Int32) &&& 31))) >>> ((4 : Int32) &&& 31))).toInt64))) σ) else (y_X10_added k 3 (lJ (lJ L 100 ((- ((((((((L.1 2)) <<< ((4 : Int32) &&& 31))) >>> ((4 : Int32) &&& 31))).toInt64))))) 101 ((((((((L.1 1)) <<< ((4 : Int32) &&& 31))) >>> ((4 : Int32) &&& 31))).toInt64))) σ)))
  | k + 1, 1, L, σ => oc (y_X10_load__a5 k 0 (lI lZ 1 ((L.1 1))) σ) (fun r1 => oc (y_X10_load__a6 k 0 (lI lZ 1 ((L.1 2))) r1.2) (fun r2 => oc (y_X10_isBelow k 0 (lI lZ 1 ((L.1 1))) r2.2) (fun r3 => oc (y_X10_isBelow k 0 (lI lZ 1 ((L.1 2))) r3.2) (fun r4 => if r4.1 = ((L.1 3)) then (y_X10_added k 4 (lI (lI (lI L 4 r1.1) 5 r2.1) 6 r3.1) r4.2) else (y_X10_added k 5 (lI (lI (lI (lI L 4 r1.1) 5 r2.1) 6 r3.1) 100 1) r4.2)))))
  | k + 1, 2, L, σ => y_X10_added k 3 (lJ (lJ L 100 ((L.2.1 4))) 101 ((L.2.1 100))) σ
  | k + 1, 3, L, σ => oc (y_X10_of k 0 (lJ lZ 1 ((((L.2.1 101)) + ((L.2.1 100))))) σ) (fun r1 => some (r1.1, r1.2))
  | k + 1, 4, L, σ => y_X10_added k 5 (lI L 100 0) σ
  | k + 1, 5, L, σ => if ((L.1 6)) = ((L.1 100)) then (oc (y_X10_addLimbs k 0 (lI (lI lZ 1 ((L.1 4))) 2 ((L.1 5))) σ) (fun r2 => oc (y_X10_made k 0 (lI (lI lZ 1 r2.1) 2 ((L.1 6))) r2.2) (fun r3 => some (r3.1, r3.2)))) else (y_X10_added k 6 (lI L 7 ((L.1 100))) σ)
  | k + 1, 6, L, σ => oc (y_X10_compareLimbs k 0 (lI (lI lZ 1 ((L.1 4))) 2 ((L.1 5))) σ) (fun r1 => if r1.1 = 0 then (some ((-1610612736), r1.2)) else (y_X10_added k 7 (lI L 8 r1.1) r1.2))
  | k + 1, 7, L, σ => if ((L.1 8)) ≤ 0 then (y_X10_added k 8 L σ) else (oc (y_X10_takeLimbs__a5__a6 k 0 (lI (lI lZ 2 ((L.1 4))) 4 ((L.1 5))) σ) (fun r2 => oc (y_X10_made k 0 (lI (lI lZ 1 r2.1) 2 ((L.1 6))) r2.2) (fun r3 => some (r3.1, r3.2))))
  | k + 1, 8, L, σ => oc (y_X10_takeLimbs__a6__a5 k 0 (lI (lI lZ 2 ((L.1 5))) 4 ((L.1 4))) σ) (fun r1 => oc (y_X10_made k 0 (lI (lI lZ 1 r1.1) 2 ((L.1 7))) r1.2) (fun r2 => some (r2.1, r2.2)))
  | _ + 1, _ + 9, _, _ => none
def o_y_X10_added : List Cond := [.fieldLink RX10 9 "SetHouse$Wholes" "left" "[I", .methodLink RX10 64 yX10_load, .instanceMethod yX10_load, .selects RX10 yX10_load yX10_load, .initialized RX10, .fieldLink RX10 15 "SetHouse$Wholes" "right" "[I", .methodLink RX10 68 yX10_isBelow, .instanceMethod yX10_isBelow, .selects RX10 yX10_isBelow yX10_isBelow, .methodLink RX10 79 yX10_of, .instanceMethod yX10_of, .selects RX10 yX10_of yX10_of, .methodLink RX10 83 yX10_addLimbs, .instanceMethod yX10_addLimbs, .selects RX10 yX10_addLimbs yX10_addLimbs, .methodLink RX10 72 yX10_made, .instanceMethod yX10_made, .selects RX10 yX10_made yX10_made, .methodLink RX10 87 yX10_compareLimbs, .instanceMethod yX10_compareLimbs, .selects RX10 yX10_compareLimbs yX10_compareLimbs, .constant RX10 37 (-1610612736), .methodLink RX10 90 yX10_takeLimbs, .instanceMethod yX10_takeLimbs, .selects RX10 yX10_takeLimbs yX10_takeLimbs]
theorem o_y_X10_added_good : o_y_X10_added.all goodWord = true := by decide +kernel
def p_y_X10_added : List Cond := o_y_X10_added ++ ((.code yX10_load cX10_load 4 (some .int) :: p_y_X10_load__a5) ++ ((.code yX10_load cX10_load 4 (some .int) :: p_y_X10_load__a6) ++ ((.code yX10_isBelow cX10_isBelow 2 (some .boolean) :: p_y_X10_isBelow) ++ ((.code yX10_of cX10_of 5 (some .int) :: p_y_X10_of) ++ ((.code yX10_addLimbs cX10_addLimbs 7 (some .int) :: p_y_X10_addLimbs) ++ ((.code yX10_made cX10_made 5 (some .int) :: p_y_X10_made) ++ ((.code yX10_compareLimbs cX10_compareLimbs 5 (some .int) :: p_y_X10_compareLimbs) ++ ((.code yX10_takeLimbs cX10_takeLimbs 8 (some .int) :: p_y_X10_takeLimbs__a5__a6) ++ ((.code yX10_takeLimbs cX10_takeLimbs 8 (some .int) :: p_y_X10_takeLimbs__a6__a5) ++ [])))))))))
theorem p_y_X10_added_good : p_y_X10_added.all goodWord = true := nb_all2 o_y_X10_added_good (nb_all2 (nb_allc (by decide +kernel) p_y_X10_load__a5_good) (nb_all2 (nb_allc (by decide +kernel) p_y_X10_load__a6_good) (nb_all2 (nb_allc (by decide +kernel) p_y_X10_isBelow_good) (nb_all2 (nb_allc (by decide +kernel) p_y_X10_of_good) (nb_all2 (nb_allc (by decide +kernel) p_y_X10_addLimbs_good) (nb_all2 (nb_allc (by decide +kernel) p_y_X10_made_good) (nb_all2 (nb_allc (by decide +kernel) p_y_X10_compareLimbs_good) (nb_all2 (nb_allc (by decide +kernel) p_y_X10_takeLimbs__a5__a6_good) (nb_all2 (nb_allc (by decide +kernel) p_y_X10_takeLimbs__a6__a5_good) rfl)))))))))
def w_y_X10_added : List Cond := .code yX10_added cX10_added 9 (some .int) :: (p_y_X10_added ++ fC)
theorem w_y_X10_added_good : w_y_X10_added.all goodWord = true := nb_allc (by decide +kernel) (nb_all2 p_y_X10_added_good fC_good)
theorem in_y_X10_added_X10 : ∀ w ∈ wsX100, w ∈ w_y_X10_added := fun _ h => List.mem_cons_of_mem _ (List.mem_append_right _ (List.mem_append_right _ (List.mem_append_right _ (List.mem_append_right _ (List.mem_append_right _ (List.mem_append_right _ (List.mem_append_right _ (List.mem_append_right _ (List.mem_append_right _ (List.mem_append_right _ (List.mem_append_left _ h)))))))))))
theorem hd_y_X10_added : yX10_added.cls = RX10 ∧ yX10_added.cls ≠ "java/lang/invoke/MethodHandle" ∧ yX10_added.cls ≠ "java/lang/invoke/VarHandle" ∧ (parseMethodDescriptor yX10_added.desc).map (fun d => d.parameters.length) = some 3 := by decide +kernel
theorem gg_y_X10_added_X10_addLimbs : GoodIn w_y_X10_added w_y_X10_addLimbs := goodIn_sub (fun w h => (List.mem_cons.mp h).elim (fun e => (List.mem_cons_of_mem _ (List.mem_append_left _ (List.mem_append_right _ (List.mem_append_right _ (List.mem_append_right _ (List.mem_append_right _ (List.mem_append_right _ (List.mem_append_left _ (List.mem_cons.mpr (Or.inl e))))))))))) (fun h => (List.mem_append.mp h).elim (fun h => (List.mem_cons_of_mem _ (List.mem_append_left _ (List.mem_append_right _ (List.mem_append_right _ (List.mem_append_right _ (List.mem_append_right _ (List.mem_append_right _ (List.mem_append_left _ (List.mem_cons_of_mem _ h)))))))))) (fun h => List.mem_cons_of_mem _ (List.mem_append_right _ h)))) w_y_X10_addLimbs_good
theorem g_y_X10_added_X10_addLimbs_V83 : GoodIn w_y_X10_added (wsV RX10 83 RX10 yX10_addLimbs w_y_X10_addLimbs) := goodIn_app (nb_g4 (List.mem_cons_of_mem _ (List.mem_append_left _ (List.mem_append_left _ (List.mem_of_getElem? (i := 12) rfl)))) (List.mem_cons_of_mem _ (List.mem_append_left _ (List.mem_append_left _ (List.mem_of_getElem? (i := 13) rfl)))) (List.mem_cons_of_mem _ (List.mem_append_left _ (List.mem_append_left _ (List.mem_of_getElem? (i := 14) rfl)))) (List.mem_cons_of_mem _ (List.mem_append_left _ (List.mem_append_left _ (List.mem_of_getElem? (i := 4) rfl)))) (by decide +kernel)) gg_y_X10_added_X10_addLimbs
theorem gg_y_X10_added_X10_compareLimbs : GoodIn w_y_X10_added w_y_X10_compareLimbs := goodIn_sub (fun w h => (List.mem_cons.mp h).elim (fun e => (List.mem_cons_of_mem _ (List.mem_append_left _ (List.mem_append_right _ (List.mem_append_right _ (List.mem_append_right _ (List.mem_append_right _ (List.mem_append_right _ (List.mem_append_right _ (List.mem_append_right _ (List.mem_append_left _ (List.mem_cons.mpr (Or.inl e))))))))))))) (fun h => (List.mem_append.mp h).elim (fun h => (List.mem_cons_of_mem _ (List.mem_append_left _ (List.mem_append_right _ (List.mem_append_right _ (List.mem_append_right _ (List.mem_append_right _ (List.mem_append_right _ (List.mem_append_right _ (List.mem_append_right _ (List.mem_append_left _ (List.mem_cons_of_mem _ h)))))))))))) (fun h => List.mem_cons_of_mem _ (List.mem_append_right _ h)))) w_y_X10_compareLimbs_good
theorem g_y_X10_added_X10_compareLimbs_V87 : GoodIn w_y_X10_added (wsV RX10 87 RX10 yX10_compareLimbs w_y_X10_compareLimbs) := goodIn_app (nb_g4 (List.mem_cons_of_mem _ (List.mem_append_left _ (List.mem_append_left _ (List.mem_of_getElem? (i := 18) rfl)))) (List.mem_cons_of_mem _ (List.mem_append_left _ (List.mem_append_left _ (List.mem_of_getElem? (i := 19) rfl)))) (List.mem_cons_of_mem _ (List.mem_append_left _ (List.mem_append_left _ (List.mem_of_getElem? (i := 20) rfl)))) (List.mem_cons_of_mem _ (List.mem_append_left _ (List.mem_append_left _ (List.mem_of_getElem? (i := 4) rfl)))) (by decide +kernel)) gg_y_X10_added_X10_compareLimbs
theorem gg_y_X10_added_X10_isBelow : GoodIn w_y_X10_added w_y_X10_isBelow := goodIn_sub (fun w h => (List.mem_cons.mp h).elim (fun e => (List.mem_cons_of_mem _ (List.mem_append_left _ (List.mem_append_right _ (List.mem_append_right _ (List.mem_append_right _ (List.mem_append_left _ (List.mem_cons.mpr (Or.inl e))))))))) (fun h => (List.mem_append.mp h).elim (fun h => (List.mem_cons_of_mem _ (List.mem_append_left _ (List.mem_append_right _ (List.mem_append_right _ (List.mem_append_right _ (List.mem_append_left _ (List.mem_cons_of_mem _ h)))))))) (fun h => List.mem_cons_of_mem _ (List.mem_append_right _ h)))) w_y_X10_isBelow_good
theorem g_y_X10_added_X10_isBelow_V68 : GoodIn w_y_X10_added (wsV RX10 68 RX10 yX10_isBelow w_y_X10_isBelow) := goodIn_app (nb_g4 (List.mem_cons_of_mem _ (List.mem_append_left _ (List.mem_append_left _ (List.mem_of_getElem? (i := 6) rfl)))) (List.mem_cons_of_mem _ (List.mem_append_left _ (List.mem_append_left _ (List.mem_of_getElem? (i := 7) rfl)))) (List.mem_cons_of_mem _ (List.mem_append_left _ (List.mem_append_left _ (List.mem_of_getElem? (i := 8) rfl)))) (List.mem_cons_of_mem _ (List.mem_append_left _ (List.mem_append_left _ (List.mem_of_getElem? (i := 4) rfl)))) (by decide +kernel)) gg_y_X10_added_X10_isBelow
theorem gg_y_X10_added_X10_load__a5 : GoodIn w_y_X10_added w_y_X10_load__a5 := goodIn_sub (fun w h => (List.mem_cons.mp h).elim (fun e => (List.mem_cons_of_mem _ (List.mem_append_left _ (List.mem_append_right _ (List.mem_append_left _ (List.mem_cons.mpr (Or.inl e))))))) (fun h => (List.mem_append.mp h).elim (fun h => (List.mem_cons_of_mem _ (List.mem_append_left _ (List.mem_append_right _ (List.mem_append_left _ (List.mem_cons_of_mem _ h)))))) (fun h => List.mem_cons_of_mem _ (List.mem_append_right _ h)))) w_y_X10_load__a5_good
theorem g_y_X10_added_X10_load__a5_V64 : GoodIn w_y_X10_added (wsV RX10 64 RX10 yX10_load w_y_X10_load__a5) := goodIn_app (nb_g4 (List.mem_cons_of_mem _ (List.mem_append_left _ (List.mem_append_left _ (List.mem_of_getElem? (i := 1) rfl)))) (List.mem_cons_of_mem _ (List.mem_append_left _ (List.mem_append_left _ (List.mem_of_getElem? (i := 2) rfl)))) (List.mem_cons_of_mem _ (List.mem_append_left _ (List.mem_append_left _ (List.mem_of_getElem? (i := 3) rfl)))) (List.mem_cons_of_mem _ (List.mem_append_left _ (List.mem_append_left _ (List.mem_of_getElem? (i := 4) rfl)))) (by decide +kernel)) gg_y_X10_added_X10_load__a5
theorem gg_y_X10_added_X10_load__a6 : GoodIn w_y_X10_added w_y_X10_load__a6 := goodIn_sub (fun w h => (List.mem_cons.mp h).elim (fun e => (List.mem_cons_of_mem _ (List.mem_append_left _ (List.mem_append_right _ (List.mem_append_right _ (List.mem_append_left _ (List.mem_cons.mpr (Or.inl e)))))))) (fun h => (List.mem_append.mp h).elim (fun h => (List.mem_cons_of_mem _ (List.mem_append_left _ (List.mem_append_right _ (List.mem_append_right _ (List.mem_append_left _ (List.mem_cons_of_mem _ h))))))) (fun h => List.mem_cons_of_mem _ (List.mem_append_right _ h)))) w_y_X10_load__a6_good
theorem g_y_X10_added_X10_load__a6_V64 : GoodIn w_y_X10_added (wsV RX10 64 RX10 yX10_load w_y_X10_load__a6) := goodIn_app (nb_g4 (List.mem_cons_of_mem _ (List.mem_append_left _ (List.mem_append_left _ (List.mem_of_getElem? (i := 1) rfl)))) (List.mem_cons_of_mem _ (List.mem_append_left _ (List.mem_append_left _ (List.mem_of_getElem? (i := 2) rfl)))) (List.mem_cons_of_mem _ (List.mem_append_left _ (List.mem_append_left _ (List.mem_of_getElem? (i := 3) rfl)))) (List.mem_cons_of_mem _ (List.mem_append_left _ (List.mem_append_left _ (List.mem_of_getElem? (i := 4) rfl)))) (by decide +kernel)) gg_y_X10_added_X10_load__a6
theorem gg_y_X10_added_X10_made : GoodIn w_y_X10_added w_y_X10_made := goodIn_sub (fun w h => (List.mem_cons.mp h).elim (fun e => (List.mem_cons_of_mem _ (List.mem_append_left _ (List.mem_append_right _ (List.mem_append_right _ (List.mem_append_right _ (List.mem_append_right _ (List.mem_append_right _ (List.mem_append_right _ (List.mem_append_left _ (List.mem_cons.mpr (Or.inl e)))))))))))) (fun h => (List.mem_append.mp h).elim (fun h => (List.mem_cons_of_mem _ (List.mem_append_left _ (List.mem_append_right _ (List.mem_append_right _ (List.mem_append_right _ (List.mem_append_right _ (List.mem_append_right _ (List.mem_append_right _ (List.mem_append_left _ (List.mem_cons_of_mem _ h))))))))))) (fun h => List.mem_cons_of_mem _ (List.mem_append_right _ h)))) w_y_X10_made_good
theorem g_y_X10_added_X10_made_V72 : GoodIn w_y_X10_added (wsV RX10 72 RX10 yX10_made w_y_X10_made) := goodIn_app (nb_g4 (List.mem_cons_of_mem _ (List.mem_append_left _ (List.mem_append_left _ (List.mem_of_getElem? (i := 15) rfl)))) (List.mem_cons_of_mem _ (List.mem_append_left _ (List.mem_append_left _ (List.mem_of_getElem? (i := 16) rfl)))) (List.mem_cons_of_mem _ (List.mem_append_left _ (List.mem_append_left _ (List.mem_of_getElem? (i := 17) rfl)))) (List.mem_cons_of_mem _ (List.mem_append_left _ (List.mem_append_left _ (List.mem_of_getElem? (i := 4) rfl)))) (by decide +kernel)) gg_y_X10_added_X10_made
theorem gg_y_X10_added_X10_of : GoodIn w_y_X10_added w_y_X10_of := goodIn_sub (fun w h => (List.mem_cons.mp h).elim (fun e => (List.mem_cons_of_mem _ (List.mem_append_left _ (List.mem_append_right _ (List.mem_append_right _ (List.mem_append_right _ (List.mem_append_right _ (List.mem_append_left _ (List.mem_cons.mpr (Or.inl e)))))))))) (fun h => (List.mem_append.mp h).elim (fun h => (List.mem_cons_of_mem _ (List.mem_append_left _ (List.mem_append_right _ (List.mem_append_right _ (List.mem_append_right _ (List.mem_append_right _ (List.mem_append_left _ (List.mem_cons_of_mem _ h))))))))) (fun h => List.mem_cons_of_mem _ (List.mem_append_right _ h)))) w_y_X10_of_good
theorem g_y_X10_added_X10_of_V79 : GoodIn w_y_X10_added (wsV RX10 79 RX10 yX10_of w_y_X10_of) := goodIn_app (nb_g4 (List.mem_cons_of_mem _ (List.mem_append_left _ (List.mem_append_left _ (List.mem_of_getElem? (i := 9) rfl)))) (List.mem_cons_of_mem _ (List.mem_append_left _ (List.mem_append_left _ (List.mem_of_getElem? (i := 10) rfl)))) (List.mem_cons_of_mem _ (List.mem_append_left _ (List.mem_append_left _ (List.mem_of_getElem? (i := 11) rfl)))) (List.mem_cons_of_mem _ (List.mem_append_left _ (List.mem_append_left _ (List.mem_of_getElem? (i := 4) rfl)))) (by decide +kernel)) gg_y_X10_added_X10_of
theorem gg_y_X10_added_X10_takeLimbs__a5__a6 : GoodIn w_y_X10_added w_y_X10_takeLimbs__a5__a6 := goodIn_sub (fun w h => (List.mem_cons.mp h).elim (fun e => (List.mem_cons_of_mem _ (List.mem_append_left _ (List.mem_append_right _ (List.mem_append_right _ (List.mem_append_right _ (List.mem_append_right _ (List.mem_append_right _ (List.mem_append_right _ (List.mem_append_right _ (List.mem_append_right _ (List.mem_append_left _ (List.mem_cons.mpr (Or.inl e)))))))))))))) (fun h => (List.mem_append.mp h).elim (fun h => (List.mem_cons_of_mem _ (List.mem_append_left _ (List.mem_append_right _ (List.mem_append_right _ (List.mem_append_right _ (List.mem_append_right _ (List.mem_append_right _ (List.mem_append_right _ (List.mem_append_right _ (List.mem_append_right _ (List.mem_append_left _ (List.mem_cons_of_mem _ h))))))))))))) (fun h => List.mem_cons_of_mem _ (List.mem_append_right _ h)))) w_y_X10_takeLimbs__a5__a6_good
theorem g_y_X10_added_X10_takeLimbs__a5__a6_V90 : GoodIn w_y_X10_added (wsV RX10 90 RX10 yX10_takeLimbs w_y_X10_takeLimbs__a5__a6) := goodIn_app (nb_g4 (List.mem_cons_of_mem _ (List.mem_append_left _ (List.mem_append_left _ (List.mem_of_getElem? (i := 22) rfl)))) (List.mem_cons_of_mem _ (List.mem_append_left _ (List.mem_append_left _ (List.mem_of_getElem? (i := 23) rfl)))) (List.mem_cons_of_mem _ (List.mem_append_left _ (List.mem_append_left _ (List.mem_of_getElem? (i := 24) rfl)))) (List.mem_cons_of_mem _ (List.mem_append_left _ (List.mem_append_left _ (List.mem_of_getElem? (i := 4) rfl)))) (by decide +kernel)) gg_y_X10_added_X10_takeLimbs__a5__a6
theorem gg_y_X10_added_X10_takeLimbs__a6__a5 : GoodIn w_y_X10_added w_y_X10_takeLimbs__a6__a5 := goodIn_sub (fun w h => (List.mem_cons.mp h).elim (fun e => (List.mem_cons_of_mem _ (List.mem_append_left _ (List.mem_append_right _ (List.mem_append_right _ (List.mem_append_right _ (List.mem_append_right _ (List.mem_append_right _ (List.mem_append_right _ (List.mem_append_right _ (List.mem_append_right _ (List.mem_append_right _ (List.mem_append_left _ (List.mem_cons.mpr (Or.inl e))))))))))))))) (fun h => (List.mem_append.mp h).elim (fun h => (List.mem_cons_of_mem _ (List.mem_append_left _ (List.mem_append_right _ (List.mem_append_right _ (List.mem_append_right _ (List.mem_append_right _ (List.mem_append_right _ (List.mem_append_right _ (List.mem_append_right _ (List.mem_append_right _ (List.mem_append_right _ (List.mem_append_left _ (List.mem_cons_of_mem _ h)))))))))))))) (fun h => List.mem_cons_of_mem _ (List.mem_append_right _ h)))) w_y_X10_takeLimbs__a6__a5_good
theorem g_y_X10_added_X10_takeLimbs__a6__a5_V90 : GoodIn w_y_X10_added (wsV RX10 90 RX10 yX10_takeLimbs w_y_X10_takeLimbs__a6__a5) := goodIn_app (nb_g4 (List.mem_cons_of_mem _ (List.mem_append_left _ (List.mem_append_left _ (List.mem_of_getElem? (i := 22) rfl)))) (List.mem_cons_of_mem _ (List.mem_append_left _ (List.mem_append_left _ (List.mem_of_getElem? (i := 23) rfl)))) (List.mem_cons_of_mem _ (List.mem_append_left _ (List.mem_append_left _ (List.mem_of_getElem? (i := 24) rfl)))) (List.mem_cons_of_mem _ (List.mem_append_left _ (List.mem_append_left _ (List.mem_of_getElem? (i := 4) rfl)))) (by decide +kernel)) gg_y_X10_added_X10_takeLimbs__a6__a5
set_option maxHeartbeats 40000000 in
set_option maxRecDepth 100000 in
theorem c_y_X10_added (l : Launch) (dC : Nat → ClassId) (dI : Nat → Nat → Nat) (cy : Nat → ClassId) (a z : Nat → Nat) (k0 : Nat) (L0 : LV) (σ0 : CS) (r0 : Int32 × CS) (h0 : y_X10_added k0 0 L0 σ0 = some r0) (sz : Nat) : Met l yX10_added w_y_X10_added ({ frames := 3, cells := 0, slots := 0, locals := 108 }) (va_Pc [.ref (a 4), .int (L0.1 1), .int (L0.1 2), .int (L0.1 3)] (nIn (dC, dI) cy sz (vC cy a z σ0))) (va_Qi (fun (x : Int32) (_ : Unit) => x = r0.1) (fun _ t => nOut (dC, dI) cy (va_A (vC cy a z σ0) sz) (vC cy a z r0.2) t) (va_A (vC cy a z σ0) sz)) 0 0 (va_A (vC cy a z σ0) sz) := by
  refine Met.ofW (cc := cX10_added) (maxL := 9) (ret := (some .int)) (by decide) rfl ?_
  intro p e s m args below meth c s₁ B hml hv
  obtain ⟨rfl, hsz, hP, hK, hD0, hG⟩ := hv
  have hx := B.exec
  have hb := B.bytes
  have hr := B.returns
  have hts := atoms_spec (ws := w_y_X10_added) B.pre
  have hown : s.vm.findClass RX10 = some m.cls := findClass_of_methodNamed B.named
  have hlocks := B.notSynchronized
  subst hsz
  have hD := hD0.self (sz := s.heap.size)
  generalize hAe : va_A (vC cy a z σ0) s.heap.size = A at hD ⊢
  have hA : ∀ q : Nat, s.heap.size ≤ q → A q := fun q h => by rw [← hAe]; exact Or.inr h
  have hS : va_S A s.heap s.heap [] := va_S.rf
  have hl := lv_entry ([.ref (a 4), .int (L0.1 1), .int (L0.1 2), .int (L0.1 3)]) (n := 9) (Nat.le_of_ble_eq_true rfl)
  rw [lg_entry_eq]
  generalize (lg_sl ([.ref (a 4), .int (L0.1 1), .int (L0.1 2), .int (L0.1 3)]) ++ List.replicate (9 - (lg_sl ([.ref (a 4), .int (L0.1 1), .int (L0.1 2), .int (L0.1 3)])).length) Slot.unset).toArray = ls at hl ⊢
  have hl : lv_has ls 9 [(0, .ref (a 4)), (1, .int (L0.1 1)), (2, .int (L0.1 2)), (3, .int (L0.1 3))] := hl
  have blk : ∀ k : Nat, (bC p l e (headSpec w_y_X10_added ({ frames := 3, cells := 0, slots := 0, locals := 108 })).room s m #[.ref (a 4), .int (L0.1 1), .int (L0.1 2), .int (L0.1 3)] below meth c dC dI cy a z A (kI dC dI cy a z A below #[.ref (a 4), .int (L0.1 1), .int (L0.1 2), .int (L0.1 3)] s) 9 (y_X10_added k 0) (fun L => [(0, .ref (a 4)), (1, .int (L.1 1)), (2, .int (L.1 2)), (3, .int (L.1 3))]) 0 (fun L => [])) ∧ (bC p l e (headSpec w_y_X10_added ({ frames := 3, cells := 0, slots := 0, locals := 108 })).room s m #[.ref (a 4), .int (L0.1 1), .int (L0.1 2), .int (L0.1 3)] below meth c dC dI cy a z A (kI dC dI cy a z A below #[.ref (a 4), .int (L0.1 1), .int (L0.1 2), .int (L0.1 3)] s) 9 (y_X10_added k 1) (fun L => [(0, .ref (a 4)), (1, .int (L.1 1)), (2, .int (L.1 2)), (3, .int (L.1 3))]) 40 (fun L => [])) ∧ (bC p l e (headSpec w_y_X10_added ({ frames := 3, cells := 0, slots := 0, locals := 108 })).room s m #[.ref (a 4), .int (L0.1 1), .int (L0.1 2), .int (L0.1 3)] below meth c dC dI cy a z A (kI dC dI cy a z A below #[.ref (a 4), .int (L0.1 1), .int (L0.1 2), .int (L0.1 3)] s) 9 (y_X10_added k 2) (fun L => [(4, .long (L.2.1 4))]) 33 (fun L => [.long (L.2.1 100), .ref (a 4)])) ∧ (bC p l e (headSpec w_y_X10_added ({ frames := 3, cells := 0, slots := 0, locals := 108 })).room s m #[.ref (a 4), .int (L0.1 1), .int (L0.1 2), .int (L0.1 3)] below meth c dC dI cy a z A (kI dC dI cy a z A below #[.ref (a 4), .int (L0.1 1), .int (L0.1 2), .int (L0.1 3)] s) 9 (y_X10_added k 3) (fun L => []) 35 (fun L => [.long (L.2.1 100), .long (L.2.1 101), .ref (a 4)])) ∧ (bC p l e (headSpec w_y_X10_added ({ frames := 3, cells := 0, slots := 0, locals := 108 })).room s m #[.ref (a 4), .int (L0.1 1), .int (L0.1 2), .int (L0.1 3)] below meth c dC dI cy a z A (kI dC dI cy a z A below #[.ref (a 4), .int (L0.1 1), .int (L0.1 2), .int (L0.1 3)] s) 9 (y_X10_added k 4) (fun L => [(0, .ref (a 4)), (4, .int (L.1 4)), (5, .int (L.1 5)), (6, .int (L.1 6))]) 82 (fun L => [])) ∧ (bC p l e (headSpec w_y_X10_added ({ frames := 3, cells := 0, slots := 0, locals := 108 })).room s m #[.ref (a 4), .int (L0.1 1), .int (L0.1 2), .int (L0.1 3)] below meth c dC dI cy a z A (kI dC dI cy a z A below #[.ref (a 4), .int (L0.1 1), .int (L0.1 2), .int (L0.1 3)] s) 9 (y_X10_added k 5) (fun L => [(0, .ref (a 4)), (4, .int (L.1 4)), (5, .int (L.1 5)), (6, .int (L.1 6))]) 83 (fun L => [.int (L.1 100)])) ∧ (bC p l e (headSpec w_y_X10_added ({ frames := 3, cells := 0, slots := 0, locals := 108 })).room s m #[.ref (a 4), .int (L0.1 1), .int (L0.1 2), .int (L0.1 3)] below meth c dC dI cy a z A (kI dC dI cy a z A below #[.ref (a 4), .int (L0.1 1), .int (L0.1 2), .int (L0.1 3)] s) 9 (y_X10_added k 6) (fun L => [(0, .ref (a 4)), (4, .int (L.1 4)), (5, .int (L.1 5)), (6, .int (L.1 6)), (7, .int (L.1 7))]) 107 (fun L => [])) ∧ (bC p l e (headSpec w_y_X10_added ({ frames := 3, cells := 0, slots := 0, locals := 108 })).room s m #[.ref (a 4), .int (L0.1 1), .int (L0.1 2), .int (L0.1 3)] below meth c dC dI cy a z A (kI dC dI cy a z A below #[.ref (a 4), .int (L0.1 1), .int (L0.1 2), .int (L0.1 3)] s) 9 (y_X10_added k 7) (fun L => [(0, .ref (a 4)), (4, .int (L.1 4)), (5, .int (L.1 5)), (6, .int (L.1 6)), (7, .int (L.1 7)), (8, .int (L.1 8))]) 125 (fun L => [])) ∧ (bC p l e (headSpec w_y_X10_added ({ frames := 3, cells := 0, slots := 0, locals := 108 })).room s m #[.ref (a 4), .int (L0.1 1), .int (L0.1 2), .int (L0.1 3)] below meth c dC dI cy a z A (kI dC dI cy a z A below #[.ref (a 4), .int (L0.1 1), .int (L0.1 2), .int (L0.1 3)] s) 9 (y_X10_added k 8) (fun L => [(0, .ref (a 4)), (4, .int (L.1 4)), (5, .int (L.1 5)), (7, .int (L.1 7))]) 153 (fun L => [])) := by
    intro k
    induction k with
    | zero => exact ⟨fun L σ r h => (by cases h), fun L σ r h => (by cases h), fun L σ r h => (by cases h), fun L σ r h => (by cases h), fun L σ r h => (by cases h), fun L σ r h => (by cases h), fun L σ r h => (by cases h), fun L σ r h => (by cases h), fun L σ r h => (by cases h)⟩
    | succ k ih =>
      refine ⟨?_, ?_, ?_, ?_, ?_, ?_, ?_, ?_, ?_⟩
      · intro L σ r h H locs ls hP hD hS hl
        rw [y_X10_added] at h
        refine lv_iload_n hx hb dX10_added_0 rfl (lv_at hl 1 rfl) ?_
        refine lv_if_ge (tgt := 40) hx hb dX10_added_1 (by decide) (fun c1 => ?_) (fun c1 => ?_)
        · rw [if_pos c1] at h
          exact ih.2.1 L σ r h H locs ls hP hD hS (lv_sub hl [0, 1, 2, 3] rfl)
        · rw [if_neg c1] at h
          refine lv_iload_n hx hb dX10_added_4 rfl (lv_at hl 2 rfl) ?_
          refine lv_if_ge (tgt := 40) hx hb dX10_added_5 (by decide) (fun c2 => ?_) (fun c2 => ?_)
          · rw [if_pos c2] at h
            exact ih.2.1 L σ r h H locs ls hP hD hS (lv_sub hl [0, 1, 2, 3] rfl)
          · rw [if_neg c2] at h
            refine lv_iload_n hx hb dX10_added_8 rfl (lv_at hl 2 rfl) ?_
            refine lv_iconst (v := 4) hx hb dX10_added_9 (by decide) ?_
            refine lv_ishl hx hb dX10_added_10 ?_
            refine lv_iconst (v := 4) hx hb dX10_added_11 (by decide) ?_
            refine lv_ishr hx hb dX10_added_12 ?_
            refine lv_i2l (v := ((((((L.1 2)) <<< ((4 : Int32) &&& 31))) >>> ((4 : Int32) &&& 31))).toInt64) hx hb dX10_added_13 rfl ?_
            refine lv_lstore (lv' := [(4, .long (((((((L.1 2)) <<< ((4 : Int32) &&& 31))) >>> ((4 : Int32) &&& 31))).toInt64)), (0, .ref (a 4)), (1, .int (L.1 1)), (2, .int (L.1 2)), (3, .int (L.1 3))]) hx hb dX10_added_14 hl (by decide) rfl (fun ls hl => ?_)
            refine lv_aload_n hx hb dX10_added_16 rfl (lv_at hl 1 rfl) ?_
            refine lv_iload_n hx hb dX10_added_17 rfl (lv_at hl 2 rfl) ?_
            refine lv_iconst (v := 4) hx hb dX10_added_18 (by decide) ?_
            refine lv_ishl hx hb dX10_added_19 ?_
            refine lv_iconst (v := 4) hx hb dX10_added_20 (by decide) ?_
            refine lv_ishr hx hb dX10_added_21 ?_
            refine lv_i2l (v := ((((((L.1 1)) <<< ((4 : Int32) &&& 31))) >>> ((4 : Int32) &&& 31))).toInt64) hx hb dX10_added_22 rfl ?_
            refine lv_iload_n hx hb dX10_added_23 rfl (lv_at hl 4 rfl) ?_
            refine lv_if_eq (tgt := 33) hx hb dX10_added_24 (by decide) (fun c3 => ?_) (fun c3 => ?_)
            · rw [if_pos c3] at h
              exact ih.2.2.1 (lJ (lJ L 4 ((((((((L.1 2)) <<< ((4 : Int32) &&& 31))) >>> ((4 : Int32) &&& 31))).toInt64))) 100 ((((((((L.1 1)) <<< ((4 : Int32) &&& 31))) >>> ((4 : Int32) &&& 31))).toInt64))) σ r h H locs ls hP hD hS (lv_sub hl [0] rfl)
            · rw [if_neg c3] at h
              refine lv_lload hx hb dX10_added_27 (lv_at hl 0 rfl) ?_
              refine lv_lneg hx hb dX10_added_29 ?_
              refine lv_goto (tgt := 35) hx hb dX10_added_30 (by decide) ?_
              exact ih.2.2.2.1 (lJ (lJ L 100 ((- ((((((((L.1 2)) <<< ((4 : Int32) &&& 31))) >>> ((4 : Int32) &&& 31))).toInt64))))) 101 ((((((((L.1 1)) <<< ((4 : Int32) &&& 31))) >>> ((4 : Int32) &&& 31))).toInt64))) σ r h H locs ls hP hD hS (lv_sub hl [] rfl)
      · intro L σ r h H locs ls hP hD hS hl
        rw [y_X10_added] at h
        refine lv_aload_n hx hb dX10_added_40 rfl (lv_at hl 0 rfl) ?_
        refine lv_iload_n hx hb dX10_added_41 rfl (lv_at hl 1 rfl) ?_
        refine lv_aload_n hx hb dX10_added_42 rfl (lv_at hl 0 rfl) ?_
        refine hg_4_1 hx hb hts in_y_X10_added_X10 hown hK hP (hts _ (List.mem_cons_of_mem _ (List.mem_append_left _ (List.mem_append_left _ (List.mem_of_getElem? (i := 0) rfl))))) dX10_added_43 ?_
        obtain ⟨r1, hc1, h⟩ := oc_ex h
        refine kc_i (va_runV (As := [.int (L.1 1), .ref (a 5)]) (rest := []) ⟨hx, hb, hml, hown, hts⟩ (c_y_X10_load__a5 l dC dI cy a z k (lI lZ 1 ((L.1 1))) σ r1 hc1 H.size) (cwV 2 hts g_y_X10_added_X10_load__a5_V64 rfl rfl rfl hd_y_X10_load__a5 ⟨Nat.le_of_ble_eq_true rfl, Nat.le_of_ble_eq_true rfl⟩) ⟨nb_blind, va_recv hK hP (ci := 9) (q0 := 4) rfl rfl, (kb_pre hK hG hP hD)⟩ rfl rfl hl.1 rfl (lv_room (Nat.le_of_ble_eq_true rfl)) dX10_added_46 ⟨Nat.le_refl _, Nat.le_refl _⟩) hA hP hD hS (fun H locs hP hD hS => ?_)
        refine lv_istore (lv' := [(4, .int r1.1), (0, .ref (a 4)), (1, .int (L.1 1)), (2, .int (L.1 2)), (3, .int (L.1 3))]) hx hb dX10_added_49 hl (by decide) rfl (fun ls hl => ?_)
        refine lv_aload_n hx hb dX10_added_51 rfl (lv_at hl 1 rfl) ?_
        refine lv_iload_n hx hb dX10_added_52 rfl (lv_at hl 3 rfl) ?_
        refine lv_aload_n hx hb dX10_added_53 rfl (lv_at hl 1 rfl) ?_
        refine hg_4_2 hx hb hts in_y_X10_added_X10 hown hK hP (hts _ (List.mem_cons_of_mem _ (List.mem_append_left _ (List.mem_append_left _ (List.mem_of_getElem? (i := 5) rfl))))) dX10_added_54 ?_
        obtain ⟨r2, hc2, h⟩ := oc_ex h
        refine kc_i (va_runV (As := [.int (L.1 2), .ref (a 6)]) (rest := []) ⟨hx, hb, hml, hown, hts⟩ (c_y_X10_load__a6 l dC dI cy a z k (lI lZ 1 ((L.1 2))) r1.2 r2 hc2 H.size) (cwV 2 hts g_y_X10_added_X10_load__a6_V64 rfl rfl rfl hd_y_X10_load__a6 ⟨Nat.le_of_ble_eq_true rfl, Nat.le_of_ble_eq_true rfl⟩) ⟨nb_blind, va_recv hK hP (ci := 9) (q0 := 4) rfl rfl, (kb_pre hK hG hP hD)⟩ rfl rfl hl.1 rfl (lv_room (Nat.le_of_ble_eq_true rfl)) dX10_added_57 ⟨Nat.le_refl _, Nat.le_refl _⟩) hA hP hD hS (fun H locs hP hD hS => ?_)
        refine lv_istore (lv' := [(5, .int r2.1), (4, .int r1.1), (0, .ref (a 4)), (1, .int (L.1 1)), (2, .int (L.1 2)), (3, .int (L.1 3))]) hx hb dX10_added_60 hl (by decide) rfl (fun ls hl => ?_)
        refine lv_aload_n hx hb dX10_added_62 rfl (lv_at hl 2 rfl) ?_
        refine lv_iload_n hx hb dX10_added_63 rfl (lv_at hl 3 rfl) ?_
        obtain ⟨r3, hc3, h⟩ := oc_ex h
        refine kc_i (va_runV (As := [.int (L.1 1)]) (rest := []) ⟨hx, hb, hml, hown, hts⟩ (c_y_X10_isBelow l dC dI cy a z k (lI lZ 1 ((L.1 1))) r2.2 r3 hc3 H.size) (cwV 1 hts g_y_X10_added_X10_isBelow_V68 rfl rfl rfl hd_y_X10_isBelow ⟨Nat.le_of_ble_eq_true rfl, Nat.le_of_ble_eq_true rfl⟩) ⟨nb_blind, va_recv hK hP (ci := 9) (q0 := 4) rfl rfl, (kb_pre hK hG hP hD)⟩ rfl rfl hl.1 rfl (lv_room (Nat.le_of_ble_eq_true rfl)) dX10_added_64 ⟨Nat.le_refl _, Nat.le_refl _⟩) hA hP hD hS (fun H locs hP hD hS => ?_)
        refine lv_istore (lv' := [(6, .int r3.1), (5, .int r2.1), (4, .int r1.1), (0, .ref (a 4)), (1, .int (L.1 1)), (2, .int (L.1 2)), (3, .int (L.1 3))]) hx hb dX10_added_67 hl (by decide) rfl (fun ls hl => ?_)
        refine lv_aload_n hx hb dX10_added_69 rfl (lv_at hl 3 rfl) ?_
        refine lv_iload_n hx hb dX10_added_70 rfl (lv_at hl 5 rfl) ?_
        obtain ⟨r4, hc4, h⟩ := oc_ex h
        refine kc_i (va_runV (As := [.int (L.1 2)]) (rest := []) ⟨hx, hb, hml, hown, hts⟩ (c_y_X10_isBelow l dC dI cy a z k (lI lZ 1 ((L.1 2))) r3.2 r4 hc4 H.size) (cwV 1 hts g_y_X10_added_X10_isBelow_V68 rfl rfl rfl hd_y_X10_isBelow ⟨Nat.le_of_ble_eq_true rfl, Nat.le_of_ble_eq_true rfl⟩) ⟨nb_blind, va_recv hK hP (ci := 9) (q0 := 4) rfl rfl, (kb_pre hK hG hP hD)⟩ rfl rfl hl.1 rfl (lv_room (Nat.le_of_ble_eq_true rfl)) dX10_added_71 ⟨Nat.le_refl _, Nat.le_refl _⟩) hA hP hD hS (fun H locs hP hD hS => ?_)
        refine lv_iload_n hx hb dX10_added_74 rfl (lv_at hl 6 rfl) ?_
        refine lv_icmp_eq (tgt := 82) hx hb dX10_added_75 (by decide) (fun c5 => ?_) (fun c5 => ?_)
        · rw [if_pos c5] at h
          exact ih.2.2.2.2.1 (lI (lI (lI L 4 r1.1) 5 r2.1) 6 r3.1) r4.2 r h H locs ls hP hD hS (lv_sub hl [3, 2, 1, 0] rfl)
        · rw [if_neg c5] at h
          refine lv_iconst (v := 1) hx hb dX10_added_78 (by decide) ?_
          refine lv_goto (tgt := 83) hx hb dX10_added_79 (by decide) ?_
          exact ih.2.2.2.2.2.1 (lI (lI (lI (lI L 4 r1.1) 5 r2.1) 6 r3.1) 100 1) r4.2 r h H locs ls hP hD hS (lv_sub hl [3, 2, 1, 0] rfl)
      · intro L σ r h H locs ls hP hD hS hl
        rw [y_X10_added] at h
        refine lv_lload hx hb dX10_added_33 (lv_at hl 0 rfl) ?_
        exact ih.2.2.2.1 (lJ (lJ L 100 ((L.2.1 4))) 101 ((L.2.1 100))) σ r h H locs ls hP hD hS (lv_sub hl [] rfl)
      · intro L σ r h H locs ls hP hD hS hl
        rw [y_X10_added] at h
        refine lv_ladd hx hb dX10_added_35 ?_
        obtain ⟨r1, hc1, h⟩ := oc_ex h
        refine kc_i (va_runV (As := [.long (((L.2.1 101)) + ((L.2.1 100)))]) (rest := []) ⟨hx, hb, hml, hown, hts⟩ (c_y_X10_of l dC dI cy a z k (lJ lZ 1 ((((L.2.1 101)) + ((L.2.1 100))))) σ r1 hc1 H.size) (cwV 1 hts g_y_X10_added_X10_of_V79 rfl rfl rfl hd_y_X10_of ⟨Nat.le_of_ble_eq_true rfl, Nat.le_of_ble_eq_true rfl⟩) ⟨nb_blind, va_recv hK hP (ci := 9) (q0 := 4) rfl rfl, (kb_pre hK hG hP hD)⟩ rfl rfl hl.1 rfl (lv_room (Nat.le_of_ble_eq_true rfl)) dX10_added_36 ⟨Nat.le_refl _, Nat.le_refl _⟩) hA hP hD hS (fun H locs hP hD hS => ?_)
        obtain rfl := Option.some.inj h
        exact W.iret (v := r1.1) hx hb hr (fun t ht hW => ⟨⟨r1.1, (), rfl, rfl, by rw [ht]; exact hP, va_K.moved hW.alike hK, hD⟩, hS.F ht⟩) hS.2.2 dX10_added_39
      · intro L σ r h H locs ls hP hD hS hl
        rw [y_X10_added] at h
        refine lv_iconst (v := 0) hx hb dX10_added_82 (by decide) ?_
        exact ih.2.2.2.2.2.1 (lI L 100 0) σ r h H locs ls hP hD hS (lv_sub hl [0, 1, 2, 3] rfl)
      · intro L σ r h H locs ls hP hD hS hl
        rw [y_X10_added] at h
        refine lv_istore (lv' := [(7, .int (L.1 100)), (0, .ref (a 4)), (4, .int (L.1 4)), (5, .int (L.1 5)), (6, .int (L.1 6))]) hx hb dX10_added_83 hl (by decide) rfl (fun ls hl => ?_)
        refine lv_iload hx hb dX10_added_85 (lv_at hl 4 rfl) ?_
        refine lv_iload hx hb dX10_added_87 (lv_at hl 0 rfl) ?_
        refine lv_icmp_ne (tgt := 107) hx hb dX10_added_89 (by decide) (fun c1 => ?_) (fun c1 => ?_)
        · rw [if_neg c1] at h
          exact ih.2.2.2.2.2.2.1 (lI L 7 ((L.1 100))) σ r h H locs ls hP hD hS (lv_sub hl [1, 2, 3, 4, 0] rfl)
        · rw [if_pos c1] at h
          refine lv_aload_n hx hb dX10_added_92 rfl (lv_at hl 1 rfl) ?_
          refine lv_aload_n hx hb dX10_added_93 rfl (lv_at hl 1 rfl) ?_
          refine lv_iload hx hb dX10_added_94 (lv_at hl 2 rfl) ?_
          refine lv_iload hx hb dX10_added_96 (lv_at hl 3 rfl) ?_
          obtain ⟨r2, hc2, h⟩ := oc_ex h
          refine kc_i (va_runV (As := [.int (L.1 4), .int (L.1 5)]) (rest := [.ref (a 4)]) ⟨hx, hb, hml, hown, hts⟩ (c_y_X10_addLimbs l dC dI cy a z k (lI (lI lZ 1 ((L.1 4))) 2 ((L.1 5))) σ r2 hc2 H.size) (cwV 2 hts g_y_X10_added_X10_addLimbs_V83 rfl rfl rfl hd_y_X10_addLimbs ⟨Nat.le_of_ble_eq_true rfl, Nat.le_of_ble_eq_true rfl⟩) ⟨nb_blind, va_recv hK hP (ci := 9) (q0 := 4) rfl rfl, (kb_pre hK hG hP hD)⟩ rfl rfl hl.1 rfl (lv_room (Nat.le_of_ble_eq_true rfl)) dX10_added_98 ⟨Nat.le_refl _, Nat.le_refl _⟩) hA hP hD hS (fun H locs hP hD hS => ?_)
          refine lv_iload hx hb dX10_added_101 (lv_at hl 4 rfl) ?_
          obtain ⟨r3, hc3, h⟩ := oc_ex h
          refine kc_i (va_runV (As := [.int r2.1, .int (L.1 6)]) (rest := []) ⟨hx, hb, hml, hown, hts⟩ (c_y_X10_made l dC dI cy a z k (lI (lI lZ 1 r2.1) 2 ((L.1 6))) r2.2 r3 hc3 H.size) (cwV 2 hts g_y_X10_added_X10_made_V72 rfl rfl rfl hd_y_X10_made ⟨Nat.le_of_ble_eq_true rfl, Nat.le_of_ble_eq_true rfl⟩) ⟨nb_blind, va_recv hK hP (ci := 9) (q0 := 4) rfl rfl, (kb_pre hK hG hP hD)⟩ rfl rfl hl.1 rfl (lv_room (Nat.le_of_ble_eq_true rfl)) dX10_added_103 ⟨Nat.le_refl _, Nat.le_refl _⟩) hA hP hD hS (fun H locs hP hD hS => ?_)
          obtain rfl := Option.some.inj h
          exact W.iret (v := r3.1) hx hb hr (fun t ht hW => ⟨⟨r3.1, (), rfl, rfl, by rw [ht]; exact hP, va_K.moved hW.alike hK, hD⟩, hS.F ht⟩) hS.2.2 dX10_added_106
      · intro L σ r h H locs ls hP hD hS hl
        rw [y_X10_added] at h
        refine lv_aload_n hx hb dX10_added_107 rfl (lv_at hl 0 rfl) ?_
        refine lv_iload hx hb dX10_added_108 (lv_at hl 1 rfl) ?_
        refine lv_iload hx hb dX10_added_110 (lv_at hl 2 rfl) ?_
        obtain ⟨r1, hc1, h⟩ := oc_ex h
        refine kc_i (va_runV (As := [.int (L.1 4), .int (L.1 5)]) (rest := []) ⟨hx, hb, hml, hown, hts⟩ (c_y_X10_compareLimbs l dC dI cy a z k (lI (lI lZ 1 ((L.1 4))) 2 ((L.1 5))) σ r1 hc1 H.size) (cwV 2 hts g_y_X10_added_X10_compareLimbs_V87 rfl rfl rfl hd_y_X10_compareLimbs ⟨Nat.le_of_ble_eq_true rfl, Nat.le_of_ble_eq_true rfl⟩) ⟨nb_blind, va_recv hK hP (ci := 9) (q0 := 4) rfl rfl, (kb_pre hK hG hP hD)⟩ rfl rfl hl.1 rfl (lv_room (Nat.le_of_ble_eq_true rfl)) dX10_added_112 ⟨Nat.le_refl _, Nat.le_refl _⟩) hA hP hD hS (fun H locs hP hD hS => ?_)
        refine lv_istore (lv' := [(8, .int r1.1), (0, .ref (a 4)), (4, .int (L.1 4)), (5, .int (L.1 5)), (6, .int (L.1 6)), (7, .int (L.1 7))]) hx hb dX10_added_115 hl (by decide) rfl (fun ls hl => ?_)
        refine lv_iload hx hb dX10_added_117 (lv_at hl 0 rfl) ?_
        refine lv_if_ne (tgt := 125) hx hb dX10_added_119 (by decide) (fun c2 => ?_) (fun c2 => ?_)
        · rw [if_neg c2] at h
          exact ih.2.2.2.2.2.2.2.1 (lI L 8 r1.1) r1.2 r h H locs ls hP hD hS (lv_sub hl [1, 2, 3, 4, 5, 0] rfl)
        · rw [if_pos c2] at h
          refine lv_ldc (v := (-1610612736)) hx hb hown (hts _ (List.mem_cons_of_mem _ (List.mem_append_left _ (List.mem_append_left _ (List.mem_of_getElem? (i := 21) rfl))))) dX10_added_122 ?_
          obtain rfl := Option.some.inj h
          exact W.iret (v := (-1610612736)) hx hb hr (fun t ht hW => ⟨⟨(-1610612736), (), rfl, rfl, by rw [ht]; exact hP, va_K.moved hW.alike hK, hD⟩, hS.F ht⟩) hS.2.2 dX10_added_124
      · intro L σ r h H locs ls hP hD hS hl
        rw [y_X10_added] at h
        refine lv_iload hx hb dX10_added_125 (lv_at hl 5 rfl) ?_
        refine lv_if_le (tgt := 153) hx hb dX10_added_127 (by decide) (fun c1 => ?_) (fun c1 => ?_)
        · rw [if_pos c1] at h
          exact ih.2.2.2.2.2.2.2.2 L σ r h H locs ls hP hD hS (lv_sub hl [0, 1, 2, 4] rfl)
        · rw [if_neg c1] at h
          refine lv_aload_n hx hb dX10_added_130 rfl (lv_at hl 0 rfl) ?_
          refine lv_aload_n hx hb dX10_added_131 rfl (lv_at hl 0 rfl) ?_
          refine lv_aload_n hx hb dX10_added_132 rfl (lv_at hl 0 rfl) ?_
          refine hg_4_1 hx hb hts in_y_X10_added_X10 hown hK hP (hts _ (List.mem_cons_of_mem _ (List.mem_append_left _ (List.mem_append_left _ (List.mem_of_getElem? (i := 0) rfl))))) dX10_added_133 ?_
          refine lv_iload hx hb dX10_added_136 (lv_at hl 1 rfl) ?_
          refine lv_aload_n hx hb dX10_added_138 rfl (lv_at hl 0 rfl) ?_
          refine hg_4_2 hx hb hts in_y_X10_added_X10 hown hK hP (hts _ (List.mem_cons_of_mem _ (List.mem_append_left _ (List.mem_append_left _ (List.mem_of_getElem? (i := 5) rfl))))) dX10_added_139 ?_
          refine lv_iload hx hb dX10_added_142 (lv_at hl 2 rfl) ?_
          obtain ⟨r2, hc2, h⟩ := oc_ex h
          refine kc_i (va_runV (As := [.ref (a 5), .int (L.1 4), .ref (a 6), .int (L.1 5)]) (rest := [.ref (a 4)]) ⟨hx, hb, hml, hown, hts⟩ (c_y_X10_takeLimbs__a5__a6 l dC dI cy a z k (lI (lI lZ 2 ((L.1 4))) 4 ((L.1 5))) σ r2 hc2 H.size) (cwV 4 hts g_y_X10_added_X10_takeLimbs__a5__a6_V90 rfl rfl rfl hd_y_X10_takeLimbs__a5__a6 ⟨Nat.le_of_ble_eq_true rfl, Nat.le_of_ble_eq_true rfl⟩) ⟨nb_blind, va_recv hK hP (ci := 9) (q0 := 4) rfl rfl, (kb_pre hK hG hP hD)⟩ rfl rfl hl.1 rfl (lv_room (Nat.le_of_ble_eq_true rfl)) dX10_added_144 ⟨Nat.le_refl _, Nat.le_refl _⟩) hA hP hD hS (fun H locs hP hD hS => ?_)
          refine lv_iload hx hb dX10_added_147 (lv_at hl 3 rfl) ?_
          obtain ⟨r3, hc3, h⟩ := oc_ex h
          refine kc_i (va_runV (As := [.int r2.1, .int (L.1 6)]) (rest := []) ⟨hx, hb, hml, hown, hts⟩ (c_y_X10_made l dC dI cy a z k (lI (lI lZ 1 r2.1) 2 ((L.1 6))) r2.2 r3 hc3 H.size) (cwV 2 hts g_y_X10_added_X10_made_V72 rfl rfl rfl hd_y_X10_made ⟨Nat.le_of_ble_eq_true rfl, Nat.le_of_ble_eq_true rfl⟩) ⟨nb_blind, va_recv hK hP (ci := 9) (q0 := 4) rfl rfl, (kb_pre hK hG hP hD)⟩ rfl rfl hl.1 rfl (lv_room (Nat.le_of_ble_eq_true rfl)) dX10_added_149 ⟨Nat.le_refl _, Nat.le_refl _⟩) hA hP hD hS (fun H locs hP hD hS => ?_)
          obtain rfl := Option.some.inj h
          exact W.iret (v := r3.1) hx hb hr (fun t ht hW => ⟨⟨r3.1, (), rfl, rfl, by rw [ht]; exact hP, va_K.moved hW.alike hK, hD⟩, hS.F ht⟩) hS.2.2 dX10_added_152
      · intro L σ r h H locs ls hP hD hS hl
        rw [y_X10_added] at h
        refine lv_aload_n hx hb dX10_added_153 rfl (lv_at hl 0 rfl) ?_
        refine lv_aload_n hx hb dX10_added_154 rfl (lv_at hl 0 rfl) ?_
        refine lv_aload_n hx hb dX10_added_155 rfl (lv_at hl 0 rfl) ?_
        refine hg_4_2 hx hb hts in_y_X10_added_X10 hown hK hP (hts _ (List.mem_cons_of_mem _ (List.mem_append_left _ (List.mem_append_left _ (List.mem_of_getElem? (i := 5) rfl))))) dX10_added_156 ?_
        refine lv_iload hx hb dX10_added_159 (lv_at hl 2 rfl) ?_
        refine lv_aload_n hx hb dX10_added_161 rfl (lv_at hl 0 rfl) ?_
        refine hg_4_1 hx hb hts in_y_X10_added_X10 hown hK hP (hts _ (List.mem_cons_of_mem _ (List.mem_append_left _ (List.mem_append_left _ (List.mem_of_getElem? (i := 0) rfl))))) dX10_added_162 ?_
        refine lv_iload hx hb dX10_added_165 (lv_at hl 1 rfl) ?_
        obtain ⟨r1, hc1, h⟩ := oc_ex h
        refine kc_i (va_runV (As := [.ref (a 6), .int (L.1 5), .ref (a 5), .int (L.1 4)]) (rest := [.ref (a 4)]) ⟨hx, hb, hml, hown, hts⟩ (c_y_X10_takeLimbs__a6__a5 l dC dI cy a z k (lI (lI lZ 2 ((L.1 5))) 4 ((L.1 4))) σ r1 hc1 H.size) (cwV 4 hts g_y_X10_added_X10_takeLimbs__a6__a5_V90 rfl rfl rfl hd_y_X10_takeLimbs__a6__a5 ⟨Nat.le_of_ble_eq_true rfl, Nat.le_of_ble_eq_true rfl⟩) ⟨nb_blind, va_recv hK hP (ci := 9) (q0 := 4) rfl rfl, (kb_pre hK hG hP hD)⟩ rfl rfl hl.1 rfl (lv_room (Nat.le_of_ble_eq_true rfl)) dX10_added_167 ⟨Nat.le_refl _, Nat.le_refl _⟩) hA hP hD hS (fun H locs hP hD hS => ?_)
        refine lv_iload hx hb dX10_added_170 (lv_at hl 3 rfl) ?_
        obtain ⟨r2, hc2, h⟩ := oc_ex h
        refine kc_i (va_runV (As := [.int r1.1, .int (L.1 7)]) (rest := []) ⟨hx, hb, hml, hown, hts⟩ (c_y_X10_made l dC dI cy a z k (lI (lI lZ 1 r1.1) 2 ((L.1 7))) r1.2 r2 hc2 H.size) (cwV 2 hts g_y_X10_added_X10_made_V72 rfl rfl rfl hd_y_X10_made ⟨Nat.le_of_ble_eq_true rfl, Nat.le_of_ble_eq_true rfl⟩) ⟨nb_blind, va_recv hK hP (ci := 9) (q0 := 4) rfl rfl, (kb_pre hK hG hP hD)⟩ rfl rfl hl.1 rfl (lv_room (Nat.le_of_ble_eq_true rfl)) dX10_added_172 ⟨Nat.le_refl _, Nat.le_refl _⟩) hA hP hD hS (fun H locs hP hD hS => ?_)
        obtain rfl := Option.some.inj h
        exact W.iret (v := r2.1) hx hb hr (fun t ht hW => ⟨⟨r2.1, (), rfl, rfl, by rw [ht]; exact hP, va_K.moved hW.alike hK, hD⟩, hS.F ht⟩) hS.2.2 dX10_added_175
  exact (blk k0).1 L0 σ0 r0 h0 s.heap [] ls hP hD hS hl
/-! X1_length -/
def y_X1_length : Nat → Nat → LV → CS → Option (Int32 × CS)
  | 0, _, _, _ => none
  | k + 1, 0, L, σ => if 0 ≤ ((L.1 1)) then (y_X1_length k 1 L σ) else (if ((((L.1 1)) &&& ((-268435456)))) = ((-1073741824)) then (y_X1_length k 3 (lI L 100 1) σ) else (y_X1_length k 2 L σ))
  | k + 1, 1, L, σ => if ¬ (((L.1 1)) < 0 ∨ (sN σ 3) ≤ ((L.1 1)).toNatClampNeg) then (some (((((((σ.2.2.1 3 ((L.1 1)).toNatClampNeg)).toUInt32 >>> ((4 : Int32).toUInt32 &&& Int32.toUInt32 31)).toInt32)) &&& 4095), σ)) else none
  | k + 1, 2, L, σ => y_X1_length k 3 (lI L 100 0) σ
  | k + 1, 3, L, σ => some ((L.1 100), σ)
  | _ + 1, _ + 4, _, _ => none
def o_y_X1_length : List Cond := [.constant RX1 33 (-268435456), .constant RX1 34 (-1073741824), .fieldLink RX1 11 "SetHouse$Heap" "mem" "[I"]
theorem o_y_X1_length_good : o_y_X1_length.all goodWord = true := by decide +kernel
def p_y_X1_length : List Cond := o_y_X1_length ++ []
theorem p_y_X1_length_good : p_y_X1_length.all goodWord = true := nb_all2 o_y_X1_length_good rfl
def w_y_X1_length : List Cond := .code yX1_length cX1_length 2 (some .int) :: (p_y_X1_length ++ fC)
theorem w_y_X1_length_good : w_y_X1_length.all goodWord = true := nb_allc (by decide +kernel) (nb_all2 p_y_X1_length_good fC_good)
theorem in_y_X1_length_X1 : ∀ w ∈ wsX10, w ∈ w_y_X1_length := fun _ h => List.mem_cons_of_mem _ (List.mem_append_right _ (List.mem_append_right _ (List.mem_append_left _ h)))
theorem hd_y_X1_length : yX1_length.cls = RX1 ∧ yX1_length.cls ≠ "java/lang/invoke/MethodHandle" ∧ yX1_length.cls ≠ "java/lang/invoke/VarHandle" ∧ (parseMethodDescriptor yX1_length.desc).map (fun d => d.parameters.length) = some 1 := by decide +kernel
set_option maxHeartbeats 40000000 in
set_option maxRecDepth 100000 in
theorem c_y_X1_length (l : Launch) (dC : Nat → ClassId) (dI : Nat → Nat → Nat) (cy : Nat → ClassId) (a z : Nat → Nat) (k0 : Nat) (L0 : LV) (σ0 : CS) (r0 : Int32 × CS) (h0 : y_X1_length k0 0 L0 σ0 = some r0) (sz : Nat) : Met l yX1_length w_y_X1_length ({ frames := 0, cells := 0, slots := 0, locals := 0 }) (va_Pc [.ref (a 0), .int (L0.1 1)] (nIn (dC, dI) cy sz (vC cy a z σ0))) (va_Qi (fun (x : Int32) (_ : Unit) => x = r0.1) (fun _ t => nOut (dC, dI) cy (va_A (vC cy a z σ0) sz) (vC cy a z r0.2) t) (va_A (vC cy a z σ0) sz)) 0 0 (va_A (vC cy a z σ0) sz) := by
  refine Met.ofW (cc := cX1_length) (maxL := 2) (ret := (some .int)) (by decide) rfl ?_
  intro p e s m args below meth c s₁ B hml hv
  obtain ⟨rfl, hsz, hP, hK, hD0, hG⟩ := hv
  have hx := B.exec
  have hb := B.bytes
  have hr := B.returns
  have hts := atoms_spec (ws := w_y_X1_length) B.pre
  have hown : s.vm.findClass RX1 = some m.cls := findClass_of_methodNamed B.named
  have hlocks := B.notSynchronized
  subst hsz
  have hD := hD0.self (sz := s.heap.size)
  generalize hAe : va_A (vC cy a z σ0) s.heap.size = A at hD ⊢
  have hA : ∀ q : Nat, s.heap.size ≤ q → A q := fun q h => by rw [← hAe]; exact Or.inr h
  have hS : va_S A s.heap s.heap [] := va_S.rf
  have hl := lv_entry ([.ref (a 0), .int (L0.1 1)]) (n := 2) (Nat.le_of_ble_eq_true rfl)
  rw [lg_entry_eq]
  generalize (lg_sl ([.ref (a 0), .int (L0.1 1)]) ++ List.replicate (2 - (lg_sl ([.ref (a 0), .int (L0.1 1)])).length) Slot.unset).toArray = ls at hl ⊢
  have hl : lv_has ls 2 [(0, .ref (a 0)), (1, .int (L0.1 1))] := hl
  have blk : ∀ k : Nat, (bC p l e (headSpec w_y_X1_length ({ frames := 0, cells := 0, slots := 0, locals := 0 })).room s m #[.ref (a 0), .int (L0.1 1)] below meth c dC dI cy a z A (kI dC dI cy a z A below #[.ref (a 0), .int (L0.1 1)] s) 2 (y_X1_length k 0) (fun L => [(0, .ref (a 0)), (1, .int (L.1 1))]) 0 (fun L => [])) ∧ (bC p l e (headSpec w_y_X1_length ({ frames := 0, cells := 0, slots := 0, locals := 0 })).room s m #[.ref (a 0), .int (L0.1 1)] below meth c dC dI cy a z A (kI dC dI cy a z A below #[.ref (a 0), .int (L0.1 1)] s) 2 (y_X1_length k 1) (fun L => [(0, .ref (a 0)), (1, .int (L.1 1))]) 19 (fun L => [])) ∧ (bC p l e (headSpec w_y_X1_length ({ frames := 0, cells := 0, slots := 0, locals := 0 })).room s m #[.ref (a 0), .int (L0.1 1)] below meth c dC dI cy a z A (kI dC dI cy a z A below #[.ref (a 0), .int (L0.1 1)] s) 2 (y_X1_length k 2) (fun L => []) 17 (fun L => [])) ∧ (bC p l e (headSpec w_y_X1_length ({ frames := 0, cells := 0, slots := 0, locals := 0 })).room s m #[.ref (a 0), .int (L0.1 1)] below meth c dC dI cy a z A (kI dC dI cy a z A below #[.ref (a 0), .int (L0.1 1)] s) 2 (y_X1_length k 3) (fun L => []) 18 (fun L => [.int (L.1 100)])) := by
    intro k
    induction k with
    | zero => exact ⟨fun L σ r h => (by cases h), fun L σ r h => (by cases h), fun L σ r h => (by cases h), fun L σ r h => (by cases h)⟩
    | succ k ih =>
      refine ⟨?_, ?_, ?_, ?_⟩
      · intro L σ r h H locs ls hP hD hS hl
        rw [y_X1_length] at h
        refine lv_iload_n hx hb dX1_length_0 rfl (lv_at hl 1 rfl) ?_
        refine lv_if_ge (tgt := 19) hx hb dX1_length_1 (by decide) (fun c1 => ?_) (fun c1 => ?_)
        · rw [if_pos c1] at h
          exact ih.2.1 L σ r h H locs ls hP hD hS (lv_sub hl [0, 1] rfl)
        · rw [if_neg c1] at h
          refine lv_iload_n hx hb dX1_length_4 rfl (lv_at hl 1 rfl) ?_
          refine lv_ldc (v := (-268435456)) hx hb hown (hts _ (List.mem_cons_of_mem _ (List.mem_append_left _ (List.mem_append_left _ (List.mem_of_getElem? (i := 0) rfl))))) dX1_length_5 ?_
          refine lv_iand hx hb dX1_length_7 ?_
          refine lv_ldc (v := (-1073741824)) hx hb hown (hts _ (List.mem_cons_of_mem _ (List.mem_append_left _ (List.mem_append_left _ (List.mem_of_getElem? (i := 1) rfl))))) dX1_length_8 ?_
          refine lv_icmp_ne (tgt := 17) hx hb dX1_length_10 (by decide) (fun c2 => ?_) (fun c2 => ?_)
          · rw [if_neg c2] at h
            exact ih.2.2.1 L σ r h H locs ls hP hD hS (lv_sub hl [] rfl)
          · rw [if_pos c2] at h
            refine lv_iconst (v := 1) hx hb dX1_length_13 (by decide) ?_
            refine lv_goto (tgt := 18) hx hb dX1_length_14 (by decide) ?_
            exact ih.2.2.2 (lI L 100 1) σ r h H locs ls hP hD hS (lv_sub hl [] rfl)
      · intro L σ r h H locs ls hP hD hS hl
        rw [y_X1_length] at h
        refine lv_aload_n hx hb dX1_length_19 rfl (lv_at hl 0 rfl) ?_
        refine hg_0_0 hx hb hts in_y_X1_length_X1 hown hK hP (hts _ (List.mem_cons_of_mem _ (List.mem_append_left _ (List.mem_append_left _ (List.mem_of_getElem? (i := 2) rfl))))) dX1_length_20 ?_
        refine lv_iload_n hx hb dX1_length_23 rfl (lv_at hl 1 rfl) ?_
        obtain ⟨q1, h⟩ := kb_ite1 h
        refine hl_3 hx hb hK hP q1 dX1_length_24 ?_
        refine lv_iconst (v := 4) hx hb dX1_length_25 (by decide) ?_
        refine lv_iushr (v := (((σ.2.2.1 3 ((L.1 1)).toNatClampNeg)).toUInt32 >>> ((4 : Int32).toUInt32 &&& Int32.toUInt32 31)).toInt32) hx hb dX1_length_26 rfl ?_
        refine lv_sipush (v := 4095) hx hb dX1_length_27 (by decide) ?_
        refine lv_iand hx hb dX1_length_30 ?_
        obtain rfl := Option.some.inj h
        exact W.iret (v := ((((((σ.2.2.1 3 ((L.1 1)).toNatClampNeg)).toUInt32 >>> ((4 : Int32).toUInt32 &&& Int32.toUInt32 31)).toInt32)) &&& 4095)) hx hb hr (fun t ht hW => ⟨⟨((((((σ.2.2.1 3 ((L.1 1)).toNatClampNeg)).toUInt32 >>> ((4 : Int32).toUInt32 &&& Int32.toUInt32 31)).toInt32)) &&& 4095), (), rfl, rfl, by rw [ht]; exact hP, va_K.moved hW.alike hK, hD⟩, hS.F ht⟩) hS.2.2 dX1_length_31
      · intro L σ r h H locs ls hP hD hS hl
        rw [y_X1_length] at h
        refine lv_iconst (v := 0) hx hb dX1_length_17 (by decide) ?_
        exact ih.2.2.2 (lI L 100 0) σ r h H locs ls hP hD hS (lv_sub hl [] rfl)
      · intro L σ r h H locs ls hP hD hS hl
        rw [y_X1_length] at h
        obtain rfl := Option.some.inj h
        exact W.iret (v := (L.1 100)) hx hb hr (fun t ht hW => ⟨⟨(L.1 100), (), rfl, rfl, by rw [ht]; exact hP, va_K.moved hW.alike hK, hD⟩, hS.F ht⟩) hS.2.2 dX1_length_18
  exact (blk k0).1 L0 σ0 r0 h0 s.heap [] ls hP hD hS hl
/-! X1_header -/
def y_X1_header : Nat → Nat → LV → CS → Option (Int32 × CS)
  | 0, _, _, _ => none
  | k + 1, 0, L, σ => some ((((((((((L.1 0)) ||| ((((L.1 1)) <<< ((3 : Int32) &&& 31))))) ||| ((((L.1 2)) <<< ((4 : Int32) &&& 31))))) ||| ((((L.1 3)) <<< ((16 : Int32) &&& 31))))) ||| ((((L.1 4)) <<< ((26 : Int32) &&& 31)))), σ)
  | _ + 1, _ + 1, _, _ => none
def o_y_X1_header : List Cond := []
theorem o_y_X1_header_good : o_y_X1_header.all goodWord = true := by decide +kernel
def p_y_X1_header : List Cond := o_y_X1_header ++ []
theorem p_y_X1_header_good : p_y_X1_header.all goodWord = true := nb_all2 o_y_X1_header_good rfl
def w_y_X1_header : List Cond := .code yX1_header cX1_header 5 (some .int) :: (p_y_X1_header ++ fC)
theorem w_y_X1_header_good : w_y_X1_header.all goodWord = true := nb_allc (by decide +kernel) (nb_all2 p_y_X1_header_good fC_good)
theorem hd_y_X1_header : yX1_header.cls ≠ "java/lang/invoke/MethodHandle" ∧ yX1_header.cls ≠ "java/lang/invoke/VarHandle" ∧ (parseMethodDescriptor yX1_header.desc).map (fun d => d.parameters.length) = some 5 := by decide +kernel
set_option maxHeartbeats 40000000 in
set_option maxRecDepth 100000 in
theorem c_y_X1_header (l : Launch) (dC : Nat → ClassId) (dI : Nat → Nat → Nat) (cy : Nat → ClassId) (a z : Nat → Nat) (k0 : Nat) (L0 : LV) (σ0 : CS) (r0 : Int32 × CS) (h0 : y_X1_header k0 0 L0 σ0 = some r0) (sz : Nat) : Met l yX1_header w_y_X1_header ({ frames := 0, cells := 0, slots := 0, locals := 0 }) (va_Pc [.int (L0.1 0), .int (L0.1 1), .int (L0.1 2), .int (L0.1 3), .int (L0.1 4)] (nIn (dC, dI) cy sz (vC cy a z σ0))) (va_Qi (fun (x : Int32) (_ : Unit) => x = r0.1) (fun _ t => nOut (dC, dI) cy (va_A (vC cy a z σ0) sz) (vC cy a z r0.2) t) (va_A (vC cy a z σ0) sz)) 0 0 (va_A (vC cy a z σ0) sz) := by
  refine Met.ofW (cc := cX1_header) (maxL := 5) (ret := (some .int)) (by decide) rfl ?_
  intro p e s m args below meth c s₁ B hml hv
  obtain ⟨rfl, hsz, hP, hK, hD0, hG⟩ := hv
  have hx := B.exec
  have hb := B.bytes
  have hr := B.returns
  have hts := atoms_spec (ws := w_y_X1_header) B.pre
  have hown : s.vm.findClass RX1 = some m.cls := findClass_of_methodNamed B.named
  have hlocks := B.notSynchronized
  subst hsz
  have hD := hD0.self (sz := s.heap.size)
  generalize hAe : va_A (vC cy a z σ0) s.heap.size = A at hD ⊢
  have hA : ∀ q : Nat, s.heap.size ≤ q → A q := fun q h => by rw [← hAe]; exact Or.inr h
  have hS : va_S A s.heap s.heap [] := va_S.rf
  have hl := lv_entry ([.int (L0.1 0), .int (L0.1 1), .int (L0.1 2), .int (L0.1 3), .int (L0.1 4)]) (n := 5) (Nat.le_of_ble_eq_true rfl)
  rw [lg_entry_eq]
  generalize (lg_sl ([.int (L0.1 0), .int (L0.1 1), .int (L0.1 2), .int (L0.1 3), .int (L0.1 4)]) ++ List.replicate (5 - (lg_sl ([.int (L0.1 0), .int (L0.1 1), .int (L0.1 2), .int (L0.1 3), .int (L0.1 4)])).length) Slot.unset).toArray = ls at hl ⊢
  have hl : lv_has ls 5 [(0, .int (L0.1 0)), (1, .int (L0.1 1)), (2, .int (L0.1 2)), (3, .int (L0.1 3)), (4, .int (L0.1 4))] := hl
  have blk : ∀ k : Nat, (bC p l e (headSpec w_y_X1_header ({ frames := 0, cells := 0, slots := 0, locals := 0 })).room s m #[.int (L0.1 0), .int (L0.1 1), .int (L0.1 2), .int (L0.1 3), .int (L0.1 4)] below meth c dC dI cy a z A (kI dC dI cy a z A below #[.int (L0.1 0), .int (L0.1 1), .int (L0.1 2), .int (L0.1 3), .int (L0.1 4)] s) 5 (y_X1_header k 0) (fun L => [(0, .int (L.1 0)), (1, .int (L.1 1)), (2, .int (L.1 2)), (3, .int (L.1 3)), (4, .int (L.1 4))]) 0 (fun L => [])) := by
    intro k
    induction k with
    | zero => exact fun L σ r h => (by cases h)
    | succ k ih =>
      skip
      · intro L σ r h H locs ls hP hD hS hl
        rw [y_X1_header] at h
        refine lv_iload_n hx hb dX1_header_0 rfl (lv_at hl 0 rfl) ?_
        refine lv_iload_n hx hb dX1_header_1 rfl (lv_at hl 1 rfl) ?_
        refine lv_iconst (v := 3) hx hb dX1_header_2 (by decide) ?_
        refine lv_ishl hx hb dX1_header_3 ?_
        refine lv_ior hx hb dX1_header_4 ?_
        refine lv_iload_n hx hb dX1_header_5 rfl (lv_at hl 2 rfl) ?_
        refine lv_iconst (v := 4) hx hb dX1_header_6 (by decide) ?_
        refine lv_ishl hx hb dX1_header_7 ?_
        refine lv_ior hx hb dX1_header_8 ?_
        refine lv_iload_n hx hb dX1_header_9 rfl (lv_at hl 3 rfl) ?_
        refine lv_bipush (v := 16) hx hb dX1_header_10 (by decide) ?_
        refine lv_ishl hx hb dX1_header_12 ?_
        refine lv_ior hx hb dX1_header_13 ?_
        refine lv_iload hx hb dX1_header_14 (lv_at hl 4 rfl) ?_
        refine lv_bipush (v := 26) hx hb dX1_header_16 (by decide) ?_
        refine lv_ishl hx hb dX1_header_18 ?_
        refine lv_ior hx hb dX1_header_19 ?_
        obtain rfl := Option.some.inj h
        exact W.iret (v := (((((((((L.1 0)) ||| ((((L.1 1)) <<< ((3 : Int32) &&& 31))))) ||| ((((L.1 2)) <<< ((4 : Int32) &&& 31))))) ||| ((((L.1 3)) <<< ((16 : Int32) &&& 31))))) ||| ((((L.1 4)) <<< ((26 : Int32) &&& 31))))) hx hb hr (fun t ht hW => ⟨⟨(((((((((L.1 0)) ||| ((((L.1 1)) <<< ((3 : Int32) &&& 31))))) ||| ((((L.1 2)) <<< ((4 : Int32) &&& 31))))) ||| ((((L.1 3)) <<< ((16 : Int32) &&& 31))))) ||| ((((L.1 4)) <<< ((26 : Int32) &&& 31)))), (), rfl, rfl, by rw [ht]; exact hP, va_K.moved hW.alike hK, hD⟩, hS.F ht⟩) hS.2.2 dX1_header_20
  exact (blk k0) L0 σ0 r0 h0 s.heap [] ls hP hD hS hl
/-! X1_copyBytes__a15 -/
def y_X1_copyBytes__a15 : Nat → Nat → LV → CS → Option (Int32 × CS)
  | 0, _, _, _ => none
  | k + 1, 0, L, σ => y_X1_copyBytes__a15 k 1 (lI L 6 0) σ
  | k + 1, 1, L, σ => if ((L.1 3)) ≤ ((L.1 6)) then (y_X1_copyBytes__a15 k 2 L σ) else (if ((Int32.ofNat 8192)) ≤ ((((L.1 5)) + ((L.1 6)))) then (y_X1_copyBytes__a15 k 2 L σ) else (if 0 ≤ ((L.1 1)) then (y_X1_copyBytes__a15 k 3 (lI (lI L 7 ((((L.1 2)) + ((L.1 6))))) 100 ((((L.1 5)) + ((L.1 6))))) σ) else (y_X1_copyBytes__a15 k 4 (lI (lI L 100 ((L.1 1))) 101 ((((L.1 5)) + ((L.1 6))))) σ)))
  | k + 1, 2, L, σ => some ((((L.1 5)) + ((L.1 3))), σ)
  | k + 1, 3, L, σ => if ¬ (((((((L.1 1)) + 1)) + ((((L.1 7)) >>> ((2 : Int32) &&& 31))))) < 0 ∨ (sN σ 3) ≤ ((((((L.1 1)) + 1)) + ((((L.1 7)) >>> ((2 : Int32) &&& 31))))).toNatClampNeg) then (y_X1_copyBytes__a15 k 4 (lI (lI L 100 (((((σ.2.2.1 3 ((((((L.1 1)) + 1)) + ((((L.1 7)) >>> ((2 : Int32) &&& 31))))).toNatClampNeg)).toUInt32 >>> (((((((L.1 7)) &&& 3)) <<< ((3 : Int32) &&& 31))).toUInt32 &&& Int32.toUInt32 31)).toInt32))) 101 ((L.1 100))) σ) else none
  | k + 1, 4, L, σ => if ¬ (((L.1 101)) < 0 ∨ 8192 ≤ ((L.1 101)).toNatClampNeg) then (y_X1_copyBytes__a15 k 1 (lI L 6 ((((L.1 6)) + 1))) (uA σ 15 ((L.1 101)).toNatClampNeg (vp_nar .byte ((((L.1 100)).toInt8.toInt32))))) else none
  | _ + 1, _ + 5, _, _ => none
def o_y_X1_copyBytes__a15 : List Cond := [.fieldLink RX1 11 "SetHouse$Heap" "mem" "[I"]
theorem o_y_X1_copyBytes__a15_good : o_y_X1_copyBytes__a15.all goodWord = true := by decide +kernel
def p_y_X1_copyBytes__a15 : List Cond := o_y_X1_copyBytes__a15 ++ []
theorem p_y_X1_copyBytes__a15_good : p_y_X1_copyBytes__a15.all goodWord = true := nb_all2 o_y_X1_copyBytes__a15_good rfl
def w_y_X1_copyBytes__a15 : List Cond := .code yX1_copyBytes cX1_copyBytes 8 (some .int) :: (p_y_X1_copyBytes__a15 ++ fC)
theorem w_y_X1_copyBytes__a15_good : w_y_X1_copyBytes__a15.all goodWord = true := nb_allc (by decide +kernel) (nb_all2 p_y_X1_copyBytes__a15_good fC_good)
theorem in_y_X1_copyBytes__a15_X1 : ∀ w ∈ wsX10, w ∈ w_y_X1_copyBytes__a15 := fun _ h => List.mem_cons_of_mem _ (List.mem_append_right _ (List.mem_append_right _ (List.mem_append_left _ h)))
theorem hd_y_X1_copyBytes__a15 : yX1_copyBytes.cls = RX1 ∧ yX1_copyBytes.cls ≠ "java/lang/invoke/MethodHandle" ∧ yX1_copyBytes.cls ≠ "java/lang/invoke/VarHandle" ∧ (parseMethodDescriptor yX1_copyBytes.desc).map (fun d => d.parameters.length) = some 5 := by decide +kernel
set_option maxHeartbeats 40000000 in
set_option maxRecDepth 100000 in
theorem c_y_X1_copyBytes__a15 (l : Launch) (dC : Nat → ClassId) (dI : Nat → Nat → Nat) (cy : Nat → ClassId) (a z : Nat → Nat) (k0 : Nat) (L0 : LV) (σ0 : CS) (r0 : Int32 × CS) (h0 : y_X1_copyBytes__a15 k0 0 L0 σ0 = some r0) (sz : Nat) : Met l yX1_copyBytes w_y_X1_copyBytes__a15 ({ frames := 0, cells := 0, slots := 0, locals := 0 }) (va_Pc [.ref (a 0), .int (L0.1 1), .int (L0.1 2), .int (L0.1 3), .ref (a 15), .int (L0.1 5)] (nIn (dC, dI) cy sz (vC cy a z σ0))) (va_Qi (fun (x : Int32) (_ : Unit) => x = r0.1) (fun _ t => nOut (dC, dI) cy (va_A (vC cy a z σ0) sz) (vC cy a z r0.2) t) (va_A (vC cy a z σ0) sz)) 0 0 (va_A (vC cy a z σ0) sz) := by
  refine Met.ofW (cc := cX1_copyBytes) (maxL := 8) (ret := (some .int)) (by decide) rfl ?_
  intro p e s m args below meth c s₁ B hml hv
  obtain ⟨rfl, hsz, hP, hK, hD0, hG⟩ := hv
  have hx := B.exec
  have hb := B.bytes
  have hr := B.returns
  have hts := atoms_spec (ws := w_y_X1_copyBytes__a15) B.pre
  have hown : s.vm.findClass RX1 = some m.cls := findClass_of_methodNamed B.named
  have hlocks := B.notSynchronized
  subst hsz
  have hD := hD0.self (sz := s.heap.size)
  generalize hAe : va_A (vC cy a z σ0) s.heap.size = A at hD ⊢
  have hA : ∀ q : Nat, s.heap.size ≤ q → A q := fun q h => by rw [← hAe]; exact Or.inr h
  have hS : va_S A s.heap s.heap [] := va_S.rf
  have hl := lv_entry ([.ref (a 0), .int (L0.1 1), .int (L0.1 2), .int (L0.1 3), .ref (a 15), .int (L0.1 5)]) (n := 8) (Nat.le_of_ble_eq_true rfl)
  rw [lg_entry_eq]
  generalize (lg_sl ([.ref (a 0), .int (L0.1 1), .int (L0.1 2), .int (L0.1 3), .ref (a 15), .int (L0.1 5)]) ++ List.replicate (8 - (lg_sl ([.ref (a 0), .int (L0.1 1), .int (L0.1 2), .int (L0.1 3), .ref (a 15), .int (L0.1 5)])).length) Slot.unset).toArray = ls at hl ⊢
  have hl : lv_has ls 8 [(0, .ref (a 0)), (1, .int (L0.1 1)), (2, .int (L0.1 2)), (3, .int (L0.1 3)), (4, .ref (a 15)), (5, .int (L0.1 5))] := hl
  have blk : ∀ k : Nat, (bC p l e (headSpec w_y_X1_copyBytes__a15 ({ frames := 0, cells := 0, slots := 0, locals := 0 })).room s m #[.ref (a 0), .int (L0.1 1), .int (L0.1 2), .int (L0.1 3), .ref (a 15), .int (L0.1 5)] below meth c dC dI cy a z A (kI dC dI cy a z A below #[.ref (a 0), .int (L0.1 1), .int (L0.1 2), .int (L0.1 3), .ref (a 15), .int (L0.1 5)] s) 8 (y_X1_copyBytes__a15 k 0) (fun L => [(0, .ref (a 0)), (1, .int (L.1 1)), (2, .int (L.1 2)), (3, .int (L.1 3)), (4, .ref (a 15)), (5, .int (L.1 5))]) 0 (fun L => [])) ∧ (bC p l e (headSpec w_y_X1_copyBytes__a15 ({ frames := 0, cells := 0, slots := 0, locals := 0 })).room s m #[.ref (a 0), .int (L0.1 1), .int (L0.1 2), .int (L0.1 3), .ref (a 15), .int (L0.1 5)] below meth c dC dI cy a z A (kI dC dI cy a z A below #[.ref (a 0), .int (L0.1 1), .int (L0.1 2), .int (L0.1 3), .ref (a 15), .int (L0.1 5)] s) 8 (y_X1_copyBytes__a15 k 1) (fun L => [(0, .ref (a 0)), (1, .int (L.1 1)), (2, .int (L.1 2)), (3, .int (L.1 3)), (4, .ref (a 15)), (5, .int (L.1 5)), (6, .int (L.1 6))]) 3 (fun L => [])) ∧ (bC p l e (headSpec w_y_X1_copyBytes__a15 ({ frames := 0, cells := 0, slots := 0, locals := 0 })).room s m #[.ref (a 0), .int (L0.1 1), .int (L0.1 2), .int (L0.1 3), .ref (a 15), .int (L0.1 5)] below meth c dC dI cy a z A (kI dC dI cy a z A below #[.ref (a 0), .int (L0.1 1), .int (L0.1 2), .int (L0.1 3), .ref (a 15), .int (L0.1 5)] s) 8 (y_X1_copyBytes__a15 k 2) (fun L => [(3, .int (L.1 3)), (5, .int (L.1 5))]) 69 (fun L => [])) ∧ (bC p l e (headSpec w_y_X1_copyBytes__a15 ({ frames := 0, cells := 0, slots := 0, locals := 0 })).room s m #[.ref (a 0), .int (L0.1 1), .int (L0.1 2), .int (L0.1 3), .ref (a 15), .int (L0.1 5)] below meth c dC dI cy a z A (kI dC dI cy a z A below #[.ref (a 0), .int (L0.1 1), .int (L0.1 2), .int (L0.1 3), .ref (a 15), .int (L0.1 5)] s) 8 (y_X1_copyBytes__a15 k 3) (fun L => [(0, .ref (a 0)), (1, .int (L.1 1)), (2, .int (L.1 2)), (3, .int (L.1 3)), (4, .ref (a 15)), (5, .int (L.1 5)), (6, .int (L.1 6)), (7, .int (L.1 7))]) 41 (fun L => [.int (L.1 100), .ref (a 15)])) ∧ (bC p l e (headSpec w_y_X1_copyBytes__a15 ({ frames := 0, cells := 0, slots := 0, locals := 0 })).room s m #[.ref (a 0), .int (L0.1 1), .int (L0.1 2), .int (L0.1 3), .ref (a 15), .int (L0.1 5)] below meth c dC dI cy a z A (kI dC dI cy a z A below #[.ref (a 0), .int (L0.1 1), .int (L0.1 2), .int (L0.1 3), .ref (a 15), .int (L0.1 5)] s) 8 (y_X1_copyBytes__a15 k 4) (fun L => [(0, .ref (a 0)), (1, .int (L.1 1)), (2, .int (L.1 2)), (3, .int (L.1 3)), (4, .ref (a 15)), (5, .int (L.1 5)), (6, .int (L.1 6))]) 61 (fun L => [.int (L.1 100), .int (L.1 101), .ref (a 15)])) := by
    intro k
    induction k with
    | zero => exact ⟨fun L σ r h => (by cases h), fun L σ r h => (by cases h), fun L σ r h => (by cases h), fun L σ r h => (by cases h), fun L σ r h => (by cases h)⟩
    | succ k ih =>
      refine ⟨?_, ?_, ?_, ?_, ?_⟩
      · intro L σ r h H locs ls hP hD hS hl
        rw [y_X1_copyBytes__a15] at h
        refine lv_iconst (v := 0) hx hb dX1_copyBytes_0 (by decide) ?_
        refine lv_istore (lv' := [(6, .int 0), (0, .ref (a 0)), (1, .int (L.1 1)), (2, .int (L.1 2)), (3, .int (L.1 3)), (4, .ref (a 15)), (5, .int (L.1 5))]) hx hb dX1_copyBytes_1 hl (by decide) rfl (fun ls hl => ?_)
        exact ih.2.1 (lI L 6 0) σ r h H locs ls hP hD hS (lv_sub hl [1, 2, 3, 4, 5, 6, 0] rfl)
      · intro L σ r h H locs ls hP hD hS hl
        rw [y_X1_copyBytes__a15] at h
        refine lv_iload hx hb dX1_copyBytes_3 (lv_at hl 6 rfl) ?_
        refine lv_iload_n hx hb dX1_copyBytes_5 rfl (lv_at hl 3 rfl) ?_
        refine lv_icmp_ge (tgt := 69) hx hb dX1_copyBytes_6 (by decide) (fun c1 => ?_) (fun c1 => ?_)
        · rw [if_pos c1] at h
          exact ih.2.2.1 L σ r h H locs ls hP hD hS (lv_sub hl [3, 5] rfl)
        · rw [if_neg c1] at h
          refine lv_iload hx hb dX1_copyBytes_9 (lv_at hl 5 rfl) ?_
          refine lv_iload hx hb dX1_copyBytes_11 (lv_at hl 6 rfl) ?_
          refine lv_iadd hx hb dX1_copyBytes_13 ?_
          refine lv_aload hx hb dX1_copyBytes_14 (lv_at hl 4 rfl) ?_
          refine hn_15 hx hb hK hP dX1_copyBytes_16 ?_
          refine lv_icmp_ge (tgt := 69) hx hb dX1_copyBytes_17 (by decide) (fun c2 => ?_) (fun c2 => ?_)
          · rw [if_pos c2] at h
            exact ih.2.2.1 L σ r h H locs ls hP hD hS (lv_sub hl [3, 5] rfl)
          · rw [if_neg c2] at h
            refine lv_iload_n hx hb dX1_copyBytes_20 rfl (lv_at hl 2 rfl) ?_
            refine lv_iload hx hb dX1_copyBytes_21 (lv_at hl 6 rfl) ?_
            refine lv_iadd hx hb dX1_copyBytes_23 ?_
            refine lv_istore (lv' := [(7, .int (((L.1 2)) + ((L.1 6)))), (0, .ref (a 0)), (1, .int (L.1 1)), (2, .int (L.1 2)), (3, .int (L.1 3)), (4, .ref (a 15)), (5, .int (L.1 5)), (6, .int (L.1 6))]) hx hb dX1_copyBytes_24 hl (by decide) rfl (fun ls hl => ?_)
            refine lv_aload hx hb dX1_copyBytes_26 (lv_at hl 5 rfl) ?_
            refine lv_iload hx hb dX1_copyBytes_28 (lv_at hl 6 rfl) ?_
            refine lv_iload hx hb dX1_copyBytes_30 (lv_at hl 7 rfl) ?_
            refine lv_iadd hx hb dX1_copyBytes_32 ?_
            refine lv_iload_n hx hb dX1_copyBytes_33 rfl (lv_at hl 2 rfl) ?_
            refine lv_if_ge (tgt := 41) hx hb dX1_copyBytes_34 (by decide) (fun c3 => ?_) (fun c3 => ?_)
            · rw [if_pos c3] at h
              exact ih.2.2.2.1 (lI (lI L 7 ((((L.1 2)) + ((L.1 6))))) 100 ((((L.1 5)) + ((L.1 6))))) σ r h H locs ls hP hD hS (lv_sub hl [1, 2, 3, 4, 5, 6, 7, 0] rfl)
            · rw [if_neg c3] at h
              refine lv_iload_n hx hb dX1_copyBytes_37 rfl (lv_at hl 2 rfl) ?_
              refine lv_goto (tgt := 61) hx hb dX1_copyBytes_38 (by decide) ?_
              exact ih.2.2.2.2 (lI (lI L 100 ((L.1 1))) 101 ((((L.1 5)) + ((L.1 6))))) σ r h H locs ls hP hD hS (lv_sub hl [1, 2, 3, 4, 5, 6, 7] rfl)
      · intro L σ r h H locs ls hP hD hS hl
        rw [y_X1_copyBytes__a15] at h
        refine lv_iload hx hb dX1_copyBytes_69 (lv_at hl 1 rfl) ?_
        refine lv_iload_n hx hb dX1_copyBytes_71 rfl (lv_at hl 0 rfl) ?_
        refine lv_iadd hx hb dX1_copyBytes_72 ?_
        obtain rfl := Option.some.inj h
        exact W.iret (v := (((L.1 5)) + ((L.1 3)))) hx hb hr (fun t ht hW => ⟨⟨(((L.1 5)) + ((L.1 3))), (), rfl, rfl, by rw [ht]; exact hP, va_K.moved hW.alike hK, hD⟩, hS.F ht⟩) hS.2.2 dX1_copyBytes_73
      · intro L σ r h H locs ls hP hD hS hl
        rw [y_X1_copyBytes__a15] at h
        refine lv_aload_n hx hb dX1_copyBytes_41 rfl (lv_at hl 0 rfl) ?_
        refine hg_0_0 hx hb hts in_y_X1_copyBytes__a15_X1 hown hK hP (hts _ (List.mem_cons_of_mem _ (List.mem_append_left _ (List.mem_append_left _ (List.mem_of_getElem? (i := 0) rfl))))) dX1_copyBytes_42 ?_
        refine lv_iload_n hx hb dX1_copyBytes_45 rfl (lv_at hl 1 rfl) ?_
        refine lv_iconst (v := 1) hx hb dX1_copyBytes_46 (by decide) ?_
        refine lv_iadd hx hb dX1_copyBytes_47 ?_
        refine lv_iload hx hb dX1_copyBytes_48 (lv_at hl 7 rfl) ?_
        refine lv_iconst (v := 2) hx hb dX1_copyBytes_50 (by decide) ?_
        refine lv_ishr hx hb dX1_copyBytes_51 ?_
        refine lv_iadd hx hb dX1_copyBytes_52 ?_
        obtain ⟨q1, h⟩ := kb_ite1 h
        refine hl_3 hx hb hK hP q1 dX1_copyBytes_53 ?_
        refine lv_iload hx hb dX1_copyBytes_54 (lv_at hl 7 rfl) ?_
        refine lv_iconst (v := 3) hx hb dX1_copyBytes_56 (by decide) ?_
        refine lv_iand hx hb dX1_copyBytes_57 ?_
        refine lv_iconst (v := 3) hx hb dX1_copyBytes_58 (by decide) ?_
        refine lv_ishl hx hb dX1_copyBytes_59 ?_
        refine lv_iushr (v := (((σ.2.2.1 3 ((((((L.1 1)) + 1)) + ((((L.1 7)) >>> ((2 : Int32) &&& 31))))).toNatClampNeg)).toUInt32 >>> (((((((L.1 7)) &&& 3)) <<< ((3 : Int32) &&& 31))).toUInt32 &&& Int32.toUInt32 31)).toInt32) hx hb dX1_copyBytes_60 rfl ?_
        exact ih.2.2.2.2 (lI (lI L 100 (((((σ.2.2.1 3 ((((((L.1 1)) + 1)) + ((((L.1 7)) >>> ((2 : Int32) &&& 31))))).toNatClampNeg)).toUInt32 >>> (((((((L.1 7)) &&& 3)) <<< ((3 : Int32) &&& 31))).toUInt32 &&& Int32.toUInt32 31)).toInt32))) 101 ((L.1 100))) σ r h H locs ls hP hD hS (lv_sub hl [0, 1, 2, 3, 4, 5, 6] rfl)
      · intro L σ r h H locs ls hP hD hS hl
        rw [y_X1_copyBytes__a15] at h
        refine lv_i2b (v := ((L.1 100)).toInt8.toInt32) hx hb dX1_copyBytes_61 rfl ?_
        obtain ⟨q1, h⟩ := kb_ite1 h
        refine hs_15 hx hb hK hP hD hS q1 dX1_copyBytes_62 (fun H locs hP hD hS => ?_)
        refine lv_iinc (v := ((L.1 6)) + 1) (lv' := [(6, .int (((L.1 6)) + 1)), (0, .ref (a 0)), (1, .int (L.1 1)), (2, .int (L.1 2)), (3, .int (L.1 3)), (4, .ref (a 15)), (5, .int (L.1 5))]) hx hb dX1_copyBytes_63 hl (k := 6) rfl rfl (by decide) rfl (fun ls hl => ?_)
        refine lv_goto (tgt := 3) hx hb dX1_copyBytes_66 (by decide) ?_
        exact ih.2.1 (lI L 6 ((((L.1 6)) + 1))) (uA σ 15 ((L.1 101)).toNatClampNeg (vp_nar .byte ((((L.1 100)).toInt8.toInt32)))) r h H locs ls hP hD hS (lv_sub hl [1, 2, 3, 4, 5, 6, 0] rfl)
  exact (blk k0).1 L0 σ0 r0 h0 s.heap [] ls hP hD hS hl
/-! X1_makeString__a15 -/
def y_X1_makeString__a15 : Nat → Nat → LV → CS → Option (Int32 × CS)
  | 0, _, _, _ => none
  | k + 1, 0, L, σ => if 1 < ((L.1 3)) then (y_X1_makeString__a15 k 1 L σ) else (if 0 < ((L.1 3)) then (y_X1_makeString__a15 k 2 L σ) else (y_X1_makeString__a15 k 3 (lI L 100 0) σ))
  | k + 1, 1, L, σ => if ((((((L.1 3)) + 3)) >>> ((2 : Int32) &&& 31))) < 1000 then (y_X1_makeString__a15 k 4 (lI L 4 ((((((L.1 3)) + 3)) >>> ((2 : Int32) &&& 31)))) σ) else (some ((-268435451), σ))
  | k + 1, 2, L, σ => if ¬ (((L.1 2)) < 0 ∨ 8192 ≤ ((L.1 2)).toNatClampNeg) then (y_X1_makeString__a15 k 3 (lI L 100 ((((-1073741824)) ||| ((((σ.2.2.1 15 ((L.1 2)).toNatClampNeg)) &&& 255))))) σ) else none
  | k + 1, 3, L, σ => some ((L.1 100), σ)
  | k + 1, 4, L, σ => if ((1 + ((L.1 4)))) ≤ ((((Int32.ofNat (sN σ 3))) - ((σ.1 1)))) then (y_X1_makeString__a15 k 5 (lI L 5 ((σ.1 1))) σ) else (some ((-268435450), σ))
  | k + 1, 5, L, σ => oc (y_X1_header k 0 (lI (lI (lI (lI (lI lZ 0 4) 1 0) 2 ((L.1 3))) 3 ((1 + ((L.1 4))))) 4 0) (uI σ 1 ((((((L.1 5)) + 1)) + ((L.1 4)))))) (fun r1 => if ¬ (((L.1 5)) < 0 ∨ (sN r1.2 3) ≤ ((L.1 5)).toNatClampNeg) then (y_X1_makeString__a15 k 6 L (uA r1.2 3 ((L.1 5)).toNatClampNeg r1.1)) else none)
  | k + 1, 6, L, σ => y_X1_makeString__a15 k 7 (lI (lI L 6 0) 7 0) σ
  | k + 1, 7, L, σ => if ((L.1 3)) ≤ ((L.1 7)) then (y_X1_makeString__a15 k 8 L σ) else (if ¬ (((((L.1 2)) + ((L.1 7)))) < 0 ∨ 8192 ≤ ((((L.1 2)) + ((L.1 7)))).toNatClampNeg) then (if ((((((L.1 7)) &&& 3)) <<< ((3 : Int32) &&& 31))) = 24 then (y_X1_makeString__a15 k 9 (lI L 6 ((((L.1 6)) ||| ((((((σ.2.2.1 15 ((((L.1 2)) + ((L.1 7)))).toNatClampNeg)) &&& 255)) <<< (((((((L.1 7)) &&& 3)) <<< ((3 : Int32) &&& 31))) &&& 31)))))) σ) else (if ((L.1 7)) = ((((L.1 3)) - 1)) then (y_X1_makeString__a15 k 9 (lI L 6 ((((L.1 6)) ||| ((((((σ.2.2.1 15 ((((L.1 2)) + ((L.1 7)))).toNatClampNeg)) &&& 255)) <<< (((((((L.1 7)) &&& 3)) <<< ((3 : Int32) &&& 31))) &&& 31)))))) σ) else (y_X1_makeString__a15 k 10 (lI L 6 ((((L.1 6)) ||| ((((((σ.2.2.1 15 ((((L.1 2)) + ((L.1 7)))).toNatClampNeg)) &&& 255)) <<< (((((((L.1 7)) &&& 3)) <<< ((3 : Int32) &&& 31))) &&& 31)))))) σ))) else none)
  | k + 1, 8, L, σ => some ((L.1 5), σ)
  | k + 1, 9, L, σ => if ¬ (((((((L.1 5)) + 1)) + ((((L.1 7)) >>> ((2 : Int32) &&& 31))))) < 0 ∨ (sN σ 3) ≤ ((((((L.1 5)) + 1)) + ((((L.1 7)) >>> ((2 : Int32) &&& 31))))).toNatClampNeg) then (y_X1_makeString__a15 k 10 (lI L 6 0) (uA σ 3 ((((((L.1 5)) + 1)) + ((((L.1 7)) >>> ((2 : Int32) &&& 31))))).toNatClampNeg ((L.1 6)))) else none
  | k + 1, 10, L, σ => y_X1_makeString__a15 k 7 (lI L 7 ((((L.1 7)) + 1))) σ
  | _ + 1, _ + 11, _, _ => none
def o_y_X1_makeString__a15 : List Cond := [.constant RX1 52 (-268435451), .constant RX1 34 (-1073741824), .fieldLink RX1 15 "SetHouse$Heap" "top" "I", .fieldLink RX1 11 "SetHouse$Heap" "mem" "[I", .constant RX1 53 (-268435450), .methodLink RX1 29 yX1_header, .static yX1_header, .initialized RX1]
theorem o_y_X1_makeString__a15_good : o_y_X1_makeString__a15.all goodWord = true := by decide +kernel
def p_y_X1_makeString__a15 : List Cond := o_y_X1_makeString__a15 ++ ((.code yX1_header cX1_header 5 (some .int) :: p_y_X1_header) ++ [])
theorem p_y_X1_makeString__a15_good : p_y_X1_makeString__a15.all goodWord = true := nb_all2 o_y_X1_makeString__a15_good (nb_all2 (nb_allc (by decide +kernel) p_y_X1_header_good) rfl)
def w_y_X1_makeString__a15 : List Cond := .code yX1_makeString cX1_makeString 9 (some .int) :: (p_y_X1_makeString__a15 ++ fC)
theorem w_y_X1_makeString__a15_good : w_y_X1_makeString__a15.all goodWord = true := nb_allc (by decide +kernel) (nb_all2 p_y_X1_makeString__a15_good fC_good)
theorem in_y_X1_makeString__a15_X1 : ∀ w ∈ wsX10, w ∈ w_y_X1_makeString__a15 := fun _ h => List.mem_cons_of_mem _ (List.mem_append_right _ (List.mem_append_right _ (List.mem_append_left _ h)))
theorem hd_y_X1_makeString__a15 : yX1_makeString.cls = RX1 ∧ yX1_makeString.cls ≠ "java/lang/invoke/MethodHandle" ∧ yX1_makeString.cls ≠ "java/lang/invoke/VarHandle" ∧ (parseMethodDescriptor yX1_makeString.desc).map (fun d => d.parameters.length) = some 3 := by decide +kernel
theorem gg_y_X1_makeString__a15_X1_header : GoodIn w_y_X1_makeString__a15 w_y_X1_header := goodIn_sub (fun w h => (List.mem_cons.mp h).elim (fun e => (List.mem_cons_of_mem _ (List.mem_append_left _ (List.mem_append_right _ (List.mem_append_left _ (List.mem_cons.mpr (Or.inl e))))))) (fun h => (List.mem_append.mp h).elim (fun h => (List.mem_cons_of_mem _ (List.mem_append_left _ (List.mem_append_right _ (List.mem_append_left _ (List.mem_cons_of_mem _ h)))))) (fun h => List.mem_cons_of_mem _ (List.mem_append_right _ h)))) w_y_X1_header_good
theorem g_y_X1_makeString__a15_X1_header_S29 : GoodIn w_y_X1_makeString__a15 (va_wsS RX1 29 yX1_header w_y_X1_header) := goodIn_app (nb_g3 (List.mem_cons_of_mem _ (List.mem_append_left _ (List.mem_append_left _ (List.mem_of_getElem? (i := 5) rfl)))) (List.mem_cons_of_mem _ (List.mem_append_left _ (List.mem_append_left _ (List.mem_of_getElem? (i := 6) rfl)))) (List.mem_cons_of_mem _ (List.mem_append_left _ (List.mem_append_left _ (List.mem_of_getElem? (i := 7) rfl)))) (by decide +kernel)) gg_y_X1_makeString__a15_X1_header
set_option maxHeartbeats 40000000 in
set_option maxRecDepth 100000 in
theorem c_y_X1_makeString__a15 (l : Launch) (dC : Nat → ClassId) (dI : Nat → Nat → Nat) (cy : Nat → ClassId) (a z : Nat → Nat) (k0 : Nat) (L0 : LV) (σ0 : CS) (r0 : Int32 × CS) (h0 : y_X1_makeString__a15 k0 0 L0 σ0 = some r0) (sz : Nat) : Met l yX1_makeString w_y_X1_makeString__a15 ({ frames := 1, cells := 0, slots := 0, locals := 24 }) (va_Pc [.ref (a 0), .ref (a 15), .int (L0.1 2), .int (L0.1 3)] (nIn (dC, dI) cy sz (vC cy a z σ0))) (va_Qi (fun (x : Int32) (_ : Unit) => x = r0.1) (fun _ t => nOut (dC, dI) cy (va_A (vC cy a z σ0) sz) (vC cy a z r0.2) t) (va_A (vC cy a z σ0) sz)) 0 0 (va_A (vC cy a z σ0) sz) := by
  refine Met.ofW (cc := cX1_makeString) (maxL := 9) (ret := (some .int)) (by decide) rfl ?_
  intro p e s m args below meth c s₁ B hml hv
  obtain ⟨rfl, hsz, hP, hK, hD0, hG⟩ := hv
  have hx := B.exec
  have hb := B.bytes
  have hr := B.returns
  have hts := atoms_spec (ws := w_y_X1_makeString__a15) B.pre
  have hown : s.vm.findClass RX1 = some m.cls := findClass_of_methodNamed B.named
  have hlocks := B.notSynchronized
  subst hsz
  have hD := hD0.self (sz := s.heap.size)
  generalize hAe : va_A (vC cy a z σ0) s.heap.size = A at hD ⊢
  have hA : ∀ q : Nat, s.heap.size ≤ q → A q := fun q h => by rw [← hAe]; exact Or.inr h
  have hS : va_S A s.heap s.heap [] := va_S.rf
  have hl := lv_entry ([.ref (a 0), .ref (a 15), .int (L0.1 2), .int (L0.1 3)]) (n := 9) (Nat.le_of_ble_eq_true rfl)
  rw [lg_entry_eq]
  generalize (lg_sl ([.ref (a 0), .ref (a 15), .int (L0.1 2), .int (L0.1 3)]) ++ List.replicate (9 - (lg_sl ([.ref (a 0), .ref (a 15), .int (L0.1 2), .int (L0.1 3)])).length) Slot.unset).toArray = ls at hl ⊢
  have hl : lv_has ls 9 [(0, .ref (a 0)), (1, .ref (a 15)), (2, .int (L0.1 2)), (3, .int (L0.1 3))] := hl
  have blk : ∀ k : Nat, (bC p l e (headSpec w_y_X1_makeString__a15 ({ frames := 1, cells := 0, slots := 0, locals := 24 })).room s m #[.ref (a 0), .ref (a 15), .int (L0.1 2), .int (L0.1 3)] below meth c dC dI cy a z A (kI dC dI cy a z A below #[.ref (a 0), .ref (a 15), .int (L0.1 2), .int (L0.1 3)] s) 9 (y_X1_makeString__a15 k 0) (fun L => [(0, .ref (a 0)), (1, .ref (a 15)), (2, .int (L.1 2)), (3, .int (L.1 3))]) 0 (fun L => [])) ∧ (bC p l e (headSpec w_y_X1_makeString__a15 ({ frames := 1, cells := 0, slots := 0, locals := 24 })).room s m #[.ref (a 0), .ref (a 15), .int (L0.1 2), .int (L0.1 3)] below meth c dC dI cy a z A (kI dC dI cy a z A below #[.ref (a 0), .ref (a 15), .int (L0.1 2), .int (L0.1 3)] s) 9 (y_X1_makeString__a15 k 1) (fun L => [(0, .ref (a 0)), (1, .ref (a 15)), (2, .int (L.1 2)), (3, .int (L.1 3))]) 24 (fun L => [])) ∧ (bC p l e (headSpec w_y_X1_makeString__a15 ({ frames := 1, cells := 0, slots := 0, locals := 24 })).room s m #[.ref (a 0), .ref (a 15), .int (L0.1 2), .int (L0.1 3)] below meth c dC dI cy a z A (kI dC dI cy a z A below #[.ref (a 0), .ref (a 15), .int (L0.1 2), .int (L0.1 3)] s) 9 (y_X1_makeString__a15 k 2) (fun L => [(1, .ref (a 15)), (2, .int (L.1 2))]) 13 (fun L => [])) ∧ (bC p l e (headSpec w_y_X1_makeString__a15 ({ frames := 1, cells := 0, slots := 0, locals := 24 })).room s m #[.ref (a 0), .ref (a 15), .int (L0.1 2), .int (L0.1 3)] below meth c dC dI cy a z A (kI dC dI cy a z A below #[.ref (a 0), .ref (a 15), .int (L0.1 2), .int (L0.1 3)] s) 9 (y_X1_makeString__a15 k 3) (fun L => []) 23 (fun L => [.int (L.1 100)])) ∧ (bC p l e (headSpec w_y_X1_makeString__a15 ({ frames := 1, cells := 0, slots := 0, locals := 24 })).room s m #[.ref (a 0), .ref (a 15), .int (L0.1 2), .int (L0.1 3)] below meth c dC dI cy a z A (kI dC dI cy a z A below #[.ref (a 0), .ref (a 15), .int (L0.1 2), .int (L0.1 3)] s) 9 (y_X1_makeString__a15 k 4) (fun L => [(0, .ref (a 0)), (1, .ref (a 15)), (2, .int (L.1 2)), (3, .int (L.1 3)), (4, .int (L.1 4))]) 42 (fun L => [])) ∧ (bC p l e (headSpec w_y_X1_makeString__a15 ({ frames := 1, cells := 0, slots := 0, locals := 24 })).room s m #[.ref (a 0), .ref (a 15), .int (L0.1 2), .int (L0.1 3)] below meth c dC dI cy a z A (kI dC dI cy a z A below #[.ref (a 0), .ref (a 15), .int (L0.1 2), .int (L0.1 3)] s) 9 (y_X1_makeString__a15 k 5) (fun L => [(0, .ref (a 0)), (1, .ref (a 15)), (2, .int (L.1 2)), (3, .int (L.1 3)), (4, .int (L.1 4)), (5, .int (L.1 5))]) 66 (fun L => [])) ∧ (bC p l e (headSpec w_y_X1_makeString__a15 ({ frames := 1, cells := 0, slots := 0, locals := 24 })).room s m #[.ref (a 0), .ref (a 15), .int (L0.1 2), .int (L0.1 3)] below meth c dC dI cy a z A (kI dC dI cy a z A below #[.ref (a 0), .ref (a 15), .int (L0.1 2), .int (L0.1 3)] s) 9 (y_X1_makeString__a15 k 6) (fun L => [(0, .ref (a 0)), (1, .ref (a 15)), (2, .int (L.1 2)), (3, .int (L.1 3)), (5, .int (L.1 5))]) 95 (fun L => [])) ∧ (bC p l e (headSpec w_y_X1_makeString__a15 ({ frames := 1, cells := 0, slots := 0, locals := 24 })).room s m #[.ref (a 0), .ref (a 15), .int (L0.1 2), .int (L0.1 3)] below meth c dC dI cy a z A (kI dC dI cy a z A below #[.ref (a 0), .ref (a 15), .int (L0.1 2), .int (L0.1 3)] s) 9 (y_X1_makeString__a15 k 7) (fun L => [(0, .ref (a 0)), (1, .ref (a 15)), (2, .int (L.1 2)), (3, .int (L.1 3)), (5, .int (L.1 5)), (6, .int (L.1 6)), (7, .int (L.1 7))]) 101 (fun L => [])) ∧ (bC p l e (headSpec w_y_X1_makeString__a15 ({ frames := 1, cells := 0, slots := 0, locals := 24 })).room s m #[.ref (a 0), .ref (a 15), .int (L0.1 2), .int (L0.1 3)] below meth c dC dI cy a z A (kI dC dI cy a z A below #[.ref (a 0), .ref (a 15), .int (L0.1 2), .int (L0.1 3)] s) 9 (y_X1_makeString__a15 k 8) (fun L => [(5, .int (L.1 5))]) 173 (fun L => [])) ∧ (bC p l e (headSpec w_y_X1_makeString__a15 ({ frames := 1, cells := 0, slots := 0, locals := 24 })).room s m #[.ref (a 0), .ref (a 15), .int (L0.1 2), .int (L0.1 3)] below meth c dC dI cy a z A (kI dC dI cy a z A below #[.ref (a 0), .ref (a 15), .int (L0.1 2), .int (L0.1 3)] s) 9 (y_X1_makeString__a15 k 9) (fun L => [(0, .ref (a 0)), (1, .ref (a 15)), (2, .int (L.1 2)), (3, .int (L.1 3)), (5, .int (L.1 5)), (6, .int (L.1 6)), (7, .int (L.1 7))]) 148 (fun L => [])) ∧ (bC p l e (headSpec w_y_X1_makeString__a15 ({ frames := 1, cells := 0, slots := 0, locals := 24 })).room s m #[.ref (a 0), .ref (a 15), .int (L0.1 2), .int (L0.1 3)] below meth c dC dI cy a z A (kI dC dI cy a z A below #[.ref (a 0), .ref (a 15), .int (L0.1 2), .int (L0.1 3)] s) 9 (y_X1_makeString__a15 k 10) (fun L => [(0, .ref (a 0)), (1, .ref (a 15)), (2, .int (L.1 2)), (3, .int (L.1 3)), (5, .int (L.1 5)), (6, .int (L.1 6)), (7, .int (L.1 7))]) 167 (fun L => [])) := by
    intro k
    induction k with
    | zero => exact ⟨fun L σ r h => (by cases h), fun L σ r h => (by cases h), fun L σ r h => (by cases h), fun L σ r h => (by cases h), fun L σ r h => (by cases h), fun L σ r h => (by cases h), fun L σ r h => (by cases h), fun L σ r h => (by cases h), fun L σ r h => (by cases h), fun L σ r h => (by cases h), fun L σ r h => (by cases h)⟩
    | succ k ih =>
      refine ⟨?_, ?_, ?_, ?_, ?_, ?_, ?_, ?_, ?_, ?_, ?_⟩
      · intro L σ r h H locs ls hP hD hS hl
        rw [y_X1_makeString__a15] at h
        refine lv_iload_n hx hb dX1_makeString_0 rfl (lv_at hl 3 rfl) ?_
        refine lv_iconst (v := 1) hx hb dX1_makeString_1 (by decide) ?_
        refine lv_icmp_gt (tgt := 24) hx hb dX1_makeString_2 (by decide) (fun c1 => ?_) (fun c1 => ?_)
        · rw [if_pos c1] at h
          exact ih.2.1 L σ r h H locs ls hP hD hS (lv_sub hl [0, 1, 2, 3] rfl)
        · rw [if_neg c1] at h
          refine lv_iload_n hx hb dX1_makeString_5 rfl (lv_at hl 3 rfl) ?_
          refine lv_if_gt (tgt := 13) hx hb dX1_makeString_6 (by decide) (fun c2 => ?_) (fun c2 => ?_)
          · rw [if_pos c2] at h
            exact ih.2.2.1 L σ r h H locs ls hP hD hS (lv_sub hl [1, 2] rfl)
          · rw [if_neg c2] at h
            refine lv_iconst (v := 0) hx hb dX1_makeString_9 (by decide) ?_
            refine lv_goto (tgt := 23) hx hb dX1_makeString_10 (by decide) ?_
            exact ih.2.2.2.1 (lI L 100 0) σ r h H locs ls hP hD hS (lv_sub hl [] rfl)
      · intro L σ r h H locs ls hP hD hS hl
        rw [y_X1_makeString__a15] at h
        refine lv_iload_n hx hb dX1_makeString_24 rfl (lv_at hl 3 rfl) ?_
        refine lv_iconst (v := 3) hx hb dX1_makeString_25 (by decide) ?_
        refine lv_iadd hx hb dX1_makeString_26 ?_
        refine lv_iconst (v := 2) hx hb dX1_makeString_27 (by decide) ?_
        refine lv_ishr hx hb dX1_makeString_28 ?_
        refine lv_istore (lv' := [(4, .int (((((L.1 3)) + 3)) >>> ((2 : Int32) &&& 31))), (0, .ref (a 0)), (1, .ref (a 15)), (2, .int (L.1 2)), (3, .int (L.1 3))]) hx hb dX1_makeString_29 hl (by decide) rfl (fun ls hl => ?_)
        refine lv_iload hx hb dX1_makeString_31 (lv_at hl 0 rfl) ?_
        refine lv_sipush (v := 1000) hx hb dX1_makeString_33 (by decide) ?_
        refine lv_icmp_lt (tgt := 42) hx hb dX1_makeString_36 (by decide) (fun c1 => ?_) (fun c1 => ?_)
        · rw [if_pos c1] at h
          exact ih.2.2.2.2.1 (lI L 4 ((((((L.1 3)) + 3)) >>> ((2 : Int32) &&& 31)))) σ r h H locs ls hP hD hS (lv_sub hl [1, 2, 3, 4, 0] rfl)
        · rw [if_neg c1] at h
          refine lv_ldc (v := (-268435451)) hx hb hown (hts _ (List.mem_cons_of_mem _ (List.mem_append_left _ (List.mem_append_left _ (List.mem_of_getElem? (i := 0) rfl))))) dX1_makeString_39 ?_
          obtain rfl := Option.some.inj h
          exact W.iret (v := (-268435451)) hx hb hr (fun t ht hW => ⟨⟨(-268435451), (), rfl, rfl, by rw [ht]; exact hP, va_K.moved hW.alike hK, hD⟩, hS.F ht⟩) hS.2.2 dX1_makeString_41
      · intro L σ r h H locs ls hP hD hS hl
        rw [y_X1_makeString__a15] at h
        refine lv_ldc (v := (-1073741824)) hx hb hown (hts _ (List.mem_cons_of_mem _ (List.mem_append_left _ (List.mem_append_left _ (List.mem_of_getElem? (i := 1) rfl))))) dX1_makeString_13 ?_
        refine lv_aload_n hx hb dX1_makeString_15 rfl (lv_at hl 0 rfl) ?_
        refine lv_iload_n hx hb dX1_makeString_16 rfl (lv_at hl 1 rfl) ?_
        obtain ⟨q1, h⟩ := kb_ite1 h
        refine hl_15 hx hb hK hP q1 dX1_makeString_17 ?_
        refine lv_sipush (v := 255) hx hb dX1_makeString_18 (by decide) ?_
        refine lv_iand hx hb dX1_makeString_21 ?_
        refine lv_ior hx hb dX1_makeString_22 ?_
        exact ih.2.2.2.1 (lI L 100 ((((-1073741824)) ||| ((((σ.2.2.1 15 ((L.1 2)).toNatClampNeg)) &&& 255))))) σ r h H locs ls hP hD hS (lv_sub hl [] rfl)
      · intro L σ r h H locs ls hP hD hS hl
        rw [y_X1_makeString__a15] at h
        obtain rfl := Option.some.inj h
        exact W.iret (v := (L.1 100)) hx hb hr (fun t ht hW => ⟨⟨(L.1 100), (), rfl, rfl, by rw [ht]; exact hP, va_K.moved hW.alike hK, hD⟩, hS.F ht⟩) hS.2.2 dX1_makeString_23
      · intro L σ r h H locs ls hP hD hS hl
        rw [y_X1_makeString__a15] at h
        refine lv_aload_n hx hb dX1_makeString_42 rfl (lv_at hl 0 rfl) ?_
        refine hg_0_1 hx hb hts in_y_X1_makeString__a15_X1 hown hK hP (hts _ (List.mem_cons_of_mem _ (List.mem_append_left _ (List.mem_append_left _ (List.mem_of_getElem? (i := 2) rfl))))) dX1_makeString_43 ?_
        refine lv_istore (lv' := [(5, .int (σ.1 1)), (0, .ref (a 0)), (1, .ref (a 15)), (2, .int (L.1 2)), (3, .int (L.1 3)), (4, .int (L.1 4))]) hx hb dX1_makeString_46 hl (by decide) rfl (fun ls hl => ?_)
        refine lv_iconst (v := 1) hx hb dX1_makeString_48 (by decide) ?_
        refine lv_iload hx hb dX1_makeString_49 (lv_at hl 5 rfl) ?_
        refine lv_iadd hx hb dX1_makeString_51 ?_
        refine lv_aload_n hx hb dX1_makeString_52 rfl (lv_at hl 1 rfl) ?_
        refine hg_0_0 hx hb hts in_y_X1_makeString__a15_X1 hown hK hP (hts _ (List.mem_cons_of_mem _ (List.mem_append_left _ (List.mem_append_left _ (List.mem_of_getElem? (i := 3) rfl))))) dX1_makeString_53 ?_
        refine hn_3 hx hb hK hP dX1_makeString_56 ?_
        refine lv_iload hx hb dX1_makeString_57 (lv_at hl 0 rfl) ?_
        refine lv_isub hx hb dX1_makeString_59 ?_
        refine lv_icmp_le (tgt := 66) hx hb dX1_makeString_60 (by decide) (fun c1 => ?_) (fun c1 => ?_)
        · rw [if_pos c1] at h
          exact ih.2.2.2.2.2.1 (lI L 5 ((σ.1 1))) σ r h H locs ls hP hD hS (lv_sub hl [1, 2, 3, 4, 5, 0] rfl)
        · rw [if_neg c1] at h
          refine lv_ldc (v := (-268435450)) hx hb hown (hts _ (List.mem_cons_of_mem _ (List.mem_append_left _ (List.mem_append_left _ (List.mem_of_getElem? (i := 4) rfl))))) dX1_makeString_63 ?_
          obtain rfl := Option.some.inj h
          exact W.iret (v := (-268435450)) hx hb hr (fun t ht hW => ⟨⟨(-268435450), (), rfl, rfl, by rw [ht]; exact hP, va_K.moved hW.alike hK, hD⟩, hS.F ht⟩) hS.2.2 dX1_makeString_65
      · intro L σ r h H locs ls hP hD hS hl
        rw [y_X1_makeString__a15] at h
        refine lv_aload_n hx hb dX1_makeString_66 rfl (lv_at hl 0 rfl) ?_
        refine lv_iload hx hb dX1_makeString_67 (lv_at hl 5 rfl) ?_
        refine lv_iconst (v := 1) hx hb dX1_makeString_69 (by decide) ?_
        refine lv_iadd hx hb dX1_makeString_70 ?_
        refine lv_iload hx hb dX1_makeString_71 (lv_at hl 4 rfl) ?_
        refine lv_iadd hx hb dX1_makeString_73 ?_
        refine hp_0_1 hx hb hts in_y_X1_makeString__a15_X1 hown hK hP hD hS (hts _ (List.mem_cons_of_mem _ (List.mem_append_left _ (List.mem_append_left _ (List.mem_of_getElem? (i := 2) rfl))))) dX1_makeString_74 (fun H locs hP hD hS => ?_)
        refine lv_aload_n hx hb dX1_makeString_77 rfl (lv_at hl 0 rfl) ?_
        refine hg_0_0 hx hb hts in_y_X1_makeString__a15_X1 hown hK hP (hts _ (List.mem_cons_of_mem _ (List.mem_append_left _ (List.mem_append_left _ (List.mem_of_getElem? (i := 3) rfl))))) dX1_makeString_78 ?_
        refine lv_iload hx hb dX1_makeString_81 (lv_at hl 5 rfl) ?_
        refine lv_iconst (v := 4) hx hb dX1_makeString_83 (by decide) ?_
        refine lv_iconst (v := 0) hx hb dX1_makeString_84 (by decide) ?_
        refine lv_iload_n hx hb dX1_makeString_85 rfl (lv_at hl 3 rfl) ?_
        refine lv_iconst (v := 1) hx hb dX1_makeString_86 (by decide) ?_
        refine lv_iload hx hb dX1_makeString_87 (lv_at hl 4 rfl) ?_
        refine lv_iadd hx hb dX1_makeString_89 ?_
        refine lv_iconst (v := 0) hx hb dX1_makeString_90 (by decide) ?_
        obtain ⟨r1, hc1, h⟩ := oc_ex h
        refine kc_i (va_runS (As := [.int 4, .int 0, .int (L.1 3), .int (1 + ((L.1 4))), .int 0]) (rest := [.int (L.1 5), .ref (z 3)]) ⟨hx, hb, hml, hown, hts⟩ (c_y_X1_header l dC dI cy a z k (lI (lI (lI (lI (lI lZ 0 4) 1 0) 2 ((L.1 3))) 3 ((1 + ((L.1 4))))) 4 0) (uI σ 1 ((((((L.1 5)) + 1)) + ((L.1 4))))) r1 hc1 H.size) (va_cwS 5 hts g_y_X1_makeString__a15_X1_header_S29 rfl rfl rfl hd_y_X1_header ⟨Nat.le_of_ble_eq_true rfl, Nat.le_of_ble_eq_true rfl⟩) ⟨nb_blind, (kb_pre hK hG hP hD)⟩ rfl rfl hl.1 rfl (lv_room (Nat.le_of_ble_eq_true rfl)) dX1_makeString_91 ⟨Nat.le_refl _, Nat.le_refl _⟩) hA hP hD hS (fun H locs hP hD hS => ?_)
        obtain ⟨q2, h⟩ := kb_ite1 h
        refine hs_3 hx hb hK hP hD hS q2 dX1_makeString_94 (fun H locs hP hD hS => ?_)
        exact ih.2.2.2.2.2.2.1 L (uA r1.2 3 ((L.1 5)).toNatClampNeg r1.1) r h H locs ls hP hD hS (lv_sub hl [0, 1, 2, 3, 5] rfl)
      · intro L σ r h H locs ls hP hD hS hl
        rw [y_X1_makeString__a15] at h
        refine lv_iconst (v := 0) hx hb dX1_makeString_95 (by decide) ?_
        refine lv_istore (lv' := [(6, .int 0), (0, .ref (a 0)), (1, .ref (a 15)), (2, .int (L.1 2)), (3, .int (L.1 3)), (5, .int (L.1 5))]) hx hb dX1_makeString_96 hl (by decide) rfl (fun ls hl => ?_)
        refine lv_iconst (v := 0) hx hb dX1_makeString_98 (by decide) ?_
        refine lv_istore (lv' := [(7, .int 0), (6, .int 0), (0, .ref (a 0)), (1, .ref (a 15)), (2, .int (L.1 2)), (3, .int (L.1 3)), (5, .int (L.1 5))]) hx hb dX1_makeString_99 hl (by decide) rfl (fun ls hl => ?_)
        exact ih.2.2.2.2.2.2.2.1 (lI (lI L 6 0) 7 0) σ r h H locs ls hP hD hS (lv_sub hl [2, 3, 4, 5, 6, 1, 0] rfl)
      · intro L σ r h H locs ls hP hD hS hl
        rw [y_X1_makeString__a15] at h
        refine lv_iload hx hb dX1_makeString_101 (lv_at hl 6 rfl) ?_
        refine lv_iload_n hx hb dX1_makeString_103 rfl (lv_at hl 3 rfl) ?_
        refine lv_icmp_ge (tgt := 173) hx hb dX1_makeString_104 (by decide) (fun c1 => ?_) (fun c1 => ?_)
        · rw [if_pos c1] at h
          exact ih.2.2.2.2.2.2.2.2.1 L σ r h H locs ls hP hD hS (lv_sub hl [4] rfl)
        · rw [if_neg c1] at h
          refine lv_iload hx hb dX1_makeString_107 (lv_at hl 6 rfl) ?_
          refine lv_iconst (v := 3) hx hb dX1_makeString_109 (by decide) ?_
          refine lv_iand hx hb dX1_makeString_110 ?_
          refine lv_iconst (v := 3) hx hb dX1_makeString_111 (by decide) ?_
          refine lv_ishl hx hb dX1_makeString_112 ?_
          refine lv_istore (lv' := [(8, .int (((((L.1 7)) &&& 3)) <<< ((3 : Int32) &&& 31))), (0, .ref (a 0)), (1, .ref (a 15)), (2, .int (L.1 2)), (3, .int (L.1 3)), (5, .int (L.1 5)), (6, .int (L.1 6)), (7, .int (L.1 7))]) hx hb dX1_makeString_113 hl (by decide) rfl (fun ls hl => ?_)
          refine lv_iload hx hb dX1_makeString_115 (lv_at hl 6 rfl) ?_
          refine lv_aload_n hx hb dX1_makeString_117 rfl (lv_at hl 2 rfl) ?_
          refine lv_iload_n hx hb dX1_makeString_118 rfl (lv_at hl 3 rfl) ?_
          refine lv_iload hx hb dX1_makeString_119 (lv_at hl 7 rfl) ?_
          refine lv_iadd hx hb dX1_makeString_121 ?_
          obtain ⟨q2, h⟩ := kb_ite1 h
          refine hl_15 hx hb hK hP q2 dX1_makeString_122 ?_
          refine lv_sipush (v := 255) hx hb dX1_makeString_123 (by decide) ?_
          refine lv_iand hx hb dX1_makeString_126 ?_
          refine lv_iload hx hb dX1_makeString_127 (lv_at hl 0 rfl) ?_
          refine lv_ishl hx hb dX1_makeString_129 ?_
          refine lv_ior hx hb dX1_makeString_130 ?_
          refine lv_istore (lv' := [(6, .int (((L.1 6)) ||| ((((((σ.2.2.1 15 ((((L.1 2)) + ((L.1 7)))).toNatClampNeg)) &&& 255)) <<< (((((((L.1 7)) &&& 3)) <<< ((3 : Int32) &&& 31))) &&& 31))))), (8, .int (((((L.1 7)) &&& 3)) <<< ((3 : Int32) &&& 31))), (0, .ref (a 0)), (1, .ref (a 15)), (2, .int (L.1 2)), (3, .int (L.1 3)), (5, .int (L.1 5)), (7, .int (L.1 7))]) hx hb dX1_makeString_131 hl (by decide) rfl (fun ls hl => ?_)
          refine lv_iload hx hb dX1_makeString_133 (lv_at hl 1 rfl) ?_
          refine lv_bipush (v := 24) hx hb dX1_makeString_135 (by decide) ?_
          refine lv_icmp_eq (tgt := 148) hx hb dX1_makeString_137 (by decide) (fun c3 => ?_) (fun c3 => ?_)
          · rw [if_pos c3] at h
            exact ih.2.2.2.2.2.2.2.2.2.1 (lI L 6 ((((L.1 6)) ||| ((((((σ.2.2.1 15 ((((L.1 2)) + ((L.1 7)))).toNatClampNeg)) &&& 255)) <<< (((((((L.1 7)) &&& 3)) <<< ((3 : Int32) &&& 31))) &&& 31)))))) σ r h H locs ls hP hD hS (lv_sub hl [2, 3, 4, 5, 6, 0, 7] rfl)
          · rw [if_neg c3] at h
            refine lv_iload hx hb dX1_makeString_140 (lv_at hl 7 rfl) ?_
            refine lv_iload_n hx hb dX1_makeString_142 rfl (lv_at hl 5 rfl) ?_
            refine lv_iconst (v := 1) hx hb dX1_makeString_143 (by decide) ?_
            refine lv_isub hx hb dX1_makeString_144 ?_
            refine lv_icmp_ne (tgt := 167) hx hb dX1_makeString_145 (by decide) (fun c4 => ?_) (fun c4 => ?_)
            · rw [if_neg c4] at h
              exact ih.2.2.2.2.2.2.2.2.2.2 (lI L 6 ((((L.1 6)) ||| ((((((σ.2.2.1 15 ((((L.1 2)) + ((L.1 7)))).toNatClampNeg)) &&& 255)) <<< (((((((L.1 7)) &&& 3)) <<< ((3 : Int32) &&& 31))) &&& 31)))))) σ r h H locs ls hP hD hS (lv_sub hl [2, 3, 4, 5, 6, 0, 7] rfl)
            · rw [if_pos c4] at h
              exact ih.2.2.2.2.2.2.2.2.2.1 (lI L 6 ((((L.1 6)) ||| ((((((σ.2.2.1 15 ((((L.1 2)) + ((L.1 7)))).toNatClampNeg)) &&& 255)) <<< (((((((L.1 7)) &&& 3)) <<< ((3 : Int32) &&& 31))) &&& 31)))))) σ r h H locs ls hP hD hS (lv_sub hl [2, 3, 4, 5, 6, 0, 7] rfl)
      · intro L σ r h H locs ls hP hD hS hl
        rw [y_X1_makeString__a15] at h
        refine lv_iload hx hb dX1_makeString_173 (lv_at hl 0 rfl) ?_
        obtain rfl := Option.some.inj h
        exact W.iret (v := (L.1 5)) hx hb hr (fun t ht hW => ⟨⟨(L.1 5), (), rfl, rfl, by rw [ht]; exact hP, va_K.moved hW.alike hK, hD⟩, hS.F ht⟩) hS.2.2 dX1_makeString_175
      · intro L σ r h H locs ls hP hD hS hl
        rw [y_X1_makeString__a15] at h
        refine lv_aload_n hx hb dX1_makeString_148 rfl (lv_at hl 0 rfl) ?_
        refine hg_0_0 hx hb hts in_y_X1_makeString__a15_X1 hown hK hP (hts _ (List.mem_cons_of_mem _ (List.mem_append_left _ (List.mem_append_left _ (List.mem_of_getElem? (i := 3) rfl))))) dX1_makeString_149 ?_
        refine lv_iload hx hb dX1_makeString_152 (lv_at hl 4 rfl) ?_
        refine lv_iconst (v := 1) hx hb dX1_makeString_154 (by decide) ?_
        refine lv_iadd hx hb dX1_makeString_155 ?_
        refine lv_iload hx hb dX1_makeString_156 (lv_at hl 6 rfl) ?_
        refine lv_iconst (v := 2) hx hb dX1_makeString_158 (by decide) ?_
        refine lv_ishr hx hb dX1_makeString_159 ?_
        refine lv_iadd hx hb dX1_makeString_160 ?_
        refine lv_iload hx hb dX1_makeString_161 (lv_at hl 5 rfl) ?_
        obtain ⟨q1, h⟩ := kb_ite1 h
        refine hs_3 hx hb hK hP hD hS q1 dX1_makeString_163 (fun H locs hP hD hS => ?_)
        refine lv_iconst (v := 0) hx hb dX1_makeString_164 (by decide) ?_
        refine lv_istore (lv' := [(6, .int 0), (0, .ref (a 0)), (1, .ref (a 15)), (2, .int (L.1 2)), (3, .int (L.1 3)), (5, .int (L.1 5)), (7, .int (L.1 7))]) hx hb dX1_makeString_165 hl (by decide) rfl (fun ls hl => ?_)
        exact ih.2.2.2.2.2.2.2.2.2.2 (lI L 6 0) (uA σ 3 ((((((L.1 5)) + 1)) + ((((L.1 7)) >>> ((2 : Int32) &&& 31))))).toNatClampNeg ((L.1 6))) r h H locs ls hP hD hS (lv_sub hl [1, 2, 3, 4, 5, 0, 6] rfl)
      · intro L σ r h H locs ls hP hD hS hl
        rw [y_X1_makeString__a15] at h
        refine lv_iinc (v := ((L.1 7)) + 1) (lv' := [(7, .int (((L.1 7)) + 1)), (0, .ref (a 0)), (1, .ref (a 15)), (2, .int (L.1 2)), (3, .int (L.1 3)), (5, .int (L.1 5)), (6, .int (L.1 6))]) hx hb dX1_makeString_167 hl (k := 6) rfl rfl (by decide) rfl (fun ls hl => ?_)
        refine lv_goto (tgt := 101) hx hb dX1_makeString_170 (by decide) ?_
        exact ih.2.2.2.2.2.2.2.1 (lI L 7 ((((L.1 7)) + 1))) σ r h H locs ls hP hD hS (lv_sub hl [1, 2, 3, 4, 5, 6, 0] rfl)
  exact (blk k0).1 L0 σ0 r0 h0 s.heap [] ls hP hD hS hl
/-! X0_joined -/
def y_X0_joined : Nat → Nat → LV → CS → Option (Int32 × CS)
  | 0, _, _, _ => none
  | k + 1, 0, L, σ => oc (y_X1_length k 0 (lI lZ 1 ((L.1 1))) σ) (fun r1 => oc (y_X1_copyBytes__a15 k 0 (lI (lI (lI (lI lZ 1 ((L.1 1))) 2 0) 3 r1.1) 5 0) r1.2) (fun r2 => oc (y_X1_length k 0 (lI lZ 1 ((L.1 2))) r2.2) (fun r3 => oc (y_X1_copyBytes__a15 k 0 (lI (lI (lI (lI lZ 1 ((L.1 2))) 2 0) 3 r3.1) 5 r2.1) r3.2) (fun r4 => oc (y_X1_makeString__a15 k 0 (lI (lI lZ 2 0) 3 r4.1) r4.2) (fun r5 => some (r5.1, r5.2))))))
  | _ + 1, _ + 1, _, _ => none
def o_y_X0_joined : List Cond := [.fieldLink RX0 22 "SetHouse$Algebra" "heap" "LSetHouse$Heap;", .methodLink RX0 100 yX1_length, .instanceMethod yX1_length, .selects RX1 yX1_length yX1_length, .initialized RX1, .fieldLink RX0 9 "SetHouse$Algebra" "bytes" "[B", .methodLink RX0 114 yX1_copyBytes, .instanceMethod yX1_copyBytes, .selects RX1 yX1_copyBytes yX1_copyBytes, .methodLink RX0 118 yX1_makeString, .instanceMethod yX1_makeString, .selects RX1 yX1_makeString yX1_makeString]
theorem o_y_X0_joined_good : o_y_X0_joined.all goodWord = true := by decide +kernel
def p_y_X0_joined : List Cond := o_y_X0_joined ++ ((.code yX1_length cX1_length 2 (some .int) :: p_y_X1_length) ++ ((.code yX1_copyBytes cX1_copyBytes 8 (some .int) :: p_y_X1_copyBytes__a15) ++ ((.code yX1_makeString cX1_makeString 9 (some .int) :: p_y_X1_makeString__a15) ++ [])))
theorem p_y_X0_joined_good : p_y_X0_joined.all goodWord = true := nb_all2 o_y_X0_joined_good (nb_all2 (nb_allc (by decide +kernel) p_y_X1_length_good) (nb_all2 (nb_allc (by decide +kernel) p_y_X1_copyBytes__a15_good) (nb_all2 (nb_allc (by decide +kernel) p_y_X1_makeString__a15_good) rfl)))
def w_y_X0_joined : List Cond := .code yX0_joined cX0_joined 4 (some .int) :: (p_y_X0_joined ++ fC)
theorem w_y_X0_joined_good : w_y_X0_joined.all goodWord = true := nb_allc (by decide +kernel) (nb_all2 p_y_X0_joined_good fC_good)
theorem in_y_X0_joined_X0 : ∀ w ∈ wsX00, w ∈ w_y_X0_joined := fun _ h => List.mem_cons_of_mem _ (List.mem_append_right _ (List.mem_append_left _ h))
theorem hd_y_X0_joined : yX0_joined.cls = RX0 ∧ yX0_joined.cls ≠ "java/lang/invoke/MethodHandle" ∧ yX0_joined.cls ≠ "java/lang/invoke/VarHandle" ∧ (parseMethodDescriptor yX0_joined.desc).map (fun d => d.parameters.length) = some 2 := by decide +kernel
theorem gg_y_X0_joined_X1_copyBytes__a15 : GoodIn w_y_X0_joined w_y_X1_copyBytes__a15 := goodIn_sub (fun w h => (List.mem_cons.mp h).elim (fun e => (List.mem_cons_of_mem _ (List.mem_append_left _ (List.mem_append_right _ (List.mem_append_right _ (List.mem_append_left _ (List.mem_cons.mpr (Or.inl e)))))))) (fun h => (List.mem_append.mp h).elim (fun h => (List.mem_cons_of_mem _ (List.mem_append_left _ (List.mem_append_right _ (List.mem_append_right _ (List.mem_append_left _ (List.mem_cons_of_mem _ h))))))) (fun h => List.mem_cons_of_mem _ (List.mem_append_right _ h)))) w_y_X1_copyBytes__a15_good
theorem g_y_X0_joined_X1_copyBytes__a15_V114 : GoodIn w_y_X0_joined (wsV RX0 114 RX1 yX1_copyBytes w_y_X1_copyBytes__a15) := goodIn_app (nb_g4 (List.mem_cons_of_mem _ (List.mem_append_left _ (List.mem_append_left _ (List.mem_of_getElem? (i := 6) rfl)))) (List.mem_cons_of_mem _ (List.mem_append_left _ (List.mem_append_left _ (List.mem_of_getElem? (i := 7) rfl)))) (List.mem_cons_of_mem _ (List.mem_append_left _ (List.mem_append_left _ (List.mem_of_getElem? (i := 8) rfl)))) (List.mem_cons_of_mem _ (List.mem_append_left _ (List.mem_append_left _ (List.mem_of_getElem? (i := 4) rfl)))) (by decide +kernel)) gg_y_X0_joined_X1_copyBytes__a15
theorem gg_y_X0_joined_X1_length : GoodIn w_y_X0_joined w_y_X1_length := goodIn_sub (fun w h => (List.mem_cons.mp h).elim (fun e => (List.mem_cons_of_mem _ (List.mem_append_left _ (List.mem_append_right _ (List.mem_append_left _ (List.mem_cons.mpr (Or.inl e))))))) (fun h => (List.mem_append.mp h).elim (fun h => (List.mem_cons_of_mem _ (List.mem_append_left _ (List.mem_append_right _ (List.mem_append_left _ (List.mem_cons_of_mem _ h)))))) (fun h => List.mem_cons_of_mem _ (List.mem_append_right _ h)))) w_y_X1_length_good
theorem g_y_X0_joined_X1_length_V100 : GoodIn w_y_X0_joined (wsV RX0 100 RX1 yX1_length w_y_X1_length) := goodIn_app (nb_g4 (List.mem_cons_of_mem _ (List.mem_append_left _ (List.mem_append_left _ (List.mem_of_getElem? (i := 1) rfl)))) (List.mem_cons_of_mem _ (List.mem_append_left _ (List.mem_append_left _ (List.mem_of_getElem? (i := 2) rfl)))) (List.mem_cons_of_mem _ (List.mem_append_left _ (List.mem_append_left _ (List.mem_of_getElem? (i := 3) rfl)))) (List.mem_cons_of_mem _ (List.mem_append_left _ (List.mem_append_left _ (List.mem_of_getElem? (i := 4) rfl)))) (by decide +kernel)) gg_y_X0_joined_X1_length
theorem gg_y_X0_joined_X1_makeString__a15 : GoodIn w_y_X0_joined w_y_X1_makeString__a15 := goodIn_sub (fun w h => (List.mem_cons.mp h).elim (fun e => (List.mem_cons_of_mem _ (List.mem_append_left _ (List.mem_append_right _ (List.mem_append_right _ (List.mem_append_right _ (List.mem_append_left _ (List.mem_cons.mpr (Or.inl e))))))))) (fun h => (List.mem_append.mp h).elim (fun h => (List.mem_cons_of_mem _ (List.mem_append_left _ (List.mem_append_right _ (List.mem_append_right _ (List.mem_append_right _ (List.mem_append_left _ (List.mem_cons_of_mem _ h)))))))) (fun h => List.mem_cons_of_mem _ (List.mem_append_right _ h)))) w_y_X1_makeString__a15_good
theorem g_y_X0_joined_X1_makeString__a15_V118 : GoodIn w_y_X0_joined (wsV RX0 118 RX1 yX1_makeString w_y_X1_makeString__a15) := goodIn_app (nb_g4 (List.mem_cons_of_mem _ (List.mem_append_left _ (List.mem_append_left _ (List.mem_of_getElem? (i := 9) rfl)))) (List.mem_cons_of_mem _ (List.mem_append_left _ (List.mem_append_left _ (List.mem_of_getElem? (i := 10) rfl)))) (List.mem_cons_of_mem _ (List.mem_append_left _ (List.mem_append_left _ (List.mem_of_getElem? (i := 11) rfl)))) (List.mem_cons_of_mem _ (List.mem_append_left _ (List.mem_append_left _ (List.mem_of_getElem? (i := 4) rfl)))) (by decide +kernel)) gg_y_X0_joined_X1_makeString__a15
set_option maxHeartbeats 40000000 in
set_option maxRecDepth 100000 in
theorem c_y_X0_joined (l : Launch) (dC : Nat → ClassId) (dI : Nat → Nat → Nat) (cy : Nat → ClassId) (a z : Nat → Nat) (k0 : Nat) (L0 : LV) (σ0 : CS) (r0 : Int32 × CS) (h0 : y_X0_joined k0 0 L0 σ0 = some r0) (sz : Nat) : Met l yX0_joined w_y_X0_joined ({ frames := 2, cells := 0, slots := 0, locals := 52 }) (va_Pc [.ref (a 14), .int (L0.1 1), .int (L0.1 2)] (nIn (dC, dI) cy sz (vC cy a z σ0))) (va_Qi (fun (x : Int32) (_ : Unit) => x = r0.1) (fun _ t => nOut (dC, dI) cy (va_A (vC cy a z σ0) sz) (vC cy a z r0.2) t) (va_A (vC cy a z σ0) sz)) 0 0 (va_A (vC cy a z σ0) sz) := by
  refine Met.ofW (cc := cX0_joined) (maxL := 4) (ret := (some .int)) (by decide) rfl ?_
  intro p e s m args below meth c s₁ B hml hv
  obtain ⟨rfl, hsz, hP, hK, hD0, hG⟩ := hv
  have hx := B.exec
  have hb := B.bytes
  have hr := B.returns
  have hts := atoms_spec (ws := w_y_X0_joined) B.pre
  have hown : s.vm.findClass RX0 = some m.cls := findClass_of_methodNamed B.named
  have hlocks := B.notSynchronized
  subst hsz
  have hD := hD0.self (sz := s.heap.size)
  generalize hAe : va_A (vC cy a z σ0) s.heap.size = A at hD ⊢
  have hA : ∀ q : Nat, s.heap.size ≤ q → A q := fun q h => by rw [← hAe]; exact Or.inr h
  have hS : va_S A s.heap s.heap [] := va_S.rf
  have hl := lv_entry ([.ref (a 14), .int (L0.1 1), .int (L0.1 2)]) (n := 4) (Nat.le_of_ble_eq_true rfl)
  rw [lg_entry_eq]
  generalize (lg_sl ([.ref (a 14), .int (L0.1 1), .int (L0.1 2)]) ++ List.replicate (4 - (lg_sl ([.ref (a 14), .int (L0.1 1), .int (L0.1 2)])).length) Slot.unset).toArray = ls at hl ⊢
  have hl : lv_has ls 4 [(0, .ref (a 14)), (1, .int (L0.1 1)), (2, .int (L0.1 2))] := hl
  have blk : ∀ k : Nat, (bC p l e (headSpec w_y_X0_joined ({ frames := 2, cells := 0, slots := 0, locals := 52 })).room s m #[.ref (a 14), .int (L0.1 1), .int (L0.1 2)] below meth c dC dI cy a z A (kI dC dI cy a z A below #[.ref (a 14), .int (L0.1 1), .int (L0.1 2)] s) 4 (y_X0_joined k 0) (fun L => [(0, .ref (a 14)), (1, .int (L.1 1)), (2, .int (L.1 2))]) 0 (fun L => [])) := by
    intro k
    induction k with
    | zero => exact fun L σ r h => (by cases h)
    | succ k ih =>
      skip
      · intro L σ r h H locs ls hP hD hS hl
        rw [y_X0_joined] at h
        refine lv_aload_n hx hb dX0_joined_0 rfl (lv_at hl 0 rfl) ?_
        refine hg_14_0 hx hb hts in_y_X0_joined_X0 hown hK hP (hts _ (List.mem_cons_of_mem _ (List.mem_append_left _ (List.mem_append_left _ (List.mem_of_getElem? (i := 0) rfl))))) dX0_joined_1 ?_
        refine lv_iload_n hx hb dX0_joined_4 rfl (lv_at hl 1 rfl) ?_
        refine lv_iconst (v := 0) hx hb dX0_joined_5 (by decide) ?_
        refine lv_aload_n hx hb dX0_joined_6 rfl (lv_at hl 0 rfl) ?_
        refine hg_14_0 hx hb hts in_y_X0_joined_X0 hown hK hP (hts _ (List.mem_cons_of_mem _ (List.mem_append_left _ (List.mem_append_left _ (List.mem_of_getElem? (i := 0) rfl))))) dX0_joined_7 ?_
        refine lv_iload_n hx hb dX0_joined_10 rfl (lv_at hl 1 rfl) ?_
        obtain ⟨r1, hc1, h⟩ := oc_ex h
        refine kc_i (va_runV (As := [.int (L.1 1)]) (rest := [.int 0, .int (L.1 1), .ref (a 0)]) ⟨hx, hb, hml, hown, hts⟩ (c_y_X1_length l dC dI cy a z k (lI lZ 1 ((L.1 1))) σ r1 hc1 H.size) (cwV 1 hts g_y_X0_joined_X1_length_V100 rfl rfl rfl hd_y_X1_length ⟨Nat.le_of_ble_eq_true rfl, Nat.le_of_ble_eq_true rfl⟩) ⟨nb_blind, va_recv hK hP (ci := 1) (q0 := 0) rfl rfl, (kb_pre hK hG hP hD)⟩ rfl rfl hl.1 rfl (lv_room (Nat.le_of_ble_eq_true rfl)) dX0_joined_11 ⟨Nat.le_refl _, Nat.le_refl _⟩) hA hP hD hS (fun H locs hP hD hS => ?_)
        refine lv_aload_n hx hb dX0_joined_14 rfl (lv_at hl 0 rfl) ?_
        refine hg_14_3 hx hb hts in_y_X0_joined_X0 hown hK hP (hts _ (List.mem_cons_of_mem _ (List.mem_append_left _ (List.mem_append_left _ (List.mem_of_getElem? (i := 5) rfl))))) dX0_joined_15 ?_
        refine lv_iconst (v := 0) hx hb dX0_joined_18 (by decide) ?_
        obtain ⟨r2, hc2, h⟩ := oc_ex h
        refine kc_i (va_runV (As := [.int (L.1 1), .int 0, .int r1.1, .ref (a 15), .int 0]) (rest := []) ⟨hx, hb, hml, hown, hts⟩ (c_y_X1_copyBytes__a15 l dC dI cy a z k (lI (lI (lI (lI lZ 1 ((L.1 1))) 2 0) 3 r1.1) 5 0) r1.2 r2 hc2 H.size) (cwV 5 hts g_y_X0_joined_X1_copyBytes__a15_V114 rfl rfl rfl hd_y_X1_copyBytes__a15 ⟨Nat.le_of_ble_eq_true rfl, Nat.le_of_ble_eq_true rfl⟩) ⟨nb_blind, va_recv hK hP (ci := 1) (q0 := 0) rfl rfl, (kb_pre hK hG hP hD)⟩ rfl rfl hl.1 rfl (lv_room (Nat.le_of_ble_eq_true rfl)) dX0_joined_19 ⟨Nat.le_refl _, Nat.le_refl _⟩) hA hP hD hS (fun H locs hP hD hS => ?_)
        refine lv_istore_n (lv' := [(3, .int r2.1), (0, .ref (a 14)), (1, .int (L.1 1)), (2, .int (L.1 2))]) hx hb dX0_joined_22 rfl hl (by decide) rfl (fun ls hl => ?_)
        refine lv_aload_n hx hb dX0_joined_23 rfl (lv_at hl 1 rfl) ?_
        refine hg_14_0 hx hb hts in_y_X0_joined_X0 hown hK hP (hts _ (List.mem_cons_of_mem _ (List.mem_append_left _ (List.mem_append_left _ (List.mem_of_getElem? (i := 0) rfl))))) dX0_joined_24 ?_
        refine lv_iload_n hx hb dX0_joined_27 rfl (lv_at hl 3 rfl) ?_
        refine lv_iconst (v := 0) hx hb dX0_joined_28 (by decide) ?_
        refine lv_aload_n hx hb dX0_joined_29 rfl (lv_at hl 1 rfl) ?_
        refine hg_14_0 hx hb hts in_y_X0_joined_X0 hown hK hP (hts _ (List.mem_cons_of_mem _ (List.mem_append_left _ (List.mem_append_left _ (List.mem_of_getElem? (i := 0) rfl))))) dX0_joined_30 ?_
        refine lv_iload_n hx hb dX0_joined_33 rfl (lv_at hl 3 rfl) ?_
        obtain ⟨r3, hc3, h⟩ := oc_ex h
        refine kc_i (va_runV (As := [.int (L.1 2)]) (rest := [.int 0, .int (L.1 2), .ref (a 0)]) ⟨hx, hb, hml, hown, hts⟩ (c_y_X1_length l dC dI cy a z k (lI lZ 1 ((L.1 2))) r2.2 r3 hc3 H.size) (cwV 1 hts g_y_X0_joined_X1_length_V100 rfl rfl rfl hd_y_X1_length ⟨Nat.le_of_ble_eq_true rfl, Nat.le_of_ble_eq_true rfl⟩) ⟨nb_blind, va_recv hK hP (ci := 1) (q0 := 0) rfl rfl, (kb_pre hK hG hP hD)⟩ rfl rfl hl.1 rfl (lv_room (Nat.le_of_ble_eq_true rfl)) dX0_joined_34 ⟨Nat.le_refl _, Nat.le_refl _⟩) hA hP hD hS (fun H locs hP hD hS => ?_)
        refine lv_aload_n hx hb dX0_joined_37 rfl (lv_at hl 1 rfl) ?_
        refine hg_14_3 hx hb hts in_y_X0_joined_X0 hown hK hP (hts _ (List.mem_cons_of_mem _ (List.mem_append_left _ (List.mem_append_left _ (List.mem_of_getElem? (i := 5) rfl))))) dX0_joined_38 ?_
        refine lv_iload_n hx hb dX0_joined_41 rfl (lv_at hl 0 rfl) ?_
        obtain ⟨r4, hc4, h⟩ := oc_ex h
        refine kc_i (va_runV (As := [.int (L.1 2), .int 0, .int r3.1, .ref (a 15), .int r2.1]) (rest := []) ⟨hx, hb, hml, hown, hts⟩ (c_y_X1_copyBytes__a15 l dC dI cy a z k (lI (lI (lI (lI lZ 1 ((L.1 2))) 2 0) 3 r3.1) 5 r2.1) r3.2 r4 hc4 H.size) (cwV 5 hts g_y_X0_joined_X1_copyBytes__a15_V114 rfl rfl rfl hd_y_X1_copyBytes__a15 ⟨Nat.le_of_ble_eq_true rfl, Nat.le_of_ble_eq_true rfl⟩) ⟨nb_blind, va_recv hK hP (ci := 1) (q0 := 0) rfl rfl, (kb_pre hK hG hP hD)⟩ rfl rfl hl.1 rfl (lv_room (Nat.le_of_ble_eq_true rfl)) dX0_joined_42 ⟨Nat.le_refl _, Nat.le_refl _⟩) hA hP hD hS (fun H locs hP hD hS => ?_)
        refine lv_istore_n (lv' := [(3, .int r4.1), (0, .ref (a 14)), (1, .int (L.1 1)), (2, .int (L.1 2))]) hx hb dX0_joined_45 rfl hl (by decide) rfl (fun ls hl => ?_)
        refine lv_aload_n hx hb dX0_joined_46 rfl (lv_at hl 1 rfl) ?_
        refine hg_14_0 hx hb hts in_y_X0_joined_X0 hown hK hP (hts _ (List.mem_cons_of_mem _ (List.mem_append_left _ (List.mem_append_left _ (List.mem_of_getElem? (i := 0) rfl))))) dX0_joined_47 ?_
        refine lv_aload_n hx hb dX0_joined_50 rfl (lv_at hl 1 rfl) ?_
        refine hg_14_3 hx hb hts in_y_X0_joined_X0 hown hK hP (hts _ (List.mem_cons_of_mem _ (List.mem_append_left _ (List.mem_append_left _ (List.mem_of_getElem? (i := 5) rfl))))) dX0_joined_51 ?_
        refine lv_iconst (v := 0) hx hb dX0_joined_54 (by decide) ?_
        refine lv_iload_n hx hb dX0_joined_55 rfl (lv_at hl 0 rfl) ?_
        obtain ⟨r5, hc5, h⟩ := oc_ex h
        refine kc_i (va_runV (As := [.ref (a 15), .int 0, .int r4.1]) (rest := []) ⟨hx, hb, hml, hown, hts⟩ (c_y_X1_makeString__a15 l dC dI cy a z k (lI (lI lZ 2 0) 3 r4.1) r4.2 r5 hc5 H.size) (cwV 3 hts g_y_X0_joined_X1_makeString__a15_V118 rfl rfl rfl hd_y_X1_makeString__a15 ⟨Nat.le_of_ble_eq_true rfl, Nat.le_of_ble_eq_true rfl⟩) ⟨nb_blind, va_recv hK hP (ci := 1) (q0 := 0) rfl rfl, (kb_pre hK hG hP hD)⟩ rfl rfl hl.1 rfl (lv_room (Nat.le_of_ble_eq_true rfl)) dX0_joined_56 ⟨Nat.le_refl _, Nat.le_refl _⟩) hA hP hD hS (fun H locs hP hD hS => ?_)
        obtain rfl := Option.some.inj h
        exact W.iret (v := r5.1) hx hb hr (fun t ht hW => ⟨⟨r5.1, (), rfl, rfl, by rw [ht]; exact hP, va_K.moved hW.alike hK, hD⟩, hS.F ht⟩) hS.2.2 dX0_joined_59
  exact (blk k0) L0 σ0 r0 h0 s.heap [] ls hP hD hS hl
/-! X0_load -/
def y_X0_load : Nat → Nat → LV → CS → Option (Int32 × CS)
  | 0, _, _, _ => none
  | k + 1, 0, L, σ => if ((if ((((Int32.ofNat 2048)) - ((L.1 4)))) < ((((L.1 3)) - ((L.1 2)))) then ((((Int32.ofNat 2048)) - ((L.1 4)))) else ((((L.1 3)) - ((L.1 2)))))) ≤ 0 then (y_X0_load k 1 L σ) else (if 0 ≤ ((L.1 1)) then (y_X0_load k 2 (lI L 5 ((if ((((Int32.ofNat 2048)) - ((L.1 4)))) < ((((L.1 3)) - ((L.1 2)))) then ((((Int32.ofNat 2048)) - ((L.1 4)))) else ((((L.1 3)) - ((L.1 2))))))) σ) else (y_X0_load k 1 L σ))
  | k + 1, 1, L, σ => some ((L.1 4), σ)
  | k + 1, 2, L, σ => if ¬ ((((((L.1 1)) + 1)) + ((L.1 2)))) < 0 ∧ ¬ ((L.1 4)) < 0 ∧ ¬ ((L.1 5)) < 0 ∧ ((((((L.1 1)) + 1)) + ((L.1 2)))).toNatClampNeg + ((L.1 5)).toNatClampNeg ≤ (sN σ 3) ∧ ((L.1 4)).toNatClampNeg + ((L.1 5)).toNatClampNeg ≤ 2048 then (some ((((L.1 4)) + ((L.1 5))), (uF σ 16 (va_cpy (σ.2.2.1 3) (σ.2.2.1 16) ((((((L.1 1)) + 1)) + ((L.1 2)))).toNatClampNeg ((L.1 4)).toNatClampNeg ((L.1 5)).toNatClampNeg)))) else none
  | _ + 1, _ + 3, _, _ => none
def o_y_X0_load : List Cond := [.fieldLink RX0 15 "SetHouse$Algebra" "row" "[I", .methodLink RX0 140 Lib.Math.min.name, .static Lib.Math.min.name, .initialized "java/lang/Math", .code Lib.Math.min.name Lib.Math.min.code 2 (some .int), .fieldLink RX0 22 "SetHouse$Algebra" "heap" "LSetHouse$Heap;", .methodLink RX0 148 arraycopyName, .native arraycopyName, .static arraycopyName, .initialized "java/lang/System"]
theorem o_y_X0_load_good : o_y_X0_load.all goodWord = true := by decide +kernel
def p_y_X0_load : List Cond := o_y_X0_load ++ []
theorem p_y_X0_load_good : p_y_X0_load.all goodWord = true := nb_all2 o_y_X0_load_good rfl
def w_y_X0_load : List Cond := .code yX0_load cX0_load 6 (some .int) :: (p_y_X0_load ++ fC)
theorem w_y_X0_load_good : w_y_X0_load.all goodWord = true := nb_allc (by decide +kernel) (nb_all2 p_y_X0_load_good fC_good)
theorem in_y_X0_load_X0 : ∀ w ∈ wsX00, w ∈ w_y_X0_load := fun _ h => List.mem_cons_of_mem _ (List.mem_append_right _ (List.mem_append_left _ h))
theorem in_y_X0_load_X1 : ∀ w ∈ wsX10, w ∈ w_y_X0_load := fun _ h => List.mem_cons_of_mem _ (List.mem_append_right _ (List.mem_append_right _ (List.mem_append_left _ h)))
theorem hd_y_X0_load : yX0_load.cls = RX0 ∧ yX0_load.cls ≠ "java/lang/invoke/MethodHandle" ∧ yX0_load.cls ≠ "java/lang/invoke/VarHandle" ∧ (parseMethodDescriptor yX0_load.desc).map (fun d => d.parameters.length) = some 4 := by decide +kernel
set_option maxHeartbeats 40000000 in
set_option maxRecDepth 100000 in
theorem c_y_X0_load (l : Launch) (dC : Nat → ClassId) (dI : Nat → Nat → Nat) (cy : Nat → ClassId) (a z : Nat → Nat) (k0 : Nat) (L0 : LV) (σ0 : CS) (r0 : Int32 × CS) (h0 : y_X0_load k0 0 L0 σ0 = some r0) (sz : Nat) : Met l yX0_load w_y_X0_load ({ frames := 1, cells := 0, slots := 0, locals := 60 }) (va_Pc [.ref (a 14), .int (L0.1 1), .int (L0.1 2), .int (L0.1 3), .int (L0.1 4)] (nIn (dC, dI) cy sz (vC cy a z σ0))) (va_Qi (fun (x : Int32) (_ : Unit) => x = r0.1) (fun _ t => nOut (dC, dI) cy (va_A (vC cy a z σ0) sz) (vC cy a z r0.2) t) (va_A (vC cy a z σ0) sz)) 0 0 (va_A (vC cy a z σ0) sz) := by
  refine Met.ofW (cc := cX0_load) (maxL := 6) (ret := (some .int)) (by decide) rfl ?_
  intro p e s m args below meth c s₁ B hml hv
  obtain ⟨rfl, hsz, hP, hK, hD0, hG⟩ := hv
  have hx := B.exec
  have hb := B.bytes
  have hr := B.returns
  have hts := atoms_spec (ws := w_y_X0_load) B.pre
  have hown : s.vm.findClass RX0 = some m.cls := findClass_of_methodNamed B.named
  have hlocks := B.notSynchronized
  subst hsz
  have hD := hD0.self (sz := s.heap.size)
  generalize hAe : va_A (vC cy a z σ0) s.heap.size = A at hD ⊢
  have hA : ∀ q : Nat, s.heap.size ≤ q → A q := fun q h => by rw [← hAe]; exact Or.inr h
  have hS : va_S A s.heap s.heap [] := va_S.rf
  have hl := lv_entry ([.ref (a 14), .int (L0.1 1), .int (L0.1 2), .int (L0.1 3), .int (L0.1 4)]) (n := 6) (Nat.le_of_ble_eq_true rfl)
  rw [lg_entry_eq]
  generalize (lg_sl ([.ref (a 14), .int (L0.1 1), .int (L0.1 2), .int (L0.1 3), .int (L0.1 4)]) ++ List.replicate (6 - (lg_sl ([.ref (a 14), .int (L0.1 1), .int (L0.1 2), .int (L0.1 3), .int (L0.1 4)])).length) Slot.unset).toArray = ls at hl ⊢
  have hl : lv_has ls 6 [(0, .ref (a 14)), (1, .int (L0.1 1)), (2, .int (L0.1 2)), (3, .int (L0.1 3)), (4, .int (L0.1 4))] := hl
  have blk : ∀ k : Nat, (bC p l e (headSpec w_y_X0_load ({ frames := 1, cells := 0, slots := 0, locals := 60 })).room s m #[.ref (a 14), .int (L0.1 1), .int (L0.1 2), .int (L0.1 3), .int (L0.1 4)] below meth c dC dI cy a z A (kI dC dI cy a z A below #[.ref (a 14), .int (L0.1 1), .int (L0.1 2), .int (L0.1 3), .int (L0.1 4)] s) 6 (y_X0_load k 0) (fun L => [(0, .ref (a 14)), (1, .int (L.1 1)), (2, .int (L.1 2)), (3, .int (L.1 3)), (4, .int (L.1 4))]) 0 (fun L => [])) ∧ (bC p l e (headSpec w_y_X0_load ({ frames := 1, cells := 0, slots := 0, locals := 60 })).room s m #[.ref (a 14), .int (L0.1 1), .int (L0.1 2), .int (L0.1 3), .int (L0.1 4)] below meth c dC dI cy a z A (kI dC dI cy a z A below #[.ref (a 14), .int (L0.1 1), .int (L0.1 2), .int (L0.1 3), .int (L0.1 4)] s) 6 (y_X0_load k 1) (fun L => [(4, .int (L.1 4))]) 25 (fun L => [])) ∧ (bC p l e (headSpec w_y_X0_load ({ frames := 1, cells := 0, slots := 0, locals := 60 })).room s m #[.ref (a 14), .int (L0.1 1), .int (L0.1 2), .int (L0.1 3), .int (L0.1 4)] below meth c dC dI cy a z A (kI dC dI cy a z A below #[.ref (a 14), .int (L0.1 1), .int (L0.1 2), .int (L0.1 3), .int (L0.1 4)] s) 6 (y_X0_load k 2) (fun L => [(0, .ref (a 14)), (1, .int (L.1 1)), (2, .int (L.1 2)), (4, .int (L.1 4)), (5, .int (L.1 5))]) 28 (fun L => [])) := by
    intro k
    induction k with
    | zero => exact ⟨fun L σ r h => (by cases h), fun L σ r h => (by cases h), fun L σ r h => (by cases h)⟩
    | succ k ih =>
      refine ⟨?_, ?_, ?_⟩
      · intro L σ r h H locs ls hP hD hS hl
        rw [y_X0_load] at h
        refine lv_iload_n hx hb dX0_load_0 rfl (lv_at hl 3 rfl) ?_
        refine lv_iload_n hx hb dX0_load_1 rfl (lv_at hl 2 rfl) ?_
        refine lv_isub hx hb dX0_load_2 ?_
        refine lv_aload_n hx hb dX0_load_3 rfl (lv_at hl 0 rfl) ?_
        refine hg_14_4 hx hb hts in_y_X0_load_X0 hown hK hP (hts _ (List.mem_cons_of_mem _ (List.mem_append_left _ (List.mem_append_left _ (List.mem_of_getElem? (i := 0) rfl))))) dX0_load_4 ?_
        refine hn_16 hx hb hK hP dX0_load_7 ?_
        refine lv_iload hx hb dX0_load_8 (lv_at hl 4 rfl) ?_
        refine lv_isub hx hb dX0_load_10 ?_
        refine va_mmin (x := ((((L.1 3)) - ((L.1 2))))) (y := ((((Int32.ofNat 2048)) - ((L.1 4))))) hx hb (hml.trans hl.1.symm) hown (hts _ (List.mem_cons_of_mem _ (List.mem_append_left _ (List.mem_append_left _ (List.mem_of_getElem? (i := 1) rfl))))) (hts _ (List.mem_cons_of_mem _ (List.mem_append_left _ (List.mem_append_left _ (List.mem_of_getElem? (i := 2) rfl))))) (hts _ (List.mem_cons_of_mem _ (List.mem_append_left _ (List.mem_append_left _ (List.mem_of_getElem? (i := 3) rfl))))) (hts _ (List.mem_cons_of_mem _ (List.mem_append_left _ (List.mem_append_left _ (List.mem_of_getElem? (i := 4) rfl))))) (Nat.le_of_ble_eq_true rfl) (Nat.le_of_ble_eq_true rfl)  (Nat.zero_le _) (Nat.zero_le _) dX0_load_11 ?_
        refine lv_istore (lv' := [(5, .int (if ((((Int32.ofNat 2048)) - ((L.1 4)))) < ((((L.1 3)) - ((L.1 2)))) then ((((Int32.ofNat 2048)) - ((L.1 4)))) else ((((L.1 3)) - ((L.1 2)))))), (0, .ref (a 14)), (1, .int (L.1 1)), (2, .int (L.1 2)), (3, .int (L.1 3)), (4, .int (L.1 4))]) hx hb dX0_load_14 hl (by decide) rfl (fun ls hl => ?_)
        refine lv_iload hx hb dX0_load_16 (lv_at hl 0 rfl) ?_
        refine lv_if_le (tgt := 25) hx hb dX0_load_18 (by decide) (fun c1 => ?_) (fun c1 => ?_)
        · rw [if_pos c1] at h
          exact ih.2.1 L σ r h H locs ls hP hD hS (lv_sub hl [5] rfl)
        · rw [if_neg c1] at h
          refine lv_iload_n hx hb dX0_load_21 rfl (lv_at hl 2 rfl) ?_
          refine lv_if_ge (tgt := 28) hx hb dX0_load_22 (by decide) (fun c2 => ?_) (fun c2 => ?_)
          · rw [if_pos c2] at h
            exact ih.2.2 (lI L 5 ((if ((((Int32.ofNat 2048)) - ((L.1 4)))) < ((((L.1 3)) - ((L.1 2)))) then ((((Int32.ofNat 2048)) - ((L.1 4)))) else ((((L.1 3)) - ((L.1 2))))))) σ r h H locs ls hP hD hS (lv_sub hl [1, 2, 3, 5, 0] rfl)
          · rw [if_neg c2] at h
            exact ih.2.1 L σ r h H locs ls hP hD hS (lv_sub hl [5] rfl)
      · intro L σ r h H locs ls hP hD hS hl
        rw [y_X0_load] at h
        refine lv_iload hx hb dX0_load_25 (lv_at hl 0 rfl) ?_
        obtain rfl := Option.some.inj h
        exact W.iret (v := (L.1 4)) hx hb hr (fun t ht hW => ⟨⟨(L.1 4), (), rfl, rfl, by rw [ht]; exact hP, va_K.moved hW.alike hK, hD⟩, hS.F ht⟩) hS.2.2 dX0_load_27
      · intro L σ r h H locs ls hP hD hS hl
        rw [y_X0_load] at h
        refine lv_aload_n hx hb dX0_load_28 rfl (lv_at hl 0 rfl) ?_
        refine hg_14_0 hx hb hts in_y_X0_load_X0 hown hK hP (hts _ (List.mem_cons_of_mem _ (List.mem_append_left _ (List.mem_append_left _ (List.mem_of_getElem? (i := 5) rfl))))) dX0_load_29 ?_
        refine hg_0_0n hx hb hts in_y_X0_load_X1 hown hK hP (va_Nw.use rfl (hG.1 _ (List.mem_of_getElem? (i := 1) rfl))) dX0_load_32 ?_
        refine lv_iload_n hx hb dX0_load_35 rfl (lv_at hl 1 rfl) ?_
        refine lv_iconst (v := 1) hx hb dX0_load_36 (by decide) ?_
        refine lv_iadd hx hb dX0_load_37 ?_
        refine lv_iload_n hx hb dX0_load_38 rfl (lv_at hl 2 rfl) ?_
        refine lv_iadd hx hb dX0_load_39 ?_
        refine lv_aload_n hx hb dX0_load_40 rfl (lv_at hl 0 rfl) ?_
        refine hg_14_4 hx hb hts in_y_X0_load_X0 hown hK hP (hts _ (List.mem_cons_of_mem _ (List.mem_append_left _ (List.mem_append_left _ (List.mem_of_getElem? (i := 0) rfl))))) dX0_load_41 ?_
        refine lv_iload hx hb dX0_load_44 (lv_at hl 3 rfl) ?_
        refine lv_iload hx hb dX0_load_46 (lv_at hl 4 rfl) ?_
        obtain ⟨q1, h⟩ := kb_ite1 h
        refine va_copyi (ty := .int) hx hb (hml.trans hl.1.symm) hown (hts _ (List.mem_cons_of_mem _ (List.mem_append_left _ (List.mem_append_left _ (List.mem_of_getElem? (i := 6) rfl))))) (hts _ (List.mem_cons_of_mem _ (List.mem_append_left _ (List.mem_append_left _ (List.mem_of_getElem? (i := 7) rfl))))) (hts _ (List.mem_cons_of_mem _ (List.mem_append_left _ (List.mem_append_left _ (List.mem_of_getElem? (i := 8) rfl))))) (hts _ (List.mem_cons_of_mem _ (List.mem_append_left _ (List.mem_append_left _ (List.mem_of_getElem? (i := 9) rfl))))) hK hP hD hS 3 16 1 1 rfl rfl rfl rfl rfl q1.1 q1.2.1 q1.2.2.1 q1.2.2.2.1 q1.2.2.2.2 (fun _ _ => rfl) (Nat.le_of_ble_eq_true rfl) (Nat.le_of_ble_eq_true rfl) dX0_load_48 (fun H locs hP hD hS => ?_)
        have hP : va_P (dC, dI) nCl (vC cy a z (uF σ 16 (va_cpy (σ.2.2.1 3) (σ.2.2.1 16) ((((((L.1 1)) + 1)) + ((L.1 2)))).toNatClampNeg ((L.1 4)).toNatClampNeg ((L.1 5)).toNatClampNeg))) H := hP
        have hD : va_D A (vC cy a z (uF σ 16 (va_cpy (σ.2.2.1 3) (σ.2.2.1 16) ((((((L.1 1)) + 1)) + ((L.1 2)))).toNatClampNeg ((L.1 4)).toNatClampNeg ((L.1 5)).toNatClampNeg))) := hD
        refine lv_iload hx hb dX0_load_51 (lv_at hl 3 rfl) ?_
        refine lv_iload hx hb dX0_load_53 (lv_at hl 4 rfl) ?_
        refine lv_iadd hx hb dX0_load_55 ?_
        obtain rfl := Option.some.inj h
        exact W.iret (v := (((L.1 4)) + ((L.1 5)))) hx hb hr (fun t ht hW => ⟨⟨(((L.1 4)) + ((L.1 5))), (), rfl, rfl, by rw [ht]; exact hP, va_K.moved hW.alike hK, hD⟩, hS.F ht⟩) hS.2.2 dX0_load_56
  exact (blk k0).1 L0 σ0 r0 h0 s.heap [] ls hP hD hS hl
/-! X1_member -/
def y_X1_member : Nat → Nat → LV → CS → Option (Int32 × CS)
  | 0, _, _, _ => none
  | k + 1, 0, L, σ => if ((L.1 1)) < 0 then (y_X1_member k 1 L σ) else (if ((L.1 2)) < 0 then (y_X1_member k 1 L σ) else (if ¬ (((L.1 1)) < 0 ∨ (sN σ 3) ≤ ((L.1 1)).toNatClampNeg) then (if (((((((σ.2.2.1 3 ((L.1 1)).toNatClampNeg)).toUInt32 >>> ((4 : Int32).toUInt32 &&& Int32.toUInt32 31)).toInt32)) &&& 4095)) ≤ ((L.1 2)) then (y_X1_member k 1 L σ) else (if ¬ (((((((L.1 1)) + 1)) + ((L.1 2)))) < 0 ∨ (sN σ 3) ≤ ((((((L.1 1)) + 1)) + ((L.1 2)))).toNatClampNeg) then (y_X1_member k 2 (lI L 100 ((σ.2.2.1 3 ((((((L.1 1)) + 1)) + ((L.1 2)))).toNatClampNeg))) σ) else none)) else none))
  | k + 1, 1, L, σ => y_X1_member k 2 (lI L 100 ((-2147483648))) σ
  | k + 1, 2, L, σ => some ((L.1 100), σ)
  | _ + 1, _ + 3, _, _ => none
def o_y_X1_member : List Cond := [.fieldLink RX1 11 "SetHouse$Heap" "mem" "[I", .constant RX1 44 (-2147483648)]
theorem o_y_X1_member_good : o_y_X1_member.all goodWord = true := by decide +kernel
def p_y_X1_member : List Cond := o_y_X1_member ++ []
theorem p_y_X1_member_good : p_y_X1_member.all goodWord = true := nb_all2 o_y_X1_member_good rfl
def w_y_X1_member : List Cond := .code yX1_member cX1_member 3 (some .int) :: (p_y_X1_member ++ fC)
theorem w_y_X1_member_good : w_y_X1_member.all goodWord = true := nb_allc (by decide +kernel) (nb_all2 p_y_X1_member_good fC_good)
theorem in_y_X1_member_X1 : ∀ w ∈ wsX10, w ∈ w_y_X1_member := fun _ h => List.mem_cons_of_mem _ (List.mem_append_right _ (List.mem_append_right _ (List.mem_append_left _ h)))
theorem hd_y_X1_member : yX1_member.cls = RX1 ∧ yX1_member.cls ≠ "java/lang/invoke/MethodHandle" ∧ yX1_member.cls ≠ "java/lang/invoke/VarHandle" ∧ (parseMethodDescriptor yX1_member.desc).map (fun d => d.parameters.length) = some 2 := by decide +kernel
set_option maxHeartbeats 40000000 in
set_option maxRecDepth 100000 in
theorem c_y_X1_member (l : Launch) (dC : Nat → ClassId) (dI : Nat → Nat → Nat) (cy : Nat → ClassId) (a z : Nat → Nat) (k0 : Nat) (L0 : LV) (σ0 : CS) (r0 : Int32 × CS) (h0 : y_X1_member k0 0 L0 σ0 = some r0) (sz : Nat) : Met l yX1_member w_y_X1_member ({ frames := 0, cells := 0, slots := 0, locals := 0 }) (va_Pc [.ref (a 0), .int (L0.1 1), .int (L0.1 2)] (nIn (dC, dI) cy sz (vC cy a z σ0))) (va_Qi (fun (x : Int32) (_ : Unit) => x = r0.1) (fun _ t => nOut (dC, dI) cy (va_A (vC cy a z σ0) sz) (vC cy a z r0.2) t) (va_A (vC cy a z σ0) sz)) 0 0 (va_A (vC cy a z σ0) sz) := by
  refine Met.ofW (cc := cX1_member) (maxL := 3) (ret := (some .int)) (by decide) rfl ?_
  intro p e s m args below meth c s₁ B hml hv
  obtain ⟨rfl, hsz, hP, hK, hD0, hG⟩ := hv
  have hx := B.exec
  have hb := B.bytes
  have hr := B.returns
  have hts := atoms_spec (ws := w_y_X1_member) B.pre
  have hown : s.vm.findClass RX1 = some m.cls := findClass_of_methodNamed B.named
  have hlocks := B.notSynchronized
  subst hsz
  have hD := hD0.self (sz := s.heap.size)
  generalize hAe : va_A (vC cy a z σ0) s.heap.size = A at hD ⊢
  have hA : ∀ q : Nat, s.heap.size ≤ q → A q := fun q h => by rw [← hAe]; exact Or.inr h
  have hS : va_S A s.heap s.heap [] := va_S.rf
  have hl := lv_entry ([.ref (a 0), .int (L0.1 1), .int (L0.1 2)]) (n := 3) (Nat.le_of_ble_eq_true rfl)
  rw [lg_entry_eq]
  generalize (lg_sl ([.ref (a 0), .int (L0.1 1), .int (L0.1 2)]) ++ List.replicate (3 - (lg_sl ([.ref (a 0), .int (L0.1 1), .int (L0.1 2)])).length) Slot.unset).toArray = ls at hl ⊢
  have hl : lv_has ls 3 [(0, .ref (a 0)), (1, .int (L0.1 1)), (2, .int (L0.1 2))] := hl
  have blk : ∀ k : Nat, (bC p l e (headSpec w_y_X1_member ({ frames := 0, cells := 0, slots := 0, locals := 0 })).room s m #[.ref (a 0), .int (L0.1 1), .int (L0.1 2)] below meth c dC dI cy a z A (kI dC dI cy a z A below #[.ref (a 0), .int (L0.1 1), .int (L0.1 2)] s) 3 (y_X1_member k 0) (fun L => [(0, .ref (a 0)), (1, .int (L.1 1)), (2, .int (L.1 2))]) 0 (fun L => [])) ∧ (bC p l e (headSpec w_y_X1_member ({ frames := 0, cells := 0, slots := 0, locals := 0 })).room s m #[.ref (a 0), .int (L0.1 1), .int (L0.1 2)] below meth c dC dI cy a z A (kI dC dI cy a z A below #[.ref (a 0), .int (L0.1 1), .int (L0.1 2)] s) 3 (y_X1_member k 1) (fun L => []) 37 (fun L => [])) ∧ (bC p l e (headSpec w_y_X1_member ({ frames := 0, cells := 0, slots := 0, locals := 0 })).room s m #[.ref (a 0), .int (L0.1 1), .int (L0.1 2)] below meth c dC dI cy a z A (kI dC dI cy a z A below #[.ref (a 0), .int (L0.1 1), .int (L0.1 2)] s) 3 (y_X1_member k 2) (fun L => []) 39 (fun L => [.int (L.1 100)])) := by
    intro k
    induction k with
    | zero => exact ⟨fun L σ r h => (by cases h), fun L σ r h => (by cases h), fun L σ r h => (by cases h)⟩
    | succ k ih =>
      refine ⟨?_, ?_, ?_⟩
      · intro L σ r h H locs ls hP hD hS hl
        rw [y_X1_member] at h
        refine lv_iload_n hx hb dX1_member_0 rfl (lv_at hl 1 rfl) ?_
        refine lv_if_lt (tgt := 37) hx hb dX1_member_1 (by decide) (fun c1 => ?_) (fun c1 => ?_)
        · rw [if_pos c1] at h
          exact ih.2.1 L σ r h H locs ls hP hD hS (lv_sub hl [] rfl)
        · rw [if_neg c1] at h
          refine lv_iload_n hx hb dX1_member_4 rfl (lv_at hl 2 rfl) ?_
          refine lv_if_lt (tgt := 37) hx hb dX1_member_5 (by decide) (fun c2 => ?_) (fun c2 => ?_)
          · rw [if_pos c2] at h
            exact ih.2.1 L σ r h H locs ls hP hD hS (lv_sub hl [] rfl)
          · rw [if_neg c2] at h
            refine lv_iload_n hx hb dX1_member_8 rfl (lv_at hl 2 rfl) ?_
            refine lv_aload_n hx hb dX1_member_9 rfl (lv_at hl 0 rfl) ?_
            refine hg_0_0 hx hb hts in_y_X1_member_X1 hown hK hP (hts _ (List.mem_cons_of_mem _ (List.mem_append_left _ (List.mem_append_left _ (List.mem_of_getElem? (i := 0) rfl))))) dX1_member_10 ?_
            refine lv_iload_n hx hb dX1_member_13 rfl (lv_at hl 1 rfl) ?_
            obtain ⟨q3, h⟩ := kb_ite1 h
            refine hl_3 hx hb hK hP q3 dX1_member_14 ?_
            refine lv_iconst (v := 4) hx hb dX1_member_15 (by decide) ?_
            refine lv_iushr (v := (((σ.2.2.1 3 ((L.1 1)).toNatClampNeg)).toUInt32 >>> ((4 : Int32).toUInt32 &&& Int32.toUInt32 31)).toInt32) hx hb dX1_member_16 rfl ?_
            refine lv_sipush (v := 4095) hx hb dX1_member_17 (by decide) ?_
            refine lv_iand hx hb dX1_member_20 ?_
            refine lv_icmp_ge (tgt := 37) hx hb dX1_member_21 (by decide) (fun c4 => ?_) (fun c4 => ?_)
            · rw [if_pos c4] at h
              exact ih.2.1 L σ r h H locs ls hP hD hS (lv_sub hl [] rfl)
            · rw [if_neg c4] at h
              refine lv_aload_n hx hb dX1_member_24 rfl (lv_at hl 0 rfl) ?_
              refine hg_0_0 hx hb hts in_y_X1_member_X1 hown hK hP (hts _ (List.mem_cons_of_mem _ (List.mem_append_left _ (List.mem_append_left _ (List.mem_of_getElem? (i := 0) rfl))))) dX1_member_25 ?_
              refine lv_iload_n hx hb dX1_member_28 rfl (lv_at hl 1 rfl) ?_
              refine lv_iconst (v := 1) hx hb dX1_member_29 (by decide) ?_
              refine lv_iadd hx hb dX1_member_30 ?_
              refine lv_iload_n hx hb dX1_member_31 rfl (lv_at hl 2 rfl) ?_
              refine lv_iadd hx hb dX1_member_32 ?_
              obtain ⟨q5, h⟩ := kb_ite1 h
              refine hl_3 hx hb hK hP q5 dX1_member_33 ?_
              refine lv_goto (tgt := 39) hx hb dX1_member_34 (by decide) ?_
              exact ih.2.2 (lI L 100 ((σ.2.2.1 3 ((((((L.1 1)) + 1)) + ((L.1 2)))).toNatClampNeg))) σ r h H locs ls hP hD hS (lv_sub hl [] rfl)
      · intro L σ r h H locs ls hP hD hS hl
        rw [y_X1_member] at h
        refine lv_ldc (v := (-2147483648)) hx hb hown (hts _ (List.mem_cons_of_mem _ (List.mem_append_left _ (List.mem_append_left _ (List.mem_of_getElem? (i := 1) rfl))))) dX1_member_37 ?_
        exact ih.2.2 (lI L 100 ((-2147483648))) σ r h H locs ls hP hD hS (lv_sub hl [] rfl)
      · intro L σ r h H locs ls hP hD hS hl
        rw [y_X1_member] at h
        obtain rfl := Option.some.inj h
        exact W.iret (v := (L.1 100)) hx hb hr (fun t ht hW => ⟨⟨(L.1 100), (), rfl, rfl, by rw [ht]; exact hP, va_K.moved hW.alike hK, hD⟩, hS.F ht⟩) hS.2.2 dX1_member_39
  exact (blk k0).1 L0 σ0 r0 h0 s.heap [] ls hP hD hS hl
/-! X1_compareWholes -/
def y_X1_compareWholes : Nat → Nat → LV → CS → Option (Int32 × CS)
  | 0, _, _, _ => none
  | k + 1, 0, L, σ => if ((L.1 1)) < 0 then (y_X1_compareWholes k 1 L σ) else (if ¬ (((L.1 1)) < 0 ∨ (sN σ 3) ≤ ((L.1 1)).toNatClampNeg) then (if ((((σ.2.2.1 3 ((L.1 1)).toNatClampNeg)) &&& 8)) = 0 then (y_X1_compareWholes k 1 L σ) else (y_X1_compareWholes k 2 (lI L 100 1) σ)) else none)
  | k + 1, 1, L, σ => y_X1_compareWholes k 2 (lI L 100 0) σ
  | k + 1, 2, L, σ => if ((L.1 2)) < 0 then (y_X1_compareWholes k 3 (lI L 3 ((L.1 100))) σ) else (if ¬ (((L.1 2)) < 0 ∨ (sN σ 3) ≤ ((L.1 2)).toNatClampNeg) then (if ((((σ.2.2.1 3 ((L.1 2)).toNatClampNeg)) &&& 8)) = 0 then (y_X1_compareWholes k 3 (lI L 3 ((L.1 100))) σ) else (y_X1_compareWholes k 4 (lI (lI L 3 ((L.1 100))) 100 1) σ)) else none)
  | k + 1, 3, L, σ => y_X1_compareWholes k 4 (lI L 100 0) σ
  | k + 1, 4, L, σ => if 0 ≤ ((L.1 1)) then (y_X1_compareWholes k 5 (lI L 4 ((L.1 100))) σ) else (if ((L.1 100)) = 0 then (y_X1_compareWholes k 6 L σ) else (y_X1_compareWholes k 7 (lI L 100 1) σ))
  | k + 1, 5, L, σ => if ((L.1 2)) < 0 then (y_X1_compareWholes k 8 L σ) else (if ((L.1 3)) = ((L.1 4)) then (y_X1_compareWholes k 9 L σ) else (y_X1_compareWholes k 8 L σ))
  | k + 1, 6, L, σ => y_X1_compareWholes k 7 (lI L 100 ((-1))) σ
  | k + 1, 7, L, σ => some ((L.1 100), σ)
  | k + 1, 8, L, σ => if ((L.1 3)) = 0 then (y_X1_compareWholes k 10 L σ) else (y_X1_compareWholes k 11 (lI L 100 ((-1))) σ)
  | k + 1, 9, L, σ => if ¬ (((L.1 1)) < 0 ∨ (sN σ 3) ≤ ((L.1 1)).toNatClampNeg) then (if ¬ (((L.1 2)) < 0 ∨ (sN σ 3) ≤ ((L.1 2)).toNatClampNeg) then (if (((((((σ.2.2.1 3 ((L.1 1)).toNatClampNeg)).toUInt32 >>> ((4 : Int32).toUInt32 &&& Int32.toUInt32 31)).toInt32)) &&& 4095)) = (((((((σ.2.2.1 3 ((L.1 2)).toNatClampNeg)).toUInt32 >>> ((4 : Int32).toUInt32 &&& Int32.toUInt32 31)).toInt32)) &&& 4095)) then (y_X1_compareWholes k 13 (lI (lI L 5 (((((((σ.2.2.1 3 ((L.1 1)).toNatClampNeg)).toUInt32 >>> ((4 : Int32).toUInt32 &&& Int32.toUInt32 31)).toInt32)) &&& 4095))) 100 0) σ) else (y_X1_compareWholes k 12 (lI (lI L 5 (((((((σ.2.2.1 3 ((L.1 1)).toNatClampNeg)).toUInt32 >>> ((4 : Int32).toUInt32 &&& Int32.toUInt32 31)).toInt32)) &&& 4095))) 6 (((((((σ.2.2.1 3 ((L.1 2)).toNatClampNeg)).toUInt32 >>> ((4 : Int32).toUInt32 &&& Int32.toUInt32 31)).toInt32)) &&& 4095))) σ)) else none) else none
  | k + 1, 10, L, σ => y_X1_compareWholes k 11 (lI L 100 1) σ
  | k + 1, 11, L, σ => some ((L.1 100), σ)
  | k + 1, 12, L, σ => if ((L.1 6)) ≤ ((L.1 5)) then (y_X1_compareWholes k 14 L σ) else (y_X1_compareWholes k 13 (lI L 100 ((-1))) σ)
  | k + 1, 13, L, σ => y_X1_compareWholes k 15 (lI (lI L 7 ((L.1 100))) 8 ((L.1 5))) σ
  | k + 1, 14, L, σ => y_X1_compareWholes k 13 (lI L 100 1) σ
  | k + 1, 15, L, σ => if ((L.1 8)) ≤ 0 then (y_X1_compareWholes k 16 L σ) else (if ((L.1 7)) = 0 then (if ¬ (((((L.1 1)) + ((L.1 8)))) < 0 ∨ (sN σ 3) ≤ ((((L.1 1)) + ((L.1 8)))).toNatClampNeg) then (if ¬ (((((L.1 2)) + ((L.1 8)))) < 0 ∨ (sN σ 3) ≤ ((((L.1 2)) + ((L.1 8)))).toNatClampNeg) then (if ((((σ.2.2.1 3 ((((L.1 1)) + ((L.1 8)))).toNatClampNeg)) ^^^ ((-2147483648)))) = ((((σ.2.2.1 3 ((((L.1 2)) + ((L.1 8)))).toNatClampNeg)) ^^^ ((-2147483648)))) then (y_X1_compareWholes k 18 (lI L 100 0) σ) else (y_X1_compareWholes k 17 (lI (lI L 9 ((((σ.2.2.1 3 ((((L.1 1)) + ((L.1 8)))).toNatClampNeg)) ^^^ ((-2147483648))))) 10 ((((σ.2.2.1 3 ((((L.1 2)) + ((L.1 8)))).toNatClampNeg)) ^^^ ((-2147483648))))) σ)) else none) else none) else (y_X1_compareWholes k 16 L σ))
  | k + 1, 16, L, σ => if ((L.1 3)) = 0 then (y_X1_compareWholes k 19 L σ) else (y_X1_compareWholes k 20 (lI L 100 ((- ((L.1 7))))) σ)
  | k + 1, 17, L, σ => if ((L.1 10)) ≤ ((L.1 9)) then (y_X1_compareWholes k 21 L σ) else (y_X1_compareWholes k 18 (lI L 100 ((-1))) σ)
  | k + 1, 18, L, σ => y_X1_compareWholes k 15 (lI (lI L 7 ((L.1 100))) 8 ((((L.1 8)) + (-1)))) σ
  | k + 1, 19, L, σ => y_X1_compareWholes k 20 (lI L 100 ((L.1 7))) σ
  | k + 1, 20, L, σ => some ((L.1 100), σ)
  | k + 1, 21, L, σ => y_X1_compareWholes k 18 (lI L 100 1) σ
  | _ + 1, _ + 22, _, _ => none
def o_y_X1_compareWholes : List Cond := [.fieldLink RX1 11 "SetHouse$Heap" "mem" "[I", .constant RX1 44 (-2147483648)]
theorem o_y_X1_compareWholes_good : o_y_X1_compareWholes.all goodWord = true := by decide +kernel
def p_y_X1_compareWholes : List Cond := o_y_X1_compareWholes ++ []
theorem p_y_X1_compareWholes_good : p_y_X1_compareWholes.all goodWord = true := nb_all2 o_y_X1_compareWholes_good rfl
def w_y_X1_compareWholes : List Cond := .code yX1_compareWholes cX1_compareWholes 11 (some .int) :: (p_y_X1_compareWholes ++ fC)
theorem w_y_X1_compareWholes_good : w_y_X1_compareWholes.all goodWord = true := nb_allc (by decide +kernel) (nb_all2 p_y_X1_compareWholes_good fC_good)
theorem in_y_X1_compareWholes_X1 : ∀ w ∈ wsX10, w ∈ w_y_X1_compareWholes := fun _ h => List.mem_cons_of_mem _ (List.mem_append_right _ (List.mem_append_right _ (List.mem_append_left _ h)))
theorem hd_y_X1_compareWholes : yX1_compareWholes.cls = RX1 ∧ yX1_compareWholes.cls ≠ "java/lang/invoke/MethodHandle" ∧ yX1_compareWholes.cls ≠ "java/lang/invoke/VarHandle" ∧ (parseMethodDescriptor yX1_compareWholes.desc).map (fun d => d.parameters.length) = some 2 := by decide +kernel
set_option maxHeartbeats 40000000 in
set_option maxRecDepth 100000 in
theorem c_y_X1_compareWholes (l : Launch) (dC : Nat → ClassId) (dI : Nat → Nat → Nat) (cy : Nat → ClassId) (a z : Nat → Nat) (k0 : Nat) (L0 : LV) (σ0 : CS) (r0 : Int32 × CS) (h0 : y_X1_compareWholes k0 0 L0 σ0 = some r0) (sz : Nat) : Met l yX1_compareWholes w_y_X1_compareWholes ({ frames := 0, cells := 0, slots := 0, locals := 0 }) (va_Pc [.ref (a 0), .int (L0.1 1), .int (L0.1 2)] (nIn (dC, dI) cy sz (vC cy a z σ0))) (va_Qi (fun (x : Int32) (_ : Unit) => x = r0.1) (fun _ t => nOut (dC, dI) cy (va_A (vC cy a z σ0) sz) (vC cy a z r0.2) t) (va_A (vC cy a z σ0) sz)) 0 0 (va_A (vC cy a z σ0) sz) := by
  refine Met.ofW (cc := cX1_compareWholes) (maxL := 11) (ret := (some .int)) (by decide) rfl ?_
  intro p e s m args below meth c s₁ B hml hv
  obtain ⟨rfl, hsz, hP, hK, hD0, hG⟩ := hv
  have hx := B.exec
  have hb := B.bytes
  have hr := B.returns
  have hts := atoms_spec (ws := w_y_X1_compareWholes) B.pre
  have hown : s.vm.findClass RX1 = some m.cls := findClass_of_methodNamed B.named
  have hlocks := B.notSynchronized
  subst hsz
  have hD := hD0.self (sz := s.heap.size)
  generalize hAe : va_A (vC cy a z σ0) s.heap.size = A at hD ⊢
  have hA : ∀ q : Nat, s.heap.size ≤ q → A q := fun q h => by rw [← hAe]; exact Or.inr h
  have hS : va_S A s.heap s.heap [] := va_S.rf
  have hl := lv_entry ([.ref (a 0), .int (L0.1 1), .int (L0.1 2)]) (n := 11) (Nat.le_of_ble_eq_true rfl)
  rw [lg_entry_eq]
  generalize (lg_sl ([.ref (a 0), .int (L0.1 1), .int (L0.1 2)]) ++ List.replicate (11 - (lg_sl ([.ref (a 0), .int (L0.1 1), .int (L0.1 2)])).length) Slot.unset).toArray = ls at hl ⊢
  have hl : lv_has ls 11 [(0, .ref (a 0)), (1, .int (L0.1 1)), (2, .int (L0.1 2))] := hl
  have blk : ∀ k : Nat, (bC p l e (headSpec w_y_X1_compareWholes ({ frames := 0, cells := 0, slots := 0, locals := 0 })).room s m #[.ref (a 0), .int (L0.1 1), .int (L0.1 2)] below meth c dC dI cy a z A (kI dC dI cy a z A below #[.ref (a 0), .int (L0.1 1), .int (L0.1 2)] s) 11 (y_X1_compareWholes k 0) (fun L => [(0, .ref (a 0)), (1, .int (L.1 1)), (2, .int (L.1 2))]) 0 (fun L => [])) ∧ (bC p l e (headSpec w_y_X1_compareWholes ({ frames := 0, cells := 0, slots := 0, locals := 0 })).room s m #[.ref (a 0), .int (L0.1 1), .int (L0.1 2)] below meth c dC dI cy a z A (kI dC dI cy a z A below #[.ref (a 0), .int (L0.1 1), .int (L0.1 2)] s) 11 (y_X1_compareWholes k 1) (fun L => [(0, .ref (a 0)), (1, .int (L.1 1)), (2, .int (L.1 2))]) 20 (fun L => [])) ∧ (bC p l e (headSpec w_y_X1_compareWholes ({ frames := 0, cells := 0, slots := 0, locals := 0 })).room s m #[.ref (a 0), .int (L0.1 1), .int (L0.1 2)] below meth c dC dI cy a z A (kI dC dI cy a z A below #[.ref (a 0), .int (L0.1 1), .int (L0.1 2)] s) 11 (y_X1_compareWholes k 2) (fun L => [(0, .ref (a 0)), (1, .int (L.1 1)), (2, .int (L.1 2))]) 21 (fun L => [.int (L.1 100)])) ∧ (bC p l e (headSpec w_y_X1_compareWholes ({ frames := 0, cells := 0, slots := 0, locals := 0 })).room s m #[.ref (a 0), .int (L0.1 1), .int (L0.1 2)] below meth c dC dI cy a z A (kI dC dI cy a z A below #[.ref (a 0), .int (L0.1 1), .int (L0.1 2)] s) 11 (y_X1_compareWholes k 3) (fun L => [(0, .ref (a 0)), (1, .int (L.1 1)), (2, .int (L.1 2)), (3, .int (L.1 3))]) 42 (fun L => [])) ∧ (bC p l e (headSpec w_y_X1_compareWholes ({ frames := 0, cells := 0, slots := 0, locals := 0 })).room s m #[.ref (a 0), .int (L0.1 1), .int (L0.1 2)] below meth c dC dI cy a z A (kI dC dI cy a z A below #[.ref (a 0), .int (L0.1 1), .int (L0.1 2)] s) 11 (y_X1_compareWholes k 4) (fun L => [(0, .ref (a 0)), (1, .int (L.1 1)), (2, .int (L.1 2)), (3, .int (L.1 3))]) 43 (fun L => [.int (L.1 100)])) ∧ (bC p l e (headSpec w_y_X1_compareWholes ({ frames := 0, cells := 0, slots := 0, locals := 0 })).room s m #[.ref (a 0), .int (L0.1 1), .int (L0.1 2)] below meth c dC dI cy a z A (kI dC dI cy a z A below #[.ref (a 0), .int (L0.1 1), .int (L0.1 2)] s) 11 (y_X1_compareWholes k 5) (fun L => [(0, .ref (a 0)), (1, .int (L.1 1)), (2, .int (L.1 2)), (3, .int (L.1 3)), (4, .int (L.1 4))]) 60 (fun L => [])) ∧ (bC p l e (headSpec w_y_X1_compareWholes ({ frames := 0, cells := 0, slots := 0, locals := 0 })).room s m #[.ref (a 0), .int (L0.1 1), .int (L0.1 2)] below meth c dC dI cy a z A (kI dC dI cy a z A below #[.ref (a 0), .int (L0.1 1), .int (L0.1 2)] s) 11 (y_X1_compareWholes k 6) (fun L => []) 58 (fun L => [])) ∧ (bC p l e (headSpec w_y_X1_compareWholes ({ frames := 0, cells := 0, slots := 0, locals := 0 })).room s m #[.ref (a 0), .int (L0.1 1), .int (L0.1 2)] below meth c dC dI cy a z A (kI dC dI cy a z A below #[.ref (a 0), .int (L0.1 1), .int (L0.1 2)] s) 11 (y_X1_compareWholes k 7) (fun L => []) 59 (fun L => [.int (L.1 100)])) ∧ (bC p l e (headSpec w_y_X1_compareWholes ({ frames := 0, cells := 0, slots := 0, locals := 0 })).room s m #[.ref (a 0), .int (L0.1 1), .int (L0.1 2)] below meth c dC dI cy a z A (kI dC dI cy a z A below #[.ref (a 0), .int (L0.1 1), .int (L0.1 2)] s) 11 (y_X1_compareWholes k 8) (fun L => [(3, .int (L.1 3))]) 70 (fun L => [])) ∧ (bC p l e (headSpec w_y_X1_compareWholes ({ frames := 0, cells := 0, slots := 0, locals := 0 })).room s m #[.ref (a 0), .int (L0.1 1), .int (L0.1 2)] below meth c dC dI cy a z A (kI dC dI cy a z A below #[.ref (a 0), .int (L0.1 1), .int (L0.1 2)] s) 11 (y_X1_compareWholes k 9) (fun L => [(0, .ref (a 0)), (1, .int (L.1 1)), (2, .int (L.1 2)), (3, .int (L.1 3))]) 80 (fun L => [])) ∧ (bC p l e (headSpec w_y_X1_compareWholes ({ frames := 0, cells := 0, slots := 0, locals := 0 })).room s m #[.ref (a 0), .int (L0.1 1), .int (L0.1 2)] below meth c dC dI cy a z A (kI dC dI cy a z A below #[.ref (a 0), .int (L0.1 1), .int (L0.1 2)] s) 11 (y_X1_compareWholes k 10) (fun L => []) 78 (fun L => [])) ∧ (bC p l e (headSpec w_y_X1_compareWholes ({ frames := 0, cells := 0, slots := 0, locals := 0 })).room s m #[.ref (a 0), .int (L0.1 1), .int (L0.1 2)] below meth c dC dI cy a z A (kI dC dI cy a z A below #[.ref (a 0), .int (L0.1 1), .int (L0.1 2)] s) 11 (y_X1_compareWholes k 11) (fun L => []) 79 (fun L => [.int (L.1 100)])) ∧ (bC p l e (headSpec w_y_X1_compareWholes ({ frames := 0, cells := 0, slots := 0, locals := 0 })).room s m #[.ref (a 0), .int (L0.1 1), .int (L0.1 2)] below meth c dC dI cy a z A (kI dC dI cy a z A below #[.ref (a 0), .int (L0.1 1), .int (L0.1 2)] s) 11 (y_X1_compareWholes k 12) (fun L => [(0, .ref (a 0)), (1, .int (L.1 1)), (2, .int (L.1 2)), (3, .int (L.1 3)), (5, .int (L.1 5)), (6, .int (L.1 6))]) 119 (fun L => [])) ∧ (bC p l e (headSpec w_y_X1_compareWholes ({ frames := 0, cells := 0, slots := 0, locals := 0 })).room s m #[.ref (a 0), .int (L0.1 1), .int (L0.1 2)] below meth c dC dI cy a z A (kI dC dI cy a z A below #[.ref (a 0), .int (L0.1 1), .int (L0.1 2)] s) 11 (y_X1_compareWholes k 13) (fun L => [(0, .ref (a 0)), (1, .int (L.1 1)), (2, .int (L.1 2)), (3, .int (L.1 3)), (5, .int (L.1 5))]) 131 (fun L => [.int (L.1 100)])) ∧ (bC p l e (headSpec w_y_X1_compareWholes ({ frames := 0, cells := 0, slots := 0, locals := 0 })).room s m #[.ref (a 0), .int (L0.1 1), .int (L0.1 2)] below meth c dC dI cy a z A (kI dC dI cy a z A below #[.ref (a 0), .int (L0.1 1), .int (L0.1 2)] s) 11 (y_X1_compareWholes k 14) (fun L => [(0, .ref (a 0)), (1, .int (L.1 1)), (2, .int (L.1 2)), (3, .int (L.1 3)), (5, .int (L.1 5))]) 130 (fun L => [])) ∧ (bC p l e (headSpec w_y_X1_compareWholes ({ frames := 0, cells := 0, slots := 0, locals := 0 })).room s m #[.ref (a 0), .int (L0.1 1), .int (L0.1 2)] below meth c dC dI cy a z A (kI dC dI cy a z A below #[.ref (a 0), .int (L0.1 1), .int (L0.1 2)] s) 11 (y_X1_compareWholes k 15) (fun L => [(0, .ref (a 0)), (1, .int (L.1 1)), (2, .int (L.1 2)), (3, .int (L.1 3)), (7, .int (L.1 7)), (8, .int (L.1 8))]) 137 (fun L => [])) ∧ (bC p l e (headSpec w_y_X1_compareWholes ({ frames := 0, cells := 0, slots := 0, locals := 0 })).room s m #[.ref (a 0), .int (L0.1 1), .int (L0.1 2)] below meth c dC dI cy a z A (kI dC dI cy a z A below #[.ref (a 0), .int (L0.1 1), .int (L0.1 2)] s) 11 (y_X1_compareWholes k 16) (fun L => [(3, .int (L.1 3)), (7, .int (L.1 7))]) 206 (fun L => [])) ∧ (bC p l e (headSpec w_y_X1_compareWholes ({ frames := 0, cells := 0, slots := 0, locals := 0 })).room s m #[.ref (a 0), .int (L0.1 1), .int (L0.1 2)] below meth c dC dI cy a z A (kI dC dI cy a z A below #[.ref (a 0), .int (L0.1 1), .int (L0.1 2)] s) 11 (y_X1_compareWholes k 17) (fun L => [(0, .ref (a 0)), (1, .int (L.1 1)), (2, .int (L.1 2)), (3, .int (L.1 3)), (8, .int (L.1 8)), (9, .int (L.1 9)), (10, .int (L.1 10))]) 186 (fun L => [])) ∧ (bC p l e (headSpec w_y_X1_compareWholes ({ frames := 0, cells := 0, slots := 0, locals := 0 })).room s m #[.ref (a 0), .int (L0.1 1), .int (L0.1 2)] below meth c dC dI cy a z A (kI dC dI cy a z A below #[.ref (a 0), .int (L0.1 1), .int (L0.1 2)] s) 11 (y_X1_compareWholes k 18) (fun L => [(0, .ref (a 0)), (1, .int (L.1 1)), (2, .int (L.1 2)), (3, .int (L.1 3)), (8, .int (L.1 8))]) 198 (fun L => [.int (L.1 100)])) ∧ (bC p l e (headSpec w_y_X1_compareWholes ({ frames := 0, cells := 0, slots := 0, locals := 0 })).room s m #[.ref (a 0), .int (L0.1 1), .int (L0.1 2)] below meth c dC dI cy a z A (kI dC dI cy a z A below #[.ref (a 0), .int (L0.1 1), .int (L0.1 2)] s) 11 (y_X1_compareWholes k 19) (fun L => [(7, .int (L.1 7))]) 216 (fun L => [])) ∧ (bC p l e (headSpec w_y_X1_compareWholes ({ frames := 0, cells := 0, slots := 0, locals := 0 })).room s m #[.ref (a 0), .int (L0.1 1), .int (L0.1 2)] below meth c dC dI cy a z A (kI dC dI cy a z A below #[.ref (a 0), .int (L0.1 1), .int (L0.1 2)] s) 11 (y_X1_compareWholes k 20) (fun L => []) 218 (fun L => [.int (L.1 100)])) ∧ (bC p l e (headSpec w_y_X1_compareWholes ({ frames := 0, cells := 0, slots := 0, locals := 0 })).room s m #[.ref (a 0), .int (L0.1 1), .int (L0.1 2)] below meth c dC dI cy a z A (kI dC dI cy a z A below #[.ref (a 0), .int (L0.1 1), .int (L0.1 2)] s) 11 (y_X1_compareWholes k 21) (fun L => [(0, .ref (a 0)), (1, .int (L.1 1)), (2, .int (L.1 2)), (3, .int (L.1 3)), (8, .int (L.1 8))]) 197 (fun L => [])) := by
    intro k
    induction k with
    | zero => exact ⟨fun L σ r h => (by cases h), fun L σ r h => (by cases h), fun L σ r h => (by cases h), fun L σ r h => (by cases h), fun L σ r h => (by cases h), fun L σ r h => (by cases h), fun L σ r h => (by cases h), fun L σ r h => (by cases h), fun L σ r h => (by cases h), fun L σ r h => (by cases h), fun L σ r h => (by cases h), fun L σ r h => (by cases h), fun L σ r h => (by cases h), fun L σ r h => (by cases h), fun L σ r h => (by cases h), fun L σ r h => (by cases h), fun L σ r h => (by cases h), fun L σ r h => (by cases h), fun L σ r h => (by cases h), fun L σ r h => (by cases h), fun L σ r h => (by cases h), fun L σ r h => (by cases h)⟩
    | succ k ih =>
      refine ⟨?_, ?_, ?_, ?_, ?_, ?_, ?_, ?_, ?_, ?_, ?_, ?_, ?_, ?_, ?_, ?_, ?_, ?_, ?_, ?_, ?_, ?_⟩
      · intro L σ r h H locs ls hP hD hS hl
        rw [y_X1_compareWholes] at h
        refine lv_iload_n hx hb dX1_compareWholes_0 rfl (lv_at hl 1 rfl) ?_
        refine lv_if_lt (tgt := 20) hx hb dX1_compareWholes_1 (by decide) (fun c1 => ?_) (fun c1 => ?_)
        · rw [if_pos c1] at h
          exact ih.2.1 L σ r h H locs ls hP hD hS (lv_sub hl [0, 1, 2] rfl)
        · rw [if_neg c1] at h
          refine lv_aload_n hx hb dX1_compareWholes_4 rfl (lv_at hl 0 rfl) ?_
          refine hg_0_0 hx hb hts in_y_X1_compareWholes_X1 hown hK hP (hts _ (List.mem_cons_of_mem _ (List.mem_append_left _ (List.mem_append_left _ (List.mem_of_getElem? (i := 0) rfl))))) dX1_compareWholes_5 ?_
          refine lv_iload_n hx hb dX1_compareWholes_8 rfl (lv_at hl 1 rfl) ?_
          obtain ⟨q2, h⟩ := kb_ite1 h
          refine hl_3 hx hb hK hP q2 dX1_compareWholes_9 ?_
          refine lv_bipush (v := 8) hx hb dX1_compareWholes_10 (by decide) ?_
          refine lv_iand hx hb dX1_compareWholes_12 ?_
          refine lv_if_eq (tgt := 20) hx hb dX1_compareWholes_13 (by decide) (fun c3 => ?_) (fun c3 => ?_)
          · rw [if_pos c3] at h
            exact ih.2.1 L σ r h H locs ls hP hD hS (lv_sub hl [0, 1, 2] rfl)
          · rw [if_neg c3] at h
            refine lv_iconst (v := 1) hx hb dX1_compareWholes_16 (by decide) ?_
            refine lv_goto (tgt := 21) hx hb dX1_compareWholes_17 (by decide) ?_
            exact ih.2.2.1 (lI L 100 1) σ r h H locs ls hP hD hS (lv_sub hl [0, 1, 2] rfl)
      · intro L σ r h H locs ls hP hD hS hl
        rw [y_X1_compareWholes] at h
        refine lv_iconst (v := 0) hx hb dX1_compareWholes_20 (by decide) ?_
        exact ih.2.2.1 (lI L 100 0) σ r h H locs ls hP hD hS (lv_sub hl [0, 1, 2] rfl)
      · intro L σ r h H locs ls hP hD hS hl
        rw [y_X1_compareWholes] at h
        refine lv_istore_n (lv' := [(3, .int (L.1 100)), (0, .ref (a 0)), (1, .int (L.1 1)), (2, .int (L.1 2))]) hx hb dX1_compareWholes_21 rfl hl (by decide) rfl (fun ls hl => ?_)
        refine lv_iload_n hx hb dX1_compareWholes_22 rfl (lv_at hl 3 rfl) ?_
        refine lv_if_lt (tgt := 42) hx hb dX1_compareWholes_23 (by decide) (fun c1 => ?_) (fun c1 => ?_)
        · rw [if_pos c1] at h
          exact ih.2.2.2.1 (lI L 3 ((L.1 100))) σ r h H locs ls hP hD hS (lv_sub hl [1, 2, 3, 0] rfl)
        · rw [if_neg c1] at h
          refine lv_aload_n hx hb dX1_compareWholes_26 rfl (lv_at hl 1 rfl) ?_
          refine hg_0_0 hx hb hts in_y_X1_compareWholes_X1 hown hK hP (hts _ (List.mem_cons_of_mem _ (List.mem_append_left _ (List.mem_append_left _ (List.mem_of_getElem? (i := 0) rfl))))) dX1_compareWholes_27 ?_
          refine lv_iload_n hx hb dX1_compareWholes_30 rfl (lv_at hl 3 rfl) ?_
          obtain ⟨q2, h⟩ := kb_ite1 h
          refine hl_3 hx hb hK hP q2 dX1_compareWholes_31 ?_
          refine lv_bipush (v := 8) hx hb dX1_compareWholes_32 (by decide) ?_
          refine lv_iand hx hb dX1_compareWholes_34 ?_
          refine lv_if_eq (tgt := 42) hx hb dX1_compareWholes_35 (by decide) (fun c3 => ?_) (fun c3 => ?_)
          · rw [if_pos c3] at h
            exact ih.2.2.2.1 (lI L 3 ((L.1 100))) σ r h H locs ls hP hD hS (lv_sub hl [1, 2, 3, 0] rfl)
          · rw [if_neg c3] at h
            refine lv_iconst (v := 1) hx hb dX1_compareWholes_38 (by decide) ?_
            refine lv_goto (tgt := 43) hx hb dX1_compareWholes_39 (by decide) ?_
            exact ih.2.2.2.2.1 (lI (lI L 3 ((L.1 100))) 100 1) σ r h H locs ls hP hD hS (lv_sub hl [1, 2, 3, 0] rfl)
      · intro L σ r h H locs ls hP hD hS hl
        rw [y_X1_compareWholes] at h
        refine lv_iconst (v := 0) hx hb dX1_compareWholes_42 (by decide) ?_
        exact ih.2.2.2.2.1 (lI L 100 0) σ r h H locs ls hP hD hS (lv_sub hl [0, 1, 2, 3] rfl)
      · intro L σ r h H locs ls hP hD hS hl
        rw [y_X1_compareWholes] at h
        refine lv_istore (lv' := [(4, .int (L.1 100)), (0, .ref (a 0)), (1, .int (L.1 1)), (2, .int (L.1 2)), (3, .int (L.1 3))]) hx hb dX1_compareWholes_43 hl (by decide) rfl (fun ls hl => ?_)
        refine lv_iload_n hx hb dX1_compareWholes_45 rfl (lv_at hl 2 rfl) ?_
        refine lv_if_ge (tgt := 60) hx hb dX1_compareWholes_46 (by decide) (fun c1 => ?_) (fun c1 => ?_)
        · rw [if_pos c1] at h
          exact ih.2.2.2.2.2.1 (lI L 4 ((L.1 100))) σ r h H locs ls hP hD hS (lv_sub hl [1, 2, 3, 4, 0] rfl)
        · rw [if_neg c1] at h
          refine lv_iload hx hb dX1_compareWholes_49 (lv_at hl 0 rfl) ?_
          refine lv_if_eq (tgt := 58) hx hb dX1_compareWholes_51 (by decide) (fun c2 => ?_) (fun c2 => ?_)
          · rw [if_pos c2] at h
            exact ih.2.2.2.2.2.2.1 L σ r h H locs ls hP hD hS (lv_sub hl [] rfl)
          · rw [if_neg c2] at h
            refine lv_iconst (v := 1) hx hb dX1_compareWholes_54 (by decide) ?_
            refine lv_goto (tgt := 59) hx hb dX1_compareWholes_55 (by decide) ?_
            exact ih.2.2.2.2.2.2.2.1 (lI L 100 1) σ r h H locs ls hP hD hS (lv_sub hl [] rfl)
      · intro L σ r h H locs ls hP hD hS hl
        rw [y_X1_compareWholes] at h
        refine lv_iload_n hx hb dX1_compareWholes_60 rfl (lv_at hl 2 rfl) ?_
        refine lv_if_lt (tgt := 70) hx hb dX1_compareWholes_61 (by decide) (fun c1 => ?_) (fun c1 => ?_)
        · rw [if_pos c1] at h
          exact ih.2.2.2.2.2.2.2.2.1 L σ r h H locs ls hP hD hS (lv_sub hl [3] rfl)
        · rw [if_neg c1] at h
          refine lv_iload_n hx hb dX1_compareWholes_64 rfl (lv_at hl 3 rfl) ?_
          refine lv_iload hx hb dX1_compareWholes_65 (lv_at hl 4 rfl) ?_
          refine lv_icmp_eq (tgt := 80) hx hb dX1_compareWholes_67 (by decide) (fun c2 => ?_) (fun c2 => ?_)
          · rw [if_pos c2] at h
            exact ih.2.2.2.2.2.2.2.2.2.1 L σ r h H locs ls hP hD hS (lv_sub hl [0, 1, 2, 3] rfl)
          · rw [if_neg c2] at h
            exact ih.2.2.2.2.2.2.2.2.1 L σ r h H locs ls hP hD hS (lv_sub hl [3] rfl)
      · intro L σ r h H locs ls hP hD hS hl
        rw [y_X1_compareWholes] at h
        refine lv_iconst (v := (-1)) hx hb dX1_compareWholes_58 (by decide) ?_
        exact ih.2.2.2.2.2.2.2.1 (lI L 100 ((-1))) σ r h H locs ls hP hD hS (lv_sub hl [] rfl)
      · intro L σ r h H locs ls hP hD hS hl
        rw [y_X1_compareWholes] at h
        obtain rfl := Option.some.inj h
        exact W.iret (v := (L.1 100)) hx hb hr (fun t ht hW => ⟨⟨(L.1 100), (), rfl, rfl, by rw [ht]; exact hP, va_K.moved hW.alike hK, hD⟩, hS.F ht⟩) hS.2.2 dX1_compareWholes_59
      · intro L σ r h H locs ls hP hD hS hl
        rw [y_X1_compareWholes] at h
        refine lv_iload_n hx hb dX1_compareWholes_70 rfl (lv_at hl 0 rfl) ?_
        refine lv_if_eq (tgt := 78) hx hb dX1_compareWholes_71 (by decide) (fun c1 => ?_) (fun c1 => ?_)
        · rw [if_pos c1] at h
          exact ih.2.2.2.2.2.2.2.2.2.2.1 L σ r h H locs ls hP hD hS (lv_sub hl [] rfl)
        · rw [if_neg c1] at h
          refine lv_iconst (v := (-1)) hx hb dX1_compareWholes_74 (by decide) ?_
          refine lv_goto (tgt := 79) hx hb dX1_compareWholes_75 (by decide) ?_
          exact ih.2.2.2.2.2.2.2.2.2.2.2.1 (lI L 100 ((-1))) σ r h H locs ls hP hD hS (lv_sub hl [] rfl)
      · intro L σ r h H locs ls hP hD hS hl
        rw [y_X1_compareWholes] at h
        refine lv_aload_n hx hb dX1_compareWholes_80 rfl (lv_at hl 0 rfl) ?_
        refine hg_0_0 hx hb hts in_y_X1_compareWholes_X1 hown hK hP (hts _ (List.mem_cons_of_mem _ (List.mem_append_left _ (List.mem_append_left _ (List.mem_of_getElem? (i := 0) rfl))))) dX1_compareWholes_81 ?_
        refine lv_iload_n hx hb dX1_compareWholes_84 rfl (lv_at hl 1 rfl) ?_
        obtain ⟨q1, h⟩ := kb_ite1 h
        refine hl_3 hx hb hK hP q1 dX1_compareWholes_85 ?_
        refine lv_iconst (v := 4) hx hb dX1_compareWholes_86 (by decide) ?_
        refine lv_iushr (v := (((σ.2.2.1 3 ((L.1 1)).toNatClampNeg)).toUInt32 >>> ((4 : Int32).toUInt32 &&& Int32.toUInt32 31)).toInt32) hx hb dX1_compareWholes_87 rfl ?_
        refine lv_sipush (v := 4095) hx hb dX1_compareWholes_88 (by decide) ?_
        refine lv_iand hx hb dX1_compareWholes_91 ?_
        refine lv_istore (lv' := [(5, .int ((((((σ.2.2.1 3 ((L.1 1)).toNatClampNeg)).toUInt32 >>> ((4 : Int32).toUInt32 &&& Int32.toUInt32 31)).toInt32)) &&& 4095)), (0, .ref (a 0)), (1, .int (L.1 1)), (2, .int (L.1 2)), (3, .int (L.1 3))]) hx hb dX1_compareWholes_92 hl (by decide) rfl (fun ls hl => ?_)
        refine lv_aload_n hx hb dX1_compareWholes_94 rfl (lv_at hl 1 rfl) ?_
        refine hg_0_0 hx hb hts in_y_X1_compareWholes_X1 hown hK hP (hts _ (List.mem_cons_of_mem _ (List.mem_append_left _ (List.mem_append_left _ (List.mem_of_getElem? (i := 0) rfl))))) dX1_compareWholes_95 ?_
        refine lv_iload_n hx hb dX1_compareWholes_98 rfl (lv_at hl 3 rfl) ?_
        obtain ⟨q2, h⟩ := kb_ite1 h
        refine hl_3 hx hb hK hP q2 dX1_compareWholes_99 ?_
        refine lv_iconst (v := 4) hx hb dX1_compareWholes_100 (by decide) ?_
        refine lv_iushr (v := (((σ.2.2.1 3 ((L.1 2)).toNatClampNeg)).toUInt32 >>> ((4 : Int32).toUInt32 &&& Int32.toUInt32 31)).toInt32) hx hb dX1_compareWholes_101 rfl ?_
        refine lv_sipush (v := 4095) hx hb dX1_compareWholes_102 (by decide) ?_
        refine lv_iand hx hb dX1_compareWholes_105 ?_
        refine lv_istore (lv' := [(6, .int ((((((σ.2.2.1 3 ((L.1 2)).toNatClampNeg)).toUInt32 >>> ((4 : Int32).toUInt32 &&& Int32.toUInt32 31)).toInt32)) &&& 4095)), (5, .int ((((((σ.2.2.1 3 ((L.1 1)).toNatClampNeg)).toUInt32 >>> ((4 : Int32).toUInt32 &&& Int32.toUInt32 31)).toInt32)) &&& 4095)), (0, .ref (a 0)), (1, .int (L.1 1)), (2, .int (L.1 2)), (3, .int (L.1 3))]) hx hb dX1_compareWholes_106 hl (by decide) rfl (fun ls hl => ?_)
        refine lv_iload hx hb dX1_compareWholes_108 (lv_at hl 1 rfl) ?_
        refine lv_iload hx hb dX1_compareWholes_110 (lv_at hl 0 rfl) ?_
        refine lv_icmp_ne (tgt := 119) hx hb dX1_compareWholes_112 (by decide) (fun c3 => ?_) (fun c3 => ?_)
        · rw [if_neg c3] at h
          exact ih.2.2.2.2.2.2.2.2.2.2.2.2.1 (lI (lI L 5 (((((((σ.2.2.1 3 ((L.1 1)).toNatClampNeg)).toUInt32 >>> ((4 : Int32).toUInt32 &&& Int32.toUInt32 31)).toInt32)) &&& 4095))) 6 (((((((σ.2.2.1 3 ((L.1 2)).toNatClampNeg)).toUInt32 >>> ((4 : Int32).toUInt32 &&& Int32.toUInt32 31)).toInt32)) &&& 4095))) σ r h H locs ls hP hD hS (lv_sub hl [2, 3, 4, 5, 1, 0] rfl)
        · rw [if_pos c3] at h
          refine lv_iconst (v := 0) hx hb dX1_compareWholes_115 (by decide) ?_
          refine lv_goto (tgt := 131) hx hb dX1_compareWholes_116 (by decide) ?_
          exact ih.2.2.2.2.2.2.2.2.2.2.2.2.2.1 (lI (lI L 5 (((((((σ.2.2.1 3 ((L.1 1)).toNatClampNeg)).toUInt32 >>> ((4 : Int32).toUInt32 &&& Int32.toUInt32 31)).toInt32)) &&& 4095))) 100 0) σ r h H locs ls hP hD hS (lv_sub hl [2, 3, 4, 5, 1] rfl)
      · intro L σ r h H locs ls hP hD hS hl
        rw [y_X1_compareWholes] at h
        refine lv_iconst (v := 1) hx hb dX1_compareWholes_78 (by decide) ?_
        exact ih.2.2.2.2.2.2.2.2.2.2.2.1 (lI L 100 1) σ r h H locs ls hP hD hS (lv_sub hl [] rfl)
      · intro L σ r h H locs ls hP hD hS hl
        rw [y_X1_compareWholes] at h
        obtain rfl := Option.some.inj h
        exact W.iret (v := (L.1 100)) hx hb hr (fun t ht hW => ⟨⟨(L.1 100), (), rfl, rfl, by rw [ht]; exact hP, va_K.moved hW.alike hK, hD⟩, hS.F ht⟩) hS.2.2 dX1_compareWholes_79
      · intro L σ r h H locs ls hP hD hS hl
        rw [y_X1_compareWholes] at h
        refine lv_iload hx hb dX1_compareWholes_119 (lv_at hl 4 rfl) ?_
        refine lv_iload hx hb dX1_compareWholes_121 (lv_at hl 5 rfl) ?_
        refine lv_icmp_ge (tgt := 130) hx hb dX1_compareWholes_123 (by decide) (fun c1 => ?_) (fun c1 => ?_)
        · rw [if_pos c1] at h
          exact ih.2.2.2.2.2.2.2.2.2.2.2.2.2.2.1 L σ r h H locs ls hP hD hS (lv_sub hl [0, 1, 2, 3, 4] rfl)
        · rw [if_neg c1] at h
          refine lv_iconst (v := (-1)) hx hb dX1_compareWholes_126 (by decide) ?_
          refine lv_goto (tgt := 131) hx hb dX1_compareWholes_127 (by decide) ?_
          exact ih.2.2.2.2.2.2.2.2.2.2.2.2.2.1 (lI L 100 ((-1))) σ r h H locs ls hP hD hS (lv_sub hl [0, 1, 2, 3, 4] rfl)
      · intro L σ r h H locs ls hP hD hS hl
        rw [y_X1_compareWholes] at h
        refine lv_istore (lv' := [(7, .int (L.1 100)), (0, .ref (a 0)), (1, .int (L.1 1)), (2, .int (L.1 2)), (3, .int (L.1 3)), (5, .int (L.1 5))]) hx hb dX1_compareWholes_131 hl (by decide) rfl (fun ls hl => ?_)
        refine lv_iload hx hb dX1_compareWholes_133 (lv_at hl 5 rfl) ?_
        refine lv_istore (lv' := [(8, .int (L.1 5)), (7, .int (L.1 100)), (0, .ref (a 0)), (1, .int (L.1 1)), (2, .int (L.1 2)), (3, .int (L.1 3)), (5, .int (L.1 5))]) hx hb dX1_compareWholes_135 hl (by decide) rfl (fun ls hl => ?_)
        exact ih.2.2.2.2.2.2.2.2.2.2.2.2.2.2.2.1 (lI (lI L 7 ((L.1 100))) 8 ((L.1 5))) σ r h H locs ls hP hD hS (lv_sub hl [2, 3, 4, 5, 1, 0] rfl)
      · intro L σ r h H locs ls hP hD hS hl
        rw [y_X1_compareWholes] at h
        refine lv_iconst (v := 1) hx hb dX1_compareWholes_130 (by decide) ?_
        exact ih.2.2.2.2.2.2.2.2.2.2.2.2.2.1 (lI L 100 1) σ r h H locs ls hP hD hS (lv_sub hl [0, 1, 2, 3, 4] rfl)
      · intro L σ r h H locs ls hP hD hS hl
        rw [y_X1_compareWholes] at h
        refine lv_iload hx hb dX1_compareWholes_137 (lv_at hl 5 rfl) ?_
        refine lv_if_le (tgt := 206) hx hb dX1_compareWholes_139 (by decide) (fun c1 => ?_) (fun c1 => ?_)
        · rw [if_pos c1] at h
          exact ih.2.2.2.2.2.2.2.2.2.2.2.2.2.2.2.2.1 L σ r h H locs ls hP hD hS (lv_sub hl [3, 4] rfl)
        · rw [if_neg c1] at h
          refine lv_iload hx hb dX1_compareWholes_142 (lv_at hl 4 rfl) ?_
          refine lv_if_ne (tgt := 206) hx hb dX1_compareWholes_144 (by decide) (fun c2 => ?_) (fun c2 => ?_)
          · rw [if_neg c2] at h
            exact ih.2.2.2.2.2.2.2.2.2.2.2.2.2.2.2.2.1 L σ r h H locs ls hP hD hS (lv_sub hl [3, 4] rfl)
          · rw [if_pos c2] at h
            refine lv_aload_n hx hb dX1_compareWholes_147 rfl (lv_at hl 0 rfl) ?_
            refine hg_0_0 hx hb hts in_y_X1_compareWholes_X1 hown hK hP (hts _ (List.mem_cons_of_mem _ (List.mem_append_left _ (List.mem_append_left _ (List.mem_of_getElem? (i := 0) rfl))))) dX1_compareWholes_148 ?_
            refine lv_iload_n hx hb dX1_compareWholes_151 rfl (lv_at hl 1 rfl) ?_
            refine lv_iload hx hb dX1_compareWholes_152 (lv_at hl 5 rfl) ?_
            refine lv_iadd hx hb dX1_compareWholes_154 ?_
            obtain ⟨q3, h⟩ := kb_ite1 h
            refine hl_3 hx hb hK hP q3 dX1_compareWholes_155 ?_
            refine lv_ldc (v := (-2147483648)) hx hb hown (hts _ (List.mem_cons_of_mem _ (List.mem_append_left _ (List.mem_append_left _ (List.mem_of_getElem? (i := 1) rfl))))) dX1_compareWholes_156 ?_
            refine lv_ixor hx hb dX1_compareWholes_158 ?_
            refine lv_istore (lv' := [(9, .int (((σ.2.2.1 3 ((((L.1 1)) + ((L.1 8)))).toNatClampNeg)) ^^^ ((-2147483648)))), (0, .ref (a 0)), (1, .int (L.1 1)), (2, .int (L.1 2)), (3, .int (L.1 3)), (7, .int (L.1 7)), (8, .int (L.1 8))]) hx hb dX1_compareWholes_159 hl (by decide) rfl (fun ls hl => ?_)
            refine lv_aload_n hx hb dX1_compareWholes_161 rfl (lv_at hl 1 rfl) ?_
            refine hg_0_0 hx hb hts in_y_X1_compareWholes_X1 hown hK hP (hts _ (List.mem_cons_of_mem _ (List.mem_append_left _ (List.mem_append_left _ (List.mem_of_getElem? (i := 0) rfl))))) dX1_compareWholes_162 ?_
            refine lv_iload_n hx hb dX1_compareWholes_165 rfl (lv_at hl 3 rfl) ?_
            refine lv_iload hx hb dX1_compareWholes_166 (lv_at hl 6 rfl) ?_
            refine lv_iadd hx hb dX1_compareWholes_168 ?_
            obtain ⟨q4, h⟩ := kb_ite1 h
            refine hl_3 hx hb hK hP q4 dX1_compareWholes_169 ?_
            refine lv_ldc (v := (-2147483648)) hx hb hown (hts _ (List.mem_cons_of_mem _ (List.mem_append_left _ (List.mem_append_left _ (List.mem_of_getElem? (i := 1) rfl))))) dX1_compareWholes_170 ?_
            refine lv_ixor hx hb dX1_compareWholes_172 ?_
            refine lv_istore (lv' := [(10, .int (((σ.2.2.1 3 ((((L.1 2)) + ((L.1 8)))).toNatClampNeg)) ^^^ ((-2147483648)))), (9, .int (((σ.2.2.1 3 ((((L.1 1)) + ((L.1 8)))).toNatClampNeg)) ^^^ ((-2147483648)))), (0, .ref (a 0)), (1, .int (L.1 1)), (2, .int (L.1 2)), (3, .int (L.1 3)), (7, .int (L.1 7)), (8, .int (L.1 8))]) hx hb dX1_compareWholes_173 hl (by decide) rfl (fun ls hl => ?_)
            refine lv_iload hx hb dX1_compareWholes_175 (lv_at hl 1 rfl) ?_
            refine lv_iload hx hb dX1_compareWholes_177 (lv_at hl 0 rfl) ?_
            refine lv_icmp_ne (tgt := 186) hx hb dX1_compareWholes_179 (by decide) (fun c5 => ?_) (fun c5 => ?_)
            · rw [if_neg c5] at h
              exact ih.2.2.2.2.2.2.2.2.2.2.2.2.2.2.2.2.2.1 (lI (lI L 9 ((((σ.2.2.1 3 ((((L.1 1)) + ((L.1 8)))).toNatClampNeg)) ^^^ ((-2147483648))))) 10 ((((σ.2.2.1 3 ((((L.1 2)) + ((L.1 8)))).toNatClampNeg)) ^^^ ((-2147483648))))) σ r h H locs ls hP hD hS (lv_sub hl [2, 3, 4, 5, 7, 1, 0] rfl)
            · rw [if_pos c5] at h
              refine lv_iconst (v := 0) hx hb dX1_compareWholes_182 (by decide) ?_
              refine lv_goto (tgt := 198) hx hb dX1_compareWholes_183 (by decide) ?_
              exact ih.2.2.2.2.2.2.2.2.2.2.2.2.2.2.2.2.2.2.1 (lI L 100 0) σ r h H locs ls hP hD hS (lv_sub hl [2, 3, 4, 5, 7] rfl)
      · intro L σ r h H locs ls hP hD hS hl
        rw [y_X1_compareWholes] at h
        refine lv_iload_n hx hb dX1_compareWholes_206 rfl (lv_at hl 0 rfl) ?_
        refine lv_if_eq (tgt := 216) hx hb dX1_compareWholes_207 (by decide) (fun c1 => ?_) (fun c1 => ?_)
        · rw [if_pos c1] at h
          exact ih.2.2.2.2.2.2.2.2.2.2.2.2.2.2.2.2.2.2.2.1 L σ r h H locs ls hP hD hS (lv_sub hl [1] rfl)
        · rw [if_neg c1] at h
          refine lv_iload hx hb dX1_compareWholes_210 (lv_at hl 1 rfl) ?_
          refine lv_ineg hx hb dX1_compareWholes_212 ?_
          refine lv_goto (tgt := 218) hx hb dX1_compareWholes_213 (by decide) ?_
          exact ih.2.2.2.2.2.2.2.2.2.2.2.2.2.2.2.2.2.2.2.2.1 (lI L 100 ((- ((L.1 7))))) σ r h H locs ls hP hD hS (lv_sub hl [] rfl)
      · intro L σ r h H locs ls hP hD hS hl
        rw [y_X1_compareWholes] at h
        refine lv_iload hx hb dX1_compareWholes_186 (lv_at hl 5 rfl) ?_
        refine lv_iload hx hb dX1_compareWholes_188 (lv_at hl 6 rfl) ?_
        refine lv_icmp_ge (tgt := 197) hx hb dX1_compareWholes_190 (by decide) (fun c1 => ?_) (fun c1 => ?_)
        · rw [if_pos c1] at h
          exact ih.2.2.2.2.2.2.2.2.2.2.2.2.2.2.2.2.2.2.2.2.2 L σ r h H locs ls hP hD hS (lv_sub hl [0, 1, 2, 3, 4] rfl)
        · rw [if_neg c1] at h
          refine lv_iconst (v := (-1)) hx hb dX1_compareWholes_193 (by decide) ?_
          refine lv_goto (tgt := 198) hx hb dX1_compareWholes_194 (by decide) ?_
          exact ih.2.2.2.2.2.2.2.2.2.2.2.2.2.2.2.2.2.2.1 (lI L 100 ((-1))) σ r h H locs ls hP hD hS (lv_sub hl [0, 1, 2, 3, 4] rfl)
      · intro L σ r h H locs ls hP hD hS hl
        rw [y_X1_compareWholes] at h
        refine lv_istore (lv' := [(7, .int (L.1 100)), (0, .ref (a 0)), (1, .int (L.1 1)), (2, .int (L.1 2)), (3, .int (L.1 3)), (8, .int (L.1 8))]) hx hb dX1_compareWholes_198 hl (by decide) rfl (fun ls hl => ?_)
        refine lv_iinc (v := ((L.1 8)) + (-1)) (lv' := [(8, .int (((L.1 8)) + (-1))), (7, .int (L.1 100)), (0, .ref (a 0)), (1, .int (L.1 1)), (2, .int (L.1 2)), (3, .int (L.1 3))]) hx hb dX1_compareWholes_200 hl (k := 5) rfl rfl (by decide) rfl (fun ls hl => ?_)
        refine lv_goto (tgt := 137) hx hb dX1_compareWholes_203 (by decide) ?_
        exact ih.2.2.2.2.2.2.2.2.2.2.2.2.2.2.2.1 (lI (lI L 7 ((L.1 100))) 8 ((((L.1 8)) + (-1)))) σ r h H locs ls hP hD hS (lv_sub hl [2, 3, 4, 5, 1, 0] rfl)
      · intro L σ r h H locs ls hP hD hS hl
        rw [y_X1_compareWholes] at h
        refine lv_iload hx hb dX1_compareWholes_216 (lv_at hl 0 rfl) ?_
        exact ih.2.2.2.2.2.2.2.2.2.2.2.2.2.2.2.2.2.2.2.2.1 (lI L 100 ((L.1 7))) σ r h H locs ls hP hD hS (lv_sub hl [] rfl)
      · intro L σ r h H locs ls hP hD hS hl
        rw [y_X1_compareWholes] at h
        obtain rfl := Option.some.inj h
        exact W.iret (v := (L.1 100)) hx hb hr (fun t ht hW => ⟨⟨(L.1 100), (), rfl, rfl, by rw [ht]; exact hP, va_K.moved hW.alike hK, hD⟩, hS.F ht⟩) hS.2.2 dX1_compareWholes_218
      · intro L σ r h H locs ls hP hD hS hl
        rw [y_X1_compareWholes] at h
        refine lv_iconst (v := 1) hx hb dX1_compareWholes_197 (by decide) ?_
        exact ih.2.2.2.2.2.2.2.2.2.2.2.2.2.2.2.2.2.2.1 (lI L 100 1) σ r h H locs ls hP hD hS (lv_sub hl [0, 1, 2, 3, 4] rfl)
  exact (blk k0).1 L0 σ0 r0 h0 s.heap [] ls hP hD hS hl

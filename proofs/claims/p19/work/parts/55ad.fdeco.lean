/-! X9_isRoomFor__a19 -/
def y_X9_isRoomFor__a19 : Nat → Nat → LV → CS → Option (Int32 × CS)
  | 0, _, _, _ => none
  | k + 1, 0, L, σ => y_X9_isRoomFor__a19 k 1 (lI (lI L 2 ((((σ.1 1909)) + ((σ.1 1911))))) 3 0) σ
  | k + 1, 1, L, σ => if ((σ.1 2404)) ≤ ((L.1 3)) then (y_X9_isRoomFor__a19 k 2 L σ) else (if ¬ (((L.1 3)) < 0 ∨ 9 ≤ ((L.1 3)).toNatClampNeg) then (if ((sPi σ ((L.1 3)).toNatClampNeg)) < 9 then (if ¬ (((L.1 3)) < 0 ∨ 9 ≤ ((L.1 3)).toNatClampNeg) then (if ((sPi σ ((L.1 3)).toNatClampNeg)) < 9 then (y_X9_isRoomFor__a19 k 1 (lI (lI L 2 ((((((L.1 2)) + ((σ.1 (100 * (28 + ((sPi σ ((L.1 3)).toNatClampNeg))) + 9))))) + ((σ.1 (100 * (28 + ((sPi σ ((L.1 3)).toNatClampNeg))) + 11)))))) 3 ((((L.1 3)) + 1))) σ) else none) else none) else none) else none)
  | k + 1, 2, L, σ => if 20000 < ((((((σ.1 2403)) + ((σ.1 1902)))) + ((σ.1 1913)))) then (y_X9_isRoomFor__a19 k 3 L σ) else (if 60000 < ((L.1 2)) then (y_X9_isRoomFor__a19 k 3 L σ) else (y_X9_isRoomFor__a19 k 4 (lI L 100 1) σ))
  | k + 1, 3, L, σ => y_X9_isRoomFor__a19 k 4 (lI L 100 0) σ
  | k + 1, 4, L, σ => if ((L.1 100)) = 0 ∨ ((L.1 100)) = 1 then some ((L.1 100), σ) else none
  | _ + 1, _ + 5, _, _ => none
def o_y_X9_isRoomFor__a19 : List Cond := [.fieldLink RX9 41 "SetHouse$Saves" "saved" "I", .fieldLink RX9 13 "SetHouse$Saves" "runs" "[LSetHouse$Run;", .fieldLink RX9 38 "SetHouse$Saves" "filled" "I", .constant RX9 63 (60000)]
theorem o_y_X9_isRoomFor__a19_good : o_y_X9_isRoomFor__a19.all goodWord = true := by decide +kernel
def p_y_X9_isRoomFor__a19 : List Cond := o_y_X9_isRoomFor__a19 ++ []
theorem p_y_X9_isRoomFor__a19_good : p_y_X9_isRoomFor__a19.all goodWord = true := nb_all2 o_y_X9_isRoomFor__a19_good rfl
def w_y_X9_isRoomFor__a19 : List Cond := .code yX9_isRoomFor cX9_isRoomFor 4 (some .boolean) :: (p_y_X9_isRoomFor__a19 ++ fC)
theorem w_y_X9_isRoomFor__a19_good : w_y_X9_isRoomFor__a19.all goodWord = true := nb_allc (by decide +kernel) (nb_all2 p_y_X9_isRoomFor__a19_good fC_good)
theorem in_y_X9_isRoomFor__a19_X8 : ∀ w ∈ wsX80, w ∈ w_y_X9_isRoomFor__a19 := fun _ h => List.mem_cons_of_mem _ (List.mem_append_right _ (List.mem_append_right _ (List.mem_append_right _ (List.mem_append_right _ (List.mem_append_right _ (List.mem_append_right _ (List.mem_append_right _ (List.mem_append_right _ (List.mem_append_left _ h)))))))))
theorem in_y_X9_isRoomFor__a19_X9 : ∀ w ∈ wsX90, w ∈ w_y_X9_isRoomFor__a19 := fun _ h => List.mem_cons_of_mem _ (List.mem_append_right _ (List.mem_append_right _ (List.mem_append_right _ (List.mem_append_right _ (List.mem_append_right _ (List.mem_append_right _ (List.mem_append_right _ (List.mem_append_right _ (List.mem_append_right _ (List.mem_append_left _ h))))))))))
theorem hd_y_X9_isRoomFor__a19 : yX9_isRoomFor.cls = RX9 ∧ yX9_isRoomFor.cls ≠ "java/lang/invoke/MethodHandle" ∧ yX9_isRoomFor.cls ≠ "java/lang/invoke/VarHandle" ∧ (parseMethodDescriptor yX9_isRoomFor.desc).map (fun d => d.parameters.length) = some 1 := by decide +kernel
set_option maxHeartbeats 40000000 in
set_option maxRecDepth 100000 in
theorem c_y_X9_isRoomFor__a19 (l : Launch) (dC : Nat → ClassId) (dI : Nat → Nat → Nat) (cy : Nat → ClassId) (a z : Nat → Nat) (k0 : Nat) (L0 : LV) (σ0 : CS) (r0 : Int32 × CS) (h0 : y_X9_isRoomFor__a19 k0 0 L0 σ0 = some r0) (sz : Nat) : Met l yX9_isRoomFor w_y_X9_isRoomFor__a19 ({ frames := 0, cells := 0, slots := 0, locals := 0 }) (va_Pc [.ref (a 24), .ref (a 19)] (nIn (dC, dI) cy sz (vC cy a z σ0))) (va_Qi (fun (x : Int32) (_ : Unit) => x = r0.1) (fun _ t => nOut (dC, dI) cy (va_A (vC cy a z σ0) sz) (vC cy a z r0.2) t) (va_A (vC cy a z σ0) sz)) 0 0 (va_A (vC cy a z σ0) sz) := by
  refine Met.ofW (cc := cX9_isRoomFor) (maxL := 4) (ret := (some .boolean)) (by decide) rfl ?_
  intro p e s m args below meth c s₁ B hml hv
  obtain ⟨rfl, hsz, hP, hK, hD0, hG⟩ := hv
  have hx := B.exec
  have hb := B.bytes
  have hr := B.returns
  have hts := atoms_spec (ws := w_y_X9_isRoomFor__a19) B.pre
  have hown : s.vm.findClass RX9 = some m.cls := findClass_of_methodNamed B.named
  have hlocks := B.notSynchronized
  subst hsz
  have hD := hD0.self (sz := s.heap.size)
  generalize hAe : va_A (vC cy a z σ0) s.heap.size = A at hD ⊢
  have hA : ∀ q : Nat, s.heap.size ≤ q → A q := fun q h => by rw [← hAe]; exact Or.inr h
  have hS : va_S A s.heap s.heap [] := va_S.rf
  have hl := lv_entry ([.ref (a 24), .ref (a 19)]) (n := 4) (Nat.le_of_ble_eq_true rfl)
  rw [lg_entry_eq]
  generalize (lg_sl ([.ref (a 24), .ref (a 19)]) ++ List.replicate (4 - (lg_sl ([.ref (a 24), .ref (a 19)])).length) Slot.unset).toArray = ls at hl ⊢
  have hl : lv_has ls 4 [(0, .ref (a 24)), (1, .ref (a 19))] := hl
  have blk : ∀ k : Nat, (bC p l e (headSpec w_y_X9_isRoomFor__a19 ({ frames := 0, cells := 0, slots := 0, locals := 0 })).room s m #[.ref (a 24), .ref (a 19)] below meth c dC dI cy a z A (kI dC dI cy a z A below #[.ref (a 24), .ref (a 19)] s) 4 (y_X9_isRoomFor__a19 k 0) (fun L => [(0, .ref (a 24)), (1, .ref (a 19))]) 0 (fun L => [])) ∧ (bC p l e (headSpec w_y_X9_isRoomFor__a19 ({ frames := 0, cells := 0, slots := 0, locals := 0 })).room s m #[.ref (a 24), .ref (a 19)] below meth c dC dI cy a z A (kI dC dI cy a z A below #[.ref (a 24), .ref (a 19)] s) 4 (y_X9_isRoomFor__a19 k 1) (fun L => [(0, .ref (a 24)), (1, .ref (a 19)), (2, .int (L.1 2)), (3, .int (L.1 3))]) 12 (fun L => [])) ∧ (bC p l e (headSpec w_y_X9_isRoomFor__a19 ({ frames := 0, cells := 0, slots := 0, locals := 0 })).room s m #[.ref (a 24), .ref (a 19)] below meth c dC dI cy a z A (kI dC dI cy a z A below #[.ref (a 24), .ref (a 19)] s) 4 (y_X9_isRoomFor__a19 k 2) (fun L => [(0, .ref (a 24)), (1, .ref (a 19)), (2, .int (L.1 2))]) 48 (fun L => [])) ∧ (bC p l e (headSpec w_y_X9_isRoomFor__a19 ({ frames := 0, cells := 0, slots := 0, locals := 0 })).room s m #[.ref (a 24), .ref (a 19)] below meth c dC dI cy a z A (kI dC dI cy a z A below #[.ref (a 24), .ref (a 19)] s) 4 (y_X9_isRoomFor__a19 k 3) (fun L => []) 78 (fun L => [])) ∧ (bC p l e (headSpec w_y_X9_isRoomFor__a19 ({ frames := 0, cells := 0, slots := 0, locals := 0 })).room s m #[.ref (a 24), .ref (a 19)] below meth c dC dI cy a z A (kI dC dI cy a z A below #[.ref (a 24), .ref (a 19)] s) 4 (y_X9_isRoomFor__a19 k 4) (fun L => []) 79 (fun L => [.int (L.1 100)])) := by
    intro k
    induction k with
    | zero => exact ⟨fun L σ r h => (by cases h), fun L σ r h => (by cases h), fun L σ r h => (by cases h), fun L σ r h => (by cases h), fun L σ r h => (by cases h)⟩
    | succ k ih =>
      refine ⟨?_, ?_, ?_, ?_, ?_⟩
      · intro L σ r h H locs ls hP hD hS hl
        rw [y_X9_isRoomFor__a19] at h
        refine lv_aload_n hx hb dX9_isRoomFor_0 rfl (lv_at hl 1 rfl) ?_
        refine hg_19_9n hx hb hts in_y_X9_isRoomFor__a19_X8 hown hK hP (va_Nw.use rfl (hG.1 _ (List.mem_of_getElem? (i := 26) rfl))) dX9_isRoomFor_1 ?_
        refine lv_aload_n hx hb dX9_isRoomFor_4 rfl (lv_at hl 1 rfl) ?_
        refine hg_19_11n hx hb hts in_y_X9_isRoomFor__a19_X8 hown hK hP (va_Nw.use rfl (hG.1 _ (List.mem_of_getElem? (i := 30) rfl))) dX9_isRoomFor_5 ?_
        refine lv_iadd hx hb dX9_isRoomFor_8 ?_
        refine lv_istore_n (lv' := [(2, .int (((σ.1 1909)) + ((σ.1 1911)))), (0, .ref (a 24)), (1, .ref (a 19))]) hx hb dX9_isRoomFor_9 rfl hl (by decide) rfl (fun ls hl => ?_)
        refine lv_iconst (v := 0) hx hb dX9_isRoomFor_10 (by decide) ?_
        refine lv_istore_n (lv' := [(3, .int 0), (2, .int (((σ.1 1909)) + ((σ.1 1911)))), (0, .ref (a 24)), (1, .ref (a 19))]) hx hb dX9_isRoomFor_11 rfl hl (by decide) rfl (fun ls hl => ?_)
        exact ih.2.1 (lI (lI L 2 ((((σ.1 1909)) + ((σ.1 1911))))) 3 0) σ r h H locs ls hP hD hS (lv_sub hl [2, 3, 1, 0] rfl)
      · intro L σ r h H locs ls hP hD hS hl
        rw [y_X9_isRoomFor__a19] at h
        refine lv_iload_n hx hb dX9_isRoomFor_12 rfl (lv_at hl 3 rfl) ?_
        refine lv_aload_n hx hb dX9_isRoomFor_13 rfl (lv_at hl 0 rfl) ?_
        refine hg_24_4 hx hb hts in_y_X9_isRoomFor__a19_X9 hown hK hP (hts _ (List.mem_cons_of_mem _ (List.mem_append_left _ (List.mem_append_left _ (List.mem_of_getElem? (i := 0) rfl))))) dX9_isRoomFor_14 ?_
        refine lv_icmp_ge (tgt := 48) hx hb dX9_isRoomFor_17 (by decide) (fun c1 => ?_) (fun c1 => ?_)
        · rw [if_pos c1] at h
          exact ih.2.2.1 L σ r h H locs ls hP hD hS (lv_sub hl [0, 1, 2] rfl)
        · rw [if_neg c1] at h
          refine lv_iload_n hx hb dX9_isRoomFor_20 rfl (lv_at hl 2 rfl) ?_
          refine lv_aload_n hx hb dX9_isRoomFor_21 rfl (lv_at hl 0 rfl) ?_
          refine hg_24_0 hx hb hts in_y_X9_isRoomFor__a19_X9 hown hK hP (hts _ (List.mem_cons_of_mem _ (List.mem_append_left _ (List.mem_append_left _ (List.mem_of_getElem? (i := 1) rfl))))) dX9_isRoomFor_22 ?_
          refine lv_iload_n hx hb dX9_isRoomFor_25 rfl (lv_at hl 3 rfl) ?_
          obtain ⟨q2, h⟩ := kb_ite1 h
          refine hl_25 hx hb hK hP q2 dX9_isRoomFor_26 ?_
          obtain ⟨q3, h⟩ := kb_ite1 h
          refine hg_R_9n ((sPi σ ((L.1 3)).toNatClampNeg)) q3 hx hb hts in_y_X9_isRoomFor__a19_X8 hown hK hP (va_Nw.use rfl (hG.1 _ (List.mem_of_getElem? (i := 26) rfl))) dX9_isRoomFor_27 ?_
          refine lv_iadd hx hb dX9_isRoomFor_30 ?_
          refine lv_aload_n hx hb dX9_isRoomFor_31 rfl (lv_at hl 0 rfl) ?_
          refine hg_24_0 hx hb hts in_y_X9_isRoomFor__a19_X9 hown hK hP (hts _ (List.mem_cons_of_mem _ (List.mem_append_left _ (List.mem_append_left _ (List.mem_of_getElem? (i := 1) rfl))))) dX9_isRoomFor_32 ?_
          refine lv_iload_n hx hb dX9_isRoomFor_35 rfl (lv_at hl 3 rfl) ?_
          obtain ⟨q4, h⟩ := kb_ite1 h
          refine hl_25 hx hb hK hP q4 dX9_isRoomFor_36 ?_
          obtain ⟨q5, h⟩ := kb_ite1 h
          refine hg_R_11n ((sPi σ ((L.1 3)).toNatClampNeg)) q5 hx hb hts in_y_X9_isRoomFor__a19_X8 hown hK hP (va_Nw.use rfl (hG.1 _ (List.mem_of_getElem? (i := 30) rfl))) dX9_isRoomFor_37 ?_
          refine lv_iadd hx hb dX9_isRoomFor_40 ?_
          refine lv_istore_n (lv' := [(2, .int (((((L.1 2)) + ((σ.1 (100 * (28 + ((sPi σ ((L.1 3)).toNatClampNeg))) + 9))))) + ((σ.1 (100 * (28 + ((sPi σ ((L.1 3)).toNatClampNeg))) + 11))))), (0, .ref (a 24)), (1, .ref (a 19)), (3, .int (L.1 3))]) hx hb dX9_isRoomFor_41 rfl hl (by decide) rfl (fun ls hl => ?_)
          refine lv_iinc (v := ((L.1 3)) + 1) (lv' := [(3, .int (((L.1 3)) + 1)), (2, .int (((((L.1 2)) + ((σ.1 (100 * (28 + ((sPi σ ((L.1 3)).toNatClampNeg))) + 9))))) + ((σ.1 (100 * (28 + ((sPi σ ((L.1 3)).toNatClampNeg))) + 11))))), (0, .ref (a 24)), (1, .ref (a 19))]) hx hb dX9_isRoomFor_42 hl (k := 3) rfl rfl (by decide) rfl (fun ls hl => ?_)
          refine lv_goto (tgt := 12) hx hb dX9_isRoomFor_45 (by decide) ?_
          exact ih.2.1 (lI (lI L 2 ((((((L.1 2)) + ((σ.1 (100 * (28 + ((sPi σ ((L.1 3)).toNatClampNeg))) + 9))))) + ((σ.1 (100 * (28 + ((sPi σ ((L.1 3)).toNatClampNeg))) + 11)))))) 3 ((((L.1 3)) + 1))) σ r h H locs ls hP hD hS (lv_sub hl [2, 3, 1, 0] rfl)
      · intro L σ r h H locs ls hP hD hS hl
        rw [y_X9_isRoomFor__a19] at h
        refine lv_aload_n hx hb dX9_isRoomFor_48 rfl (lv_at hl 0 rfl) ?_
        refine hg_24_3 hx hb hts in_y_X9_isRoomFor__a19_X9 hown hK hP (hts _ (List.mem_cons_of_mem _ (List.mem_append_left _ (List.mem_append_left _ (List.mem_of_getElem? (i := 2) rfl))))) dX9_isRoomFor_49 ?_
        refine lv_aload_n hx hb dX9_isRoomFor_52 rfl (lv_at hl 1 rfl) ?_
        refine hg_19_2n hx hb hts in_y_X9_isRoomFor__a19_X8 hown hK hP (va_Nw.use rfl (hG.1 _ (List.mem_of_getElem? (i := 11) rfl))) dX9_isRoomFor_53 ?_
        refine lv_iadd hx hb dX9_isRoomFor_56 ?_
        refine lv_aload_n hx hb dX9_isRoomFor_57 rfl (lv_at hl 1 rfl) ?_
        refine hg_19_13n hx hb hts in_y_X9_isRoomFor__a19_X8 hown hK hP (va_Nw.use rfl (hG.1 _ (List.mem_of_getElem? (i := 35) rfl))) dX9_isRoomFor_58 ?_
        refine lv_iadd hx hb dX9_isRoomFor_61 ?_
        refine lv_sipush (v := 20000) hx hb dX9_isRoomFor_62 (by decide) ?_
        refine lv_icmp_gt (tgt := 78) hx hb dX9_isRoomFor_65 (by decide) (fun c1 => ?_) (fun c1 => ?_)
        · rw [if_pos c1] at h
          exact ih.2.2.2.1 L σ r h H locs ls hP hD hS (lv_sub hl [] rfl)
        · rw [if_neg c1] at h
          refine lv_iload_n hx hb dX9_isRoomFor_68 rfl (lv_at hl 2 rfl) ?_
          refine lv_ldc (v := 60000) hx hb hown (hts _ (List.mem_cons_of_mem _ (List.mem_append_left _ (List.mem_append_left _ (List.mem_of_getElem? (i := 3) rfl))))) dX9_isRoomFor_69 ?_
          refine lv_icmp_gt (tgt := 78) hx hb dX9_isRoomFor_71 (by decide) (fun c2 => ?_) (fun c2 => ?_)
          · rw [if_pos c2] at h
            exact ih.2.2.2.1 L σ r h H locs ls hP hD hS (lv_sub hl [] rfl)
          · rw [if_neg c2] at h
            refine lv_iconst (v := 1) hx hb dX9_isRoomFor_74 (by decide) ?_
            refine lv_goto (tgt := 79) hx hb dX9_isRoomFor_75 (by decide) ?_
            exact ih.2.2.2.2 (lI L 100 1) σ r h H locs ls hP hD hS (lv_sub hl [] rfl)
      · intro L σ r h H locs ls hP hD hS hl
        rw [y_X9_isRoomFor__a19] at h
        refine lv_iconst (v := 0) hx hb dX9_isRoomFor_78 (by decide) ?_
        exact ih.2.2.2.2 (lI L 100 0) σ r h H locs ls hP hD hS (lv_sub hl [] rfl)
      · intro L σ r h H locs ls hP hD hS hl
        rw [y_X9_isRoomFor__a19] at h
        obtain ⟨q1, h⟩ := kb_ite1 h
        obtain rfl := Option.some.inj h
        exact W.zret (v := (L.1 100)) hx hb hr (nb_bz q1) (fun t ht hW => ⟨⟨(L.1 100), (), rfl, rfl, by rw [ht]; exact hP, va_K.moved hW.alike hK, hD⟩, hS.F ht⟩) hS.2.2 dX9_isRoomFor_79
  exact (blk k0).1 L0 σ0 r0 h0 s.heap [] ls hP hD hS hl
/-! X8_copyFrom__R__a19 -/
def y_X8_copyFrom__R__a19 : Nat → Nat → LV → CS → Option (Int32 × CS)
  | 0, _, _, _ => none
  | k + 1, 0, L, σ => if ((L.2.2.2 0)) < 9 then (if ((L.2.2.2 0)) < 9 then (if ((L.2.2.2 0)) < 9 then (y_X8_copyFrom__R__a19 k 1 L (uI (uI (uI σ (100 * (28 + ((L.2.2.2 0))) + 0) ((σ.1 1900))) (100 * (28 + ((L.2.2.2 0))) + 1) (((uI σ (100 * (28 + ((L.2.2.2 0))) + 0) ((σ.1 1900))).1 1901))) (100 * (28 + ((L.2.2.2 0))) + 2) (((uI (uI σ (100 * (28 + ((L.2.2.2 0))) + 0) ((σ.1 1900))) (100 * (28 + ((L.2.2.2 0))) + 1) (((uI σ (100 * (28 + ((L.2.2.2 0))) + 0) ((σ.1 1900))).1 1901))).1 1902)))) else none) else none) else none
  | k + 1, 1, L, σ => if ((L.2.2.2 0)) < 9 then (if ((L.2.2.2 0)) < 9 then (if ((L.2.2.2 0)) < 9 then (y_X8_copyFrom__R__a19 k 2 L (uI (uI (uI σ (100 * (28 + ((L.2.2.2 0))) + 3) ((σ.1 1903))) (100 * (28 + ((L.2.2.2 0))) + 4) (((uI σ (100 * (28 + ((L.2.2.2 0))) + 3) ((σ.1 1903))).1 1904))) (100 * (28 + ((L.2.2.2 0))) + 5) (((uI (uI σ (100 * (28 + ((L.2.2.2 0))) + 3) ((σ.1 1903))) (100 * (28 + ((L.2.2.2 0))) + 4) (((uI σ (100 * (28 + ((L.2.2.2 0))) + 3) ((σ.1 1903))).1 1904))).1 1905)))) else none) else none) else none
  | k + 1, 2, L, σ => if ((L.2.2.2 0)) < 9 then (if ((L.2.2.2 0)) < 9 then (if ((L.2.2.2 0)) < 9 then (y_X8_copyFrom__R__a19 k 3 L (uI (uI (uI σ (100 * (28 + ((L.2.2.2 0))) + 6) ((σ.1 1906))) (100 * (28 + ((L.2.2.2 0))) + 7) (((uI σ (100 * (28 + ((L.2.2.2 0))) + 6) ((σ.1 1906))).1 1907))) (100 * (28 + ((L.2.2.2 0))) + 8) (((uI (uI σ (100 * (28 + ((L.2.2.2 0))) + 6) ((σ.1 1906))) (100 * (28 + ((L.2.2.2 0))) + 7) (((uI σ (100 * (28 + ((L.2.2.2 0))) + 6) ((σ.1 1906))).1 1907))).1 1908)))) else none) else none) else none
  | k + 1, 3, L, σ => if ((L.2.2.2 0)) < 9 then (if ((L.2.2.2 0)) < 9 then (if ((L.2.2.2 0)) < 9 then (y_X8_copyFrom__R__a19 k 4 L (uI (uI (uI σ (100 * (28 + ((L.2.2.2 0))) + 9) ((σ.1 1909))) (100 * (28 + ((L.2.2.2 0))) + 10) (((uI σ (100 * (28 + ((L.2.2.2 0))) + 9) ((σ.1 1909))).1 1910))) (100 * (28 + ((L.2.2.2 0))) + 11) (((uI (uI σ (100 * (28 + ((L.2.2.2 0))) + 9) ((σ.1 1909))) (100 * (28 + ((L.2.2.2 0))) + 10) (((uI σ (100 * (28 + ((L.2.2.2 0))) + 9) ((σ.1 1909))).1 1910))).1 1911)))) else none) else none) else none
  | k + 1, 4, L, σ => if ((L.2.2.2 0)) < 9 then (if ((L.2.2.2 0)) < 9 then (if ((L.2.2.2 0)) < 9 then (y_X8_copyFrom__R__a19 k 5 L (uI (uI (uI σ (100 * (28 + ((L.2.2.2 0))) + 12) ((σ.1 1912))) (100 * (28 + ((L.2.2.2 0))) + 13) (((uI σ (100 * (28 + ((L.2.2.2 0))) + 12) ((σ.1 1912))).1 1913))) (100 * (28 + ((L.2.2.2 0))) + 14) (((uI (uI σ (100 * (28 + ((L.2.2.2 0))) + 12) ((σ.1 1912))) (100 * (28 + ((L.2.2.2 0))) + 13) (((uI σ (100 * (28 + ((L.2.2.2 0))) + 12) ((σ.1 1912))).1 1913))).1 1914)))) else none) else none) else none
  | k + 1, 5, L, σ => if ((L.2.2.2 0)) < 9 then (if ((L.2.2.2 0)) < 9 then (some (0, (uL (uI σ (100 * (28 + ((L.2.2.2 0))) + 15) ((σ.1 1915))) (100 * (28 + ((L.2.2.2 0))) + 16) (((uI σ (100 * (28 + ((L.2.2.2 0))) + 15) ((σ.1 1915))).2.1 1916))))) else none) else none
  | _ + 1, _ + 6, _, _ => none
def o_y_X8_copyFrom__R__a19 : List Cond := [.fieldLink RX8 7 "SetHouse$Run" "pc" "I", .fieldLink RX8 13 "SetHouse$Run" "fp" "I", .fieldLink RX8 16 "SetHouse$Run" "sp" "I", .fieldLink RX8 19 "SetHouse$Run" "begun" "I", .fieldLink RX8 22 "SetHouse$Run" "place" "I", .fieldLink RX8 25 "SetHouse$Run" "work" "I", .fieldLink RX8 28 "SetHouse$Run" "error" "I", .fieldLink RX8 31 "SetHouse$Run" "ended" "I", .fieldLink RX8 34 "SetHouse$Run" "calls" "I", .fieldLink RX8 37 "SetHouse$Run" "total" "I", .fieldLink RX8 40 "SetHouse$Run" "local" "I", .fieldLink RX8 43 "SetHouse$Run" "pointTotal" "I", .fieldLink RX8 46 "SetHouse$Run" "points" "I", .fieldLink RX8 49 "SetHouse$Run" "pointTop" "I", .fieldLink RX8 52 "SetHouse$Run" "atoms" "I", .fieldLink RX8 55 "SetHouse$Run" "printed" "I", .fieldLink RX8 58 "SetHouse$Run" "seed" "J"]
theorem o_y_X8_copyFrom__R__a19_good : o_y_X8_copyFrom__R__a19.all goodWord = true := by decide +kernel
def p_y_X8_copyFrom__R__a19 : List Cond := o_y_X8_copyFrom__R__a19 ++ []
theorem p_y_X8_copyFrom__R__a19_good : p_y_X8_copyFrom__R__a19.all goodWord = true := nb_all2 o_y_X8_copyFrom__R__a19_good rfl
def w_y_X8_copyFrom__R__a19 : List Cond := .code yX8_copyFrom cX8_copyFrom 2 none :: (p_y_X8_copyFrom__R__a19 ++ fC)
theorem w_y_X8_copyFrom__R__a19_good : w_y_X8_copyFrom__R__a19.all goodWord = true := nb_allc (by decide +kernel) (nb_all2 p_y_X8_copyFrom__R__a19_good fC_good)
theorem in_y_X8_copyFrom__R__a19_X8 : ∀ w ∈ wsX80, w ∈ w_y_X8_copyFrom__R__a19 := fun _ h => List.mem_cons_of_mem _ (List.mem_append_right _ (List.mem_append_right _ (List.mem_append_right _ (List.mem_append_right _ (List.mem_append_right _ (List.mem_append_right _ (List.mem_append_right _ (List.mem_append_right _ (List.mem_append_left _ h)))))))))
theorem hd_y_X8_copyFrom__R__a19 : yX8_copyFrom.cls = RX8 ∧ yX8_copyFrom.cls ≠ "java/lang/invoke/MethodHandle" ∧ yX8_copyFrom.cls ≠ "java/lang/invoke/VarHandle" ∧ (parseMethodDescriptor yX8_copyFrom.desc).map (fun d => d.parameters.length) = some 1 := by decide +kernel
set_option maxHeartbeats 40000000 in
set_option maxRecDepth 100000 in
theorem c_y_X8_copyFrom__R__a19 (l : Launch) (dC : Nat → ClassId) (dI : Nat → Nat → Nat) (cy : Nat → ClassId) (a z : Nat → Nat) (k0 : Nat) (L0 : LV) (σ0 : CS) (r0 : Int32 × CS) (h0 : y_X8_copyFrom__R__a19 k0 0 L0 σ0 = some r0) (sz : Nat) : Met l yX8_copyFrom w_y_X8_copyFrom__R__a19 ({ frames := 0, cells := 0, slots := 0, locals := 0 }) (va_Pc [.ref (a (28 + (L0.2.2.2 0))), .ref (a 19)] (nIn (dC, dI) cy sz (vC cy a z σ0))) (va_Qv (fun _ : Unit => True) (fun _ t => nOut (dC, dI) cy (va_A (vC cy a z σ0) sz) (vC cy a z r0.2) t) (va_A (vC cy a z σ0) sz)) 0 0 (va_A (vC cy a z σ0) sz) := by
  refine Met.ofW (cc := cX8_copyFrom) (maxL := 2) (ret := none) (by decide) rfl ?_
  intro p e s m args below meth c s₁ B hml hv
  obtain ⟨rfl, hsz, hP, hK, hD0, hG⟩ := hv
  have hx := B.exec
  have hb := B.bytes
  have hr := B.returns
  have hts := atoms_spec (ws := w_y_X8_copyFrom__R__a19) B.pre
  have hown : s.vm.findClass RX8 = some m.cls := findClass_of_methodNamed B.named
  have hlocks := B.notSynchronized
  subst hsz
  have hD := hD0.self (sz := s.heap.size)
  generalize hAe : va_A (vC cy a z σ0) s.heap.size = A at hD ⊢
  have hA : ∀ q : Nat, s.heap.size ≤ q → A q := fun q h => by rw [← hAe]; exact Or.inr h
  have hS : va_S A s.heap s.heap [] := va_S.rf
  have hl := lv_entry ([.ref (a (28 + (L0.2.2.2 0))), .ref (a 19)]) (n := 2) (Nat.le_of_ble_eq_true rfl)
  rw [lg_entry_eq]
  generalize (lg_sl ([.ref (a (28 + (L0.2.2.2 0))), .ref (a 19)]) ++ List.replicate (2 - (lg_sl ([.ref (a (28 + (L0.2.2.2 0))), .ref (a 19)])).length) Slot.unset).toArray = ls at hl ⊢
  have hl : lv_has ls 2 [(0, .ref (a (28 + (L0.2.2.2 0)))), (1, .ref (a 19))] := hl
  have blk : ∀ k : Nat, (bC p l e (headSpec w_y_X8_copyFrom__R__a19 ({ frames := 0, cells := 0, slots := 0, locals := 0 })).room s m #[.ref (a (28 + (L0.2.2.2 0))), .ref (a 19)] below meth c dC dI cy a z A (kV dC dI cy a z A below #[.ref (a (28 + (L0.2.2.2 0))), .ref (a 19)] s) 2 (y_X8_copyFrom__R__a19 k 0) (fun L => [(0, .ref (a (28 + (L.2.2.2 0)))), (1, .ref (a 19))]) 0 (fun L => [])) ∧ (bC p l e (headSpec w_y_X8_copyFrom__R__a19 ({ frames := 0, cells := 0, slots := 0, locals := 0 })).room s m #[.ref (a (28 + (L0.2.2.2 0))), .ref (a 19)] below meth c dC dI cy a z A (kV dC dI cy a z A below #[.ref (a (28 + (L0.2.2.2 0))), .ref (a 19)] s) 2 (y_X8_copyFrom__R__a19 k 1) (fun L => [(0, .ref (a (28 + (L.2.2.2 0)))), (1, .ref (a 19))]) 24 (fun L => [])) ∧ (bC p l e (headSpec w_y_X8_copyFrom__R__a19 ({ frames := 0, cells := 0, slots := 0, locals := 0 })).room s m #[.ref (a (28 + (L0.2.2.2 0))), .ref (a 19)] below meth c dC dI cy a z A (kV dC dI cy a z A below #[.ref (a (28 + (L0.2.2.2 0))), .ref (a 19)] s) 2 (y_X8_copyFrom__R__a19 k 2) (fun L => [(0, .ref (a (28 + (L.2.2.2 0)))), (1, .ref (a 19))]) 48 (fun L => [])) ∧ (bC p l e (headSpec w_y_X8_copyFrom__R__a19 ({ frames := 0, cells := 0, slots := 0, locals := 0 })).room s m #[.ref (a (28 + (L0.2.2.2 0))), .ref (a 19)] below meth c dC dI cy a z A (kV dC dI cy a z A below #[.ref (a (28 + (L0.2.2.2 0))), .ref (a 19)] s) 2 (y_X8_copyFrom__R__a19 k 3) (fun L => [(0, .ref (a (28 + (L.2.2.2 0)))), (1, .ref (a 19))]) 72 (fun L => [])) ∧ (bC p l e (headSpec w_y_X8_copyFrom__R__a19 ({ frames := 0, cells := 0, slots := 0, locals := 0 })).room s m #[.ref (a (28 + (L0.2.2.2 0))), .ref (a 19)] below meth c dC dI cy a z A (kV dC dI cy a z A below #[.ref (a (28 + (L0.2.2.2 0))), .ref (a 19)] s) 2 (y_X8_copyFrom__R__a19 k 4) (fun L => [(0, .ref (a (28 + (L.2.2.2 0)))), (1, .ref (a 19))]) 96 (fun L => [])) ∧ (bC p l e (headSpec w_y_X8_copyFrom__R__a19 ({ frames := 0, cells := 0, slots := 0, locals := 0 })).room s m #[.ref (a (28 + (L0.2.2.2 0))), .ref (a 19)] below meth c dC dI cy a z A (kV dC dI cy a z A below #[.ref (a (28 + (L0.2.2.2 0))), .ref (a 19)] s) 2 (y_X8_copyFrom__R__a19 k 5) (fun L => [(0, .ref (a (28 + (L.2.2.2 0)))), (1, .ref (a 19))]) 120 (fun L => [])) := by
    intro k
    induction k with
    | zero => exact ⟨fun L σ r h => (by cases h), fun L σ r h => (by cases h), fun L σ r h => (by cases h), fun L σ r h => (by cases h), fun L σ r h => (by cases h), fun L σ r h => (by cases h)⟩
    | succ k ih =>
      refine ⟨?_, ?_, ?_, ?_, ?_, ?_⟩
      · intro L σ r h H locs ls hP hD hS hl
        rw [y_X8_copyFrom__R__a19] at h
        refine lv_aload_n hx hb dX8_copyFrom_0 rfl (lv_at hl 0 rfl) ?_
        refine lv_aload_n hx hb dX8_copyFrom_1 rfl (lv_at hl 1 rfl) ?_
        refine hg_19_0 hx hb hts in_y_X8_copyFrom__R__a19_X8 hown hK hP (hts _ (List.mem_cons_of_mem _ (List.mem_append_left _ (List.mem_append_left _ (List.mem_of_getElem? (i := 0) rfl))))) dX8_copyFrom_2 ?_
        obtain ⟨q1, h⟩ := kb_ite1 h
        refine hp_R_0 ((L.2.2.2 0)) q1 hx hb hts in_y_X8_copyFrom__R__a19_X8 hown hK hP hD hS (hts _ (List.mem_cons_of_mem _ (List.mem_append_left _ (List.mem_append_left _ (List.mem_of_getElem? (i := 0) rfl))))) dX8_copyFrom_5 (fun H locs hP hD hS => ?_)
        refine lv_aload_n hx hb dX8_copyFrom_8 rfl (lv_at hl 0 rfl) ?_
        refine lv_aload_n hx hb dX8_copyFrom_9 rfl (lv_at hl 1 rfl) ?_
        refine hg_19_1 hx hb hts in_y_X8_copyFrom__R__a19_X8 hown hK hP (hts _ (List.mem_cons_of_mem _ (List.mem_append_left _ (List.mem_append_left _ (List.mem_of_getElem? (i := 1) rfl))))) dX8_copyFrom_10 ?_
        obtain ⟨q2, h⟩ := kb_ite1 h
        refine hp_R_1 ((L.2.2.2 0)) q2 hx hb hts in_y_X8_copyFrom__R__a19_X8 hown hK hP hD hS (hts _ (List.mem_cons_of_mem _ (List.mem_append_left _ (List.mem_append_left _ (List.mem_of_getElem? (i := 1) rfl))))) dX8_copyFrom_13 (fun H locs hP hD hS => ?_)
        refine lv_aload_n hx hb dX8_copyFrom_16 rfl (lv_at hl 0 rfl) ?_
        refine lv_aload_n hx hb dX8_copyFrom_17 rfl (lv_at hl 1 rfl) ?_
        refine hg_19_2 hx hb hts in_y_X8_copyFrom__R__a19_X8 hown hK hP (hts _ (List.mem_cons_of_mem _ (List.mem_append_left _ (List.mem_append_left _ (List.mem_of_getElem? (i := 2) rfl))))) dX8_copyFrom_18 ?_
        obtain ⟨q3, h⟩ := kb_ite1 h
        refine hp_R_2 ((L.2.2.2 0)) q3 hx hb hts in_y_X8_copyFrom__R__a19_X8 hown hK hP hD hS (hts _ (List.mem_cons_of_mem _ (List.mem_append_left _ (List.mem_append_left _ (List.mem_of_getElem? (i := 2) rfl))))) dX8_copyFrom_21 (fun H locs hP hD hS => ?_)
        exact ih.2.1 L (uI (uI (uI σ (100 * (28 + ((L.2.2.2 0))) + 0) ((σ.1 1900))) (100 * (28 + ((L.2.2.2 0))) + 1) (((uI σ (100 * (28 + ((L.2.2.2 0))) + 0) ((σ.1 1900))).1 1901))) (100 * (28 + ((L.2.2.2 0))) + 2) (((uI (uI σ (100 * (28 + ((L.2.2.2 0))) + 0) ((σ.1 1900))) (100 * (28 + ((L.2.2.2 0))) + 1) (((uI σ (100 * (28 + ((L.2.2.2 0))) + 0) ((σ.1 1900))).1 1901))).1 1902))) r h H locs ls hP hD hS (lv_sub hl [0, 1] rfl)
      · intro L σ r h H locs ls hP hD hS hl
        rw [y_X8_copyFrom__R__a19] at h
        refine lv_aload_n hx hb dX8_copyFrom_24 rfl (lv_at hl 0 rfl) ?_
        refine lv_aload_n hx hb dX8_copyFrom_25 rfl (lv_at hl 1 rfl) ?_
        refine hg_19_3 hx hb hts in_y_X8_copyFrom__R__a19_X8 hown hK hP (hts _ (List.mem_cons_of_mem _ (List.mem_append_left _ (List.mem_append_left _ (List.mem_of_getElem? (i := 3) rfl))))) dX8_copyFrom_26 ?_
        obtain ⟨q1, h⟩ := kb_ite1 h
        refine hp_R_3 ((L.2.2.2 0)) q1 hx hb hts in_y_X8_copyFrom__R__a19_X8 hown hK hP hD hS (hts _ (List.mem_cons_of_mem _ (List.mem_append_left _ (List.mem_append_left _ (List.mem_of_getElem? (i := 3) rfl))))) dX8_copyFrom_29 (fun H locs hP hD hS => ?_)
        refine lv_aload_n hx hb dX8_copyFrom_32 rfl (lv_at hl 0 rfl) ?_
        refine lv_aload_n hx hb dX8_copyFrom_33 rfl (lv_at hl 1 rfl) ?_
        refine hg_19_4 hx hb hts in_y_X8_copyFrom__R__a19_X8 hown hK hP (hts _ (List.mem_cons_of_mem _ (List.mem_append_left _ (List.mem_append_left _ (List.mem_of_getElem? (i := 4) rfl))))) dX8_copyFrom_34 ?_
        obtain ⟨q2, h⟩ := kb_ite1 h
        refine hp_R_4 ((L.2.2.2 0)) q2 hx hb hts in_y_X8_copyFrom__R__a19_X8 hown hK hP hD hS (hts _ (List.mem_cons_of_mem _ (List.mem_append_left _ (List.mem_append_left _ (List.mem_of_getElem? (i := 4) rfl))))) dX8_copyFrom_37 (fun H locs hP hD hS => ?_)
        refine lv_aload_n hx hb dX8_copyFrom_40 rfl (lv_at hl 0 rfl) ?_
        refine lv_aload_n hx hb dX8_copyFrom_41 rfl (lv_at hl 1 rfl) ?_
        refine hg_19_5 hx hb hts in_y_X8_copyFrom__R__a19_X8 hown hK hP (hts _ (List.mem_cons_of_mem _ (List.mem_append_left _ (List.mem_append_left _ (List.mem_of_getElem? (i := 5) rfl))))) dX8_copyFrom_42 ?_
        obtain ⟨q3, h⟩ := kb_ite1 h
        refine hp_R_5 ((L.2.2.2 0)) q3 hx hb hts in_y_X8_copyFrom__R__a19_X8 hown hK hP hD hS (hts _ (List.mem_cons_of_mem _ (List.mem_append_left _ (List.mem_append_left _ (List.mem_of_getElem? (i := 5) rfl))))) dX8_copyFrom_45 (fun H locs hP hD hS => ?_)
        exact ih.2.2.1 L (uI (uI (uI σ (100 * (28 + ((L.2.2.2 0))) + 3) ((σ.1 1903))) (100 * (28 + ((L.2.2.2 0))) + 4) (((uI σ (100 * (28 + ((L.2.2.2 0))) + 3) ((σ.1 1903))).1 1904))) (100 * (28 + ((L.2.2.2 0))) + 5) (((uI (uI σ (100 * (28 + ((L.2.2.2 0))) + 3) ((σ.1 1903))) (100 * (28 + ((L.2.2.2 0))) + 4) (((uI σ (100 * (28 + ((L.2.2.2 0))) + 3) ((σ.1 1903))).1 1904))).1 1905))) r h H locs ls hP hD hS (lv_sub hl [0, 1] rfl)
      · intro L σ r h H locs ls hP hD hS hl
        rw [y_X8_copyFrom__R__a19] at h
        refine lv_aload_n hx hb dX8_copyFrom_48 rfl (lv_at hl 0 rfl) ?_
        refine lv_aload_n hx hb dX8_copyFrom_49 rfl (lv_at hl 1 rfl) ?_
        refine hg_19_6 hx hb hts in_y_X8_copyFrom__R__a19_X8 hown hK hP (hts _ (List.mem_cons_of_mem _ (List.mem_append_left _ (List.mem_append_left _ (List.mem_of_getElem? (i := 6) rfl))))) dX8_copyFrom_50 ?_
        obtain ⟨q1, h⟩ := kb_ite1 h
        refine hp_R_6 ((L.2.2.2 0)) q1 hx hb hts in_y_X8_copyFrom__R__a19_X8 hown hK hP hD hS (hts _ (List.mem_cons_of_mem _ (List.mem_append_left _ (List.mem_append_left _ (List.mem_of_getElem? (i := 6) rfl))))) dX8_copyFrom_53 (fun H locs hP hD hS => ?_)
        refine lv_aload_n hx hb dX8_copyFrom_56 rfl (lv_at hl 0 rfl) ?_
        refine lv_aload_n hx hb dX8_copyFrom_57 rfl (lv_at hl 1 rfl) ?_
        refine hg_19_7 hx hb hts in_y_X8_copyFrom__R__a19_X8 hown hK hP (hts _ (List.mem_cons_of_mem _ (List.mem_append_left _ (List.mem_append_left _ (List.mem_of_getElem? (i := 7) rfl))))) dX8_copyFrom_58 ?_
        obtain ⟨q2, h⟩ := kb_ite1 h
        refine hp_R_7 ((L.2.2.2 0)) q2 hx hb hts in_y_X8_copyFrom__R__a19_X8 hown hK hP hD hS (hts _ (List.mem_cons_of_mem _ (List.mem_append_left _ (List.mem_append_left _ (List.mem_of_getElem? (i := 7) rfl))))) dX8_copyFrom_61 (fun H locs hP hD hS => ?_)
        refine lv_aload_n hx hb dX8_copyFrom_64 rfl (lv_at hl 0 rfl) ?_
        refine lv_aload_n hx hb dX8_copyFrom_65 rfl (lv_at hl 1 rfl) ?_
        refine hg_19_8 hx hb hts in_y_X8_copyFrom__R__a19_X8 hown hK hP (hts _ (List.mem_cons_of_mem _ (List.mem_append_left _ (List.mem_append_left _ (List.mem_of_getElem? (i := 8) rfl))))) dX8_copyFrom_66 ?_
        obtain ⟨q3, h⟩ := kb_ite1 h
        refine hp_R_8 ((L.2.2.2 0)) q3 hx hb hts in_y_X8_copyFrom__R__a19_X8 hown hK hP hD hS (hts _ (List.mem_cons_of_mem _ (List.mem_append_left _ (List.mem_append_left _ (List.mem_of_getElem? (i := 8) rfl))))) dX8_copyFrom_69 (fun H locs hP hD hS => ?_)
        exact ih.2.2.2.1 L (uI (uI (uI σ (100 * (28 + ((L.2.2.2 0))) + 6) ((σ.1 1906))) (100 * (28 + ((L.2.2.2 0))) + 7) (((uI σ (100 * (28 + ((L.2.2.2 0))) + 6) ((σ.1 1906))).1 1907))) (100 * (28 + ((L.2.2.2 0))) + 8) (((uI (uI σ (100 * (28 + ((L.2.2.2 0))) + 6) ((σ.1 1906))) (100 * (28 + ((L.2.2.2 0))) + 7) (((uI σ (100 * (28 + ((L.2.2.2 0))) + 6) ((σ.1 1906))).1 1907))).1 1908))) r h H locs ls hP hD hS (lv_sub hl [0, 1] rfl)
      · intro L σ r h H locs ls hP hD hS hl
        rw [y_X8_copyFrom__R__a19] at h
        refine lv_aload_n hx hb dX8_copyFrom_72 rfl (lv_at hl 0 rfl) ?_
        refine lv_aload_n hx hb dX8_copyFrom_73 rfl (lv_at hl 1 rfl) ?_
        refine hg_19_9 hx hb hts in_y_X8_copyFrom__R__a19_X8 hown hK hP (hts _ (List.mem_cons_of_mem _ (List.mem_append_left _ (List.mem_append_left _ (List.mem_of_getElem? (i := 9) rfl))))) dX8_copyFrom_74 ?_
        obtain ⟨q1, h⟩ := kb_ite1 h
        refine hp_R_9 ((L.2.2.2 0)) q1 hx hb hts in_y_X8_copyFrom__R__a19_X8 hown hK hP hD hS (hts _ (List.mem_cons_of_mem _ (List.mem_append_left _ (List.mem_append_left _ (List.mem_of_getElem? (i := 9) rfl))))) dX8_copyFrom_77 (fun H locs hP hD hS => ?_)
        refine lv_aload_n hx hb dX8_copyFrom_80 rfl (lv_at hl 0 rfl) ?_
        refine lv_aload_n hx hb dX8_copyFrom_81 rfl (lv_at hl 1 rfl) ?_
        refine hg_19_10 hx hb hts in_y_X8_copyFrom__R__a19_X8 hown hK hP (hts _ (List.mem_cons_of_mem _ (List.mem_append_left _ (List.mem_append_left _ (List.mem_of_getElem? (i := 10) rfl))))) dX8_copyFrom_82 ?_
        obtain ⟨q2, h⟩ := kb_ite1 h
        refine hp_R_10 ((L.2.2.2 0)) q2 hx hb hts in_y_X8_copyFrom__R__a19_X8 hown hK hP hD hS (hts _ (List.mem_cons_of_mem _ (List.mem_append_left _ (List.mem_append_left _ (List.mem_of_getElem? (i := 10) rfl))))) dX8_copyFrom_85 (fun H locs hP hD hS => ?_)
        refine lv_aload_n hx hb dX8_copyFrom_88 rfl (lv_at hl 0 rfl) ?_
        refine lv_aload_n hx hb dX8_copyFrom_89 rfl (lv_at hl 1 rfl) ?_
        refine hg_19_11 hx hb hts in_y_X8_copyFrom__R__a19_X8 hown hK hP (hts _ (List.mem_cons_of_mem _ (List.mem_append_left _ (List.mem_append_left _ (List.mem_of_getElem? (i := 11) rfl))))) dX8_copyFrom_90 ?_
        obtain ⟨q3, h⟩ := kb_ite1 h
        refine hp_R_11 ((L.2.2.2 0)) q3 hx hb hts in_y_X8_copyFrom__R__a19_X8 hown hK hP hD hS (hts _ (List.mem_cons_of_mem _ (List.mem_append_left _ (List.mem_append_left _ (List.mem_of_getElem? (i := 11) rfl))))) dX8_copyFrom_93 (fun H locs hP hD hS => ?_)
        exact ih.2.2.2.2.1 L (uI (uI (uI σ (100 * (28 + ((L.2.2.2 0))) + 9) ((σ.1 1909))) (100 * (28 + ((L.2.2.2 0))) + 10) (((uI σ (100 * (28 + ((L.2.2.2 0))) + 9) ((σ.1 1909))).1 1910))) (100 * (28 + ((L.2.2.2 0))) + 11) (((uI (uI σ (100 * (28 + ((L.2.2.2 0))) + 9) ((σ.1 1909))) (100 * (28 + ((L.2.2.2 0))) + 10) (((uI σ (100 * (28 + ((L.2.2.2 0))) + 9) ((σ.1 1909))).1 1910))).1 1911))) r h H locs ls hP hD hS (lv_sub hl [0, 1] rfl)
      · intro L σ r h H locs ls hP hD hS hl
        rw [y_X8_copyFrom__R__a19] at h
        refine lv_aload_n hx hb dX8_copyFrom_96 rfl (lv_at hl 0 rfl) ?_
        refine lv_aload_n hx hb dX8_copyFrom_97 rfl (lv_at hl 1 rfl) ?_
        refine hg_19_12 hx hb hts in_y_X8_copyFrom__R__a19_X8 hown hK hP (hts _ (List.mem_cons_of_mem _ (List.mem_append_left _ (List.mem_append_left _ (List.mem_of_getElem? (i := 12) rfl))))) dX8_copyFrom_98 ?_
        obtain ⟨q1, h⟩ := kb_ite1 h
        refine hp_R_12 ((L.2.2.2 0)) q1 hx hb hts in_y_X8_copyFrom__R__a19_X8 hown hK hP hD hS (hts _ (List.mem_cons_of_mem _ (List.mem_append_left _ (List.mem_append_left _ (List.mem_of_getElem? (i := 12) rfl))))) dX8_copyFrom_101 (fun H locs hP hD hS => ?_)
        refine lv_aload_n hx hb dX8_copyFrom_104 rfl (lv_at hl 0 rfl) ?_
        refine lv_aload_n hx hb dX8_copyFrom_105 rfl (lv_at hl 1 rfl) ?_
        refine hg_19_13 hx hb hts in_y_X8_copyFrom__R__a19_X8 hown hK hP (hts _ (List.mem_cons_of_mem _ (List.mem_append_left _ (List.mem_append_left _ (List.mem_of_getElem? (i := 13) rfl))))) dX8_copyFrom_106 ?_
        obtain ⟨q2, h⟩ := kb_ite1 h
        refine hp_R_13 ((L.2.2.2 0)) q2 hx hb hts in_y_X8_copyFrom__R__a19_X8 hown hK hP hD hS (hts _ (List.mem_cons_of_mem _ (List.mem_append_left _ (List.mem_append_left _ (List.mem_of_getElem? (i := 13) rfl))))) dX8_copyFrom_109 (fun H locs hP hD hS => ?_)
        refine lv_aload_n hx hb dX8_copyFrom_112 rfl (lv_at hl 0 rfl) ?_
        refine lv_aload_n hx hb dX8_copyFrom_113 rfl (lv_at hl 1 rfl) ?_
        refine hg_19_14 hx hb hts in_y_X8_copyFrom__R__a19_X8 hown hK hP (hts _ (List.mem_cons_of_mem _ (List.mem_append_left _ (List.mem_append_left _ (List.mem_of_getElem? (i := 14) rfl))))) dX8_copyFrom_114 ?_
        obtain ⟨q3, h⟩ := kb_ite1 h
        refine hp_R_14 ((L.2.2.2 0)) q3 hx hb hts in_y_X8_copyFrom__R__a19_X8 hown hK hP hD hS (hts _ (List.mem_cons_of_mem _ (List.mem_append_left _ (List.mem_append_left _ (List.mem_of_getElem? (i := 14) rfl))))) dX8_copyFrom_117 (fun H locs hP hD hS => ?_)
        exact ih.2.2.2.2.2 L (uI (uI (uI σ (100 * (28 + ((L.2.2.2 0))) + 12) ((σ.1 1912))) (100 * (28 + ((L.2.2.2 0))) + 13) (((uI σ (100 * (28 + ((L.2.2.2 0))) + 12) ((σ.1 1912))).1 1913))) (100 * (28 + ((L.2.2.2 0))) + 14) (((uI (uI σ (100 * (28 + ((L.2.2.2 0))) + 12) ((σ.1 1912))) (100 * (28 + ((L.2.2.2 0))) + 13) (((uI σ (100 * (28 + ((L.2.2.2 0))) + 12) ((σ.1 1912))).1 1913))).1 1914))) r h H locs ls hP hD hS (lv_sub hl [0, 1] rfl)
      · intro L σ r h H locs ls hP hD hS hl
        rw [y_X8_copyFrom__R__a19] at h
        refine lv_aload_n hx hb dX8_copyFrom_120 rfl (lv_at hl 0 rfl) ?_
        refine lv_aload_n hx hb dX8_copyFrom_121 rfl (lv_at hl 1 rfl) ?_
        refine hg_19_15 hx hb hts in_y_X8_copyFrom__R__a19_X8 hown hK hP (hts _ (List.mem_cons_of_mem _ (List.mem_append_left _ (List.mem_append_left _ (List.mem_of_getElem? (i := 15) rfl))))) dX8_copyFrom_122 ?_
        obtain ⟨q1, h⟩ := kb_ite1 h
        refine hp_R_15 ((L.2.2.2 0)) q1 hx hb hts in_y_X8_copyFrom__R__a19_X8 hown hK hP hD hS (hts _ (List.mem_cons_of_mem _ (List.mem_append_left _ (List.mem_append_left _ (List.mem_of_getElem? (i := 15) rfl))))) dX8_copyFrom_125 (fun H locs hP hD hS => ?_)
        refine lv_aload_n hx hb dX8_copyFrom_128 rfl (lv_at hl 0 rfl) ?_
        refine lv_aload_n hx hb dX8_copyFrom_129 rfl (lv_at hl 1 rfl) ?_
        refine hg_19_16 hx hb hts in_y_X8_copyFrom__R__a19_X8 hown hK hP (hts _ (List.mem_cons_of_mem _ (List.mem_append_left _ (List.mem_append_left _ (List.mem_of_getElem? (i := 16) rfl))))) dX8_copyFrom_130 ?_
        obtain ⟨q2, h⟩ := kb_ite1 h
        refine hp_R_16 ((L.2.2.2 0)) q2 hx hb hts in_y_X8_copyFrom__R__a19_X8 hown hK hP hD hS (hts _ (List.mem_cons_of_mem _ (List.mem_append_left _ (List.mem_append_left _ (List.mem_of_getElem? (i := 16) rfl))))) dX8_copyFrom_133 (fun H locs hP hD hS => ?_)
        obtain rfl := Option.some.inj h
        exact W.vret hx hb hr (fun t ht hW => ⟨⟨(), rfl, trivial, by rw [ht]; exact hP, va_K.moved hW.alike hK, hD⟩, hS.F ht⟩) hS.2.2 dX8_copyFrom_136
  exact (blk k0).1 L0 σ0 r0 h0 s.heap [] ls hP hD hS hl
/-! X9_store__a19__z20__z21 -/
def f_X9_store__a19__z20__z21 : Nat → Nat → LV → CS → Option RS
  | 0, _, _, _ => none
  | k + 1, 0, L, σ => if ¬ (20000 : Int32) < 0 ∧ (20000 : Int32).toNatClampNeg < 134217728 ∧ (sN σ 26) < 2147483648 then (if nI (sN σ 26) < ((((((σ.1 2403)) + ((σ.1 1902)))) + ((σ.1 1913)))) ∧ (sN σ 26) < (20000 : Int32).toNatClampNeg then (adR (1, (20000 : Int32).toNatClampNeg) (f_X9_store__a19__z20__z21 k 1 L (uZ σ 26 (20000 : Int32).toNatClampNeg))) else (f_X9_store__a19__z20__z21 k 1 L σ)) else none
  | k + 1, 1, L, σ => if ¬ (((L.1 1)) < 0 ∨ 9 ≤ ((L.1 1)).toNatClampNeg) then (f_X9_store__a19__z20__z21 k 2 L (uA σ 27 ((L.1 1)).toNatClampNeg ((σ.1 2403)))) else none
  | k + 1, 2, L, σ => if ¬ (((L.1 1)) < 0 ∨ 9 ≤ ((L.1 1)).toNatClampNeg) then (if ((sPi σ ((L.1 1)).toNatClampNeg)) < 9 then (op (y_X8_copyFrom__R__a19 k 0 (lM lZ 0 ((sPi σ ((L.1 1)).toNatClampNeg))) σ) (fun r2 => if ¬ (0 : Int32) < 0 ∧ ¬ ((r2.2.1 2403)) < 0 ∧ ¬ ((r2.2.1 1902)) < 0 ∧ (0 : Int32).toNatClampNeg + ((r2.2.1 1902)).toNatClampNeg ≤ (sN r2.2 20) ∧ ((r2.2.1 2403)).toNatClampNeg + ((r2.2.1 1902)).toNatClampNeg ≤ (sN r2.2 26) then (f_X9_store__a19__z20__z21 k 3 L (uF r2.2 26 (va_cpy (r2.2.2.2.1 20) (r2.2.2.2.1 26) (0 : Int32).toNatClampNeg ((r2.2.1 2403)).toNatClampNeg ((r2.2.1 1902)).toNatClampNeg))) else none)) else none) else none
  | k + 1, 3, L, σ => if ¬ (0 : Int32) < 0 ∧ ¬ ((((σ.1 2403)) + ((σ.1 1902)))) < 0 ∧ ¬ ((σ.1 1913)) < 0 ∧ (0 : Int32).toNatClampNeg + ((σ.1 1913)).toNatClampNeg ≤ (sN σ 21) ∧ ((((σ.1 2403)) + ((σ.1 1902)))).toNatClampNeg + ((σ.1 1913)).toNatClampNeg ≤ (sN σ 26) then (f_X9_store__a19__z20__z21 k 4 L (uF σ 26 (va_cpy (σ.2.2.1 21) (σ.2.2.1 26) (0 : Int32).toNatClampNeg ((((σ.1 2403)) + ((σ.1 1902)))).toNatClampNeg ((σ.1 1913)).toNatClampNeg))) else none
  | k + 1, 4, L, σ => some ((0, 0), σ, (0, 0))
  | _ + 1, _ + 5, _, _ => none
def o_f_X9_store__a19__z20__z21 : List Cond := [.fieldLink RX9 17 "SetHouse$Saves" "row" "[I", .fieldLink RX9 38 "SetHouse$Saves" "filled" "I", .initialized RX11, .static yX11_widened, .fieldLink RX9 21 "SetHouse$Saves" "starts" "[I", .fieldLink RX9 13 "SetHouse$Saves" "runs" "[LSetHouse$Run;", .methodLink RX9 85 yX8_copyFrom, .instanceMethod yX8_copyFrom, .selects RX8 yX8_copyFrom yX8_copyFrom, .initialized RX8, .methodLink RX9 89 arraycopyName, .native arraycopyName, .static arraycopyName, .initialized "java/lang/System"]
theorem o_f_X9_store__a19__z20__z21_good : o_f_X9_store__a19__z20__z21.all goodWord = true := by decide +kernel
def p_f_X9_store__a19__z20__z21 : List Cond := o_f_X9_store__a19__z20__z21 ++ ((.code yX11_widened cX11_widened 3 (some (.array .int)) :: p_f_X11_widened) ++ ((.code yX8_copyFrom cX8_copyFrom 2 none :: p_y_X8_copyFrom__R__a19) ++ []))
theorem p_f_X9_store__a19__z20__z21_good : p_f_X9_store__a19__z20__z21.all goodWord = true := nb_all2 o_f_X9_store__a19__z20__z21_good (nb_all2 (nb_allc (by decide +kernel) p_f_X11_widened_good) (nb_all2 (nb_allc (by decide +kernel) p_y_X8_copyFrom__R__a19_good) rfl))
def w_f_X9_store__a19__z20__z21 : List Cond := .code yX9_store cX9_store 5 none :: (p_f_X9_store__a19__z20__z21 ++ fC)
theorem w_f_X9_store__a19__z20__z21_good : w_f_X9_store__a19__z20__z21.all goodWord = true := nb_allc (by decide +kernel) (nb_all2 p_f_X9_store__a19__z20__z21_good fC_good)
theorem in_f_X9_store__a19__z20__z21_X8 : ∀ w ∈ wsX80, w ∈ w_f_X9_store__a19__z20__z21 := fun _ h => List.mem_cons_of_mem _ (List.mem_append_right _ (List.mem_append_right _ (List.mem_append_right _ (List.mem_append_right _ (List.mem_append_right _ (List.mem_append_right _ (List.mem_append_right _ (List.mem_append_right _ (List.mem_append_left _ h)))))))))
theorem in_f_X9_store__a19__z20__z21_X9 : ∀ w ∈ wsX90, w ∈ w_f_X9_store__a19__z20__z21 := fun _ h => List.mem_cons_of_mem _ (List.mem_append_right _ (List.mem_append_right _ (List.mem_append_right _ (List.mem_append_right _ (List.mem_append_right _ (List.mem_append_right _ (List.mem_append_right _ (List.mem_append_right _ (List.mem_append_right _ (List.mem_append_left _ h))))))))))
theorem hd_f_X9_store__a19__z20__z21 : yX9_store.cls = RX9 ∧ yX9_store.cls ≠ "java/lang/invoke/MethodHandle" ∧ yX9_store.cls ≠ "java/lang/invoke/VarHandle" ∧ (parseMethodDescriptor yX9_store.desc).map (fun d => d.parameters.length) = some 4 := by decide +kernel
theorem gg_f_X9_store__a19__z20__z21_X11_widened : GoodIn w_f_X9_store__a19__z20__z21 w_f_X11_widened := goodIn_sub (fun w h => (List.mem_cons.mp h).elim (fun e => (List.mem_cons_of_mem _ (List.mem_append_left _ (List.mem_append_right _ (List.mem_append_left _ (List.mem_cons.mpr (Or.inl e))))))) (fun h => (List.mem_append.mp h).elim (fun h => (List.mem_cons_of_mem _ (List.mem_append_left _ (List.mem_append_right _ (List.mem_append_left _ (List.mem_cons_of_mem _ h)))))) (fun h => List.mem_cons_of_mem _ (List.mem_append_right _ h)))) w_f_X11_widened_good
theorem g_f_X9_store__a19__z20__z21_X11_widened_SN81 : GoodIn w_f_X9_store__a19__z20__z21 w_f_X11_widened := gg_f_X9_store__a19__z20__z21_X11_widened
theorem gg_f_X9_store__a19__z20__z21_X8_copyFrom__R__a19 : GoodIn w_f_X9_store__a19__z20__z21 w_y_X8_copyFrom__R__a19 := goodIn_sub (fun w h => (List.mem_cons.mp h).elim (fun e => (List.mem_cons_of_mem _ (List.mem_append_left _ (List.mem_append_right _ (List.mem_append_right _ (List.mem_append_left _ (List.mem_cons.mpr (Or.inl e)))))))) (fun h => (List.mem_append.mp h).elim (fun h => (List.mem_cons_of_mem _ (List.mem_append_left _ (List.mem_append_right _ (List.mem_append_right _ (List.mem_append_left _ (List.mem_cons_of_mem _ h))))))) (fun h => List.mem_cons_of_mem _ (List.mem_append_right _ h)))) w_y_X8_copyFrom__R__a19_good
theorem g_y_X9_store__a19__z20__z21_X8_copyFrom__R__a19_V85 : GoodIn w_f_X9_store__a19__z20__z21 (wsV RX9 85 RX8 yX8_copyFrom w_y_X8_copyFrom__R__a19) := goodIn_app (nb_g4 (List.mem_cons_of_mem _ (List.mem_append_left _ (List.mem_append_left _ (List.mem_of_getElem? (i := 6) rfl)))) (List.mem_cons_of_mem _ (List.mem_append_left _ (List.mem_append_left _ (List.mem_of_getElem? (i := 7) rfl)))) (List.mem_cons_of_mem _ (List.mem_append_left _ (List.mem_append_left _ (List.mem_of_getElem? (i := 8) rfl)))) (List.mem_cons_of_mem _ (List.mem_append_left _ (List.mem_append_left _ (List.mem_of_getElem? (i := 9) rfl)))) (by decide +kernel)) gg_f_X9_store__a19__z20__z21_X8_copyFrom__R__a19
set_option maxHeartbeats 40000000 in
set_option maxRecDepth 100000 in
theorem c_f_X9_store__a19__z20__z21 (l : Launch) (hl0 : l.stackTraces = false) (dC : Nat → ClassId) (dI : Nat → Nat → Nat) (cy : Nat → ClassId) (ek a : Nat → Nat) (k0 : Nat) (L0 : LV) (σ0 : CS) (r0 : RS) (h0 : f_X9_store__a19__z20__z21 k0 0 L0 σ0 = some r0) (z : Nat → Nat) (sz : Nat) : vx_Met l yX9_store w_f_X9_store__a19__z20__z21 ({ frames := 3, cells := r0.2.2.1, slots := r0.2.2.2, locals := 114 }) (va_Pc [.ref (a 24), .int (L0.1 1), .ref (a 19), .ref (z 20), .ref (z 21)] (nInF (dC, dI) cy ek sz (vC cy a z σ0))) (xV dC dI cy a (va_A (vC cy a z σ0) sz) [26] z r0) (xX dC dI cy a (va_A (vC cy a z σ0) sz) [26] z r0) r0.2.2.1 r0.2.2.2 (va_A (vC cy a z σ0) sz) := by
  refine vx_ofW (cc := cX9_store) (maxL := 5) (ret := none) (by decide) rfl ?_
  intro p e s m args below meth c s₁ B hml hno hv
  obtain ⟨rfl, ⟨⟨hsz, hP, hK, hD0, hG⟩, hE⟩, hT⟩ := hv
  have hx := B.exec
  have hb := B.bytes
  have hr := B.returns
  have hts := atoms_spec (ws := w_f_X9_store__a19__z20__z21) B.pre
  have hown : s.vm.findClass RX9 = some m.cls := findClass_of_methodNamed B.named
  have hlocks := B.notSynchronized
  subst hsz
  have hD := hD0.self (sz := s.heap.size)
  generalize hAe : va_A (vC cy a z σ0) s.heap.size = A at hD hE hT ⊢
  have hA : ∀ q : Nat, s.heap.size ≤ q → A q := fun q h => by rw [← hAe]; exact Or.inr h
  have hS : va_S A s.heap s.heap [] := va_S.rf
  have hl := lv_entry ([.ref (a 24), .int (L0.1 1), .ref (a 19), .ref (z 20), .ref (z 21)]) (n := 5) (Nat.le_of_ble_eq_true rfl)
  rw [lg_entry_eq]
  generalize (lg_sl ([.ref (a 24), .int (L0.1 1), .ref (a 19), .ref (z 20), .ref (z 21)]) ++ List.replicate (5 - (lg_sl ([.ref (a 24), .int (L0.1 1), .ref (a 19), .ref (z 20), .ref (z 21)])).length) Slot.unset).toArray = ls at hl ⊢
  have hl : lv_has ls 5 [(0, .ref (a 24)), (1, .int (L0.1 1)), (2, .ref (a 19)), (3, .ref (z 20)), (4, .ref (z 21))] := hl
  generalize hmc : r0.2.2.1 = mc
  generalize hms : r0.2.2.2 = ms
  have blk : ∀ k : Nat, (bX p l e (headSpec w_f_X9_store__a19__z20__z21 ({ frames := 3, cells := mc, slots := ms, locals := 114 })).room s m #[.ref (a 24), .int (L0.1 1), .ref (a 19), .ref (z 20), .ref (z 21)] below meth c dC dI cy a A (fun r => vx_MQ below (xV dC dI cy a A [26] z r) (xX dC dI cy a A [26] z r) #[.ref (a 24), .int (L0.1 1), .ref (a 19), .ref (z 20), .ref (z 21)] s mc ms A) [26] z mc ms 5 (f_X9_store__a19__z20__z21 k 0) (fun z L => [(0, .ref (a 24)), (1, .int (L.1 1)), (2, .ref (a 19)), (3, .ref (z 20)), (4, .ref (z 21))]) 0 (fun z L => [])) ∧ (bX p l e (headSpec w_f_X9_store__a19__z20__z21 ({ frames := 3, cells := mc, slots := ms, locals := 114 })).room s m #[.ref (a 24), .int (L0.1 1), .ref (a 19), .ref (z 20), .ref (z 21)] below meth c dC dI cy a A (fun r => vx_MQ below (xV dC dI cy a A [26] z r) (xX dC dI cy a A [26] z r) #[.ref (a 24), .int (L0.1 1), .ref (a 19), .ref (z 20), .ref (z 21)] s mc ms A) [26] z mc ms 5 (f_X9_store__a19__z20__z21 k 1) (fun z L => [(0, .ref (a 24)), (1, .int (L.1 1)), (2, .ref (a 19)), (3, .ref (z 20)), (4, .ref (z 21))]) 28 (fun z L => [])) ∧ (bX p l e (headSpec w_f_X9_store__a19__z20__z21 ({ frames := 3, cells := mc, slots := ms, locals := 114 })).room s m #[.ref (a 24), .int (L0.1 1), .ref (a 19), .ref (z 20), .ref (z 21)] below meth c dC dI cy a A (fun r => vx_MQ below (xV dC dI cy a A [26] z r) (xX dC dI cy a A [26] z r) #[.ref (a 24), .int (L0.1 1), .ref (a 19), .ref (z 20), .ref (z 21)] s mc ms A) [26] z mc ms 5 (f_X9_store__a19__z20__z21 k 2) (fun z L => [(0, .ref (a 24)), (1, .int (L.1 1)), (2, .ref (a 19)), (3, .ref (z 20)), (4, .ref (z 21))]) 38 (fun z L => [])) ∧ (bX p l e (headSpec w_f_X9_store__a19__z20__z21 ({ frames := 3, cells := mc, slots := ms, locals := 114 })).room s m #[.ref (a 24), .int (L0.1 1), .ref (a 19), .ref (z 20), .ref (z 21)] below meth c dC dI cy a A (fun r => vx_MQ below (xV dC dI cy a A [26] z r) (xX dC dI cy a A [26] z r) #[.ref (a 24), .int (L0.1 1), .ref (a 19), .ref (z 20), .ref (z 21)] s mc ms A) [26] z mc ms 5 (f_X9_store__a19__z20__z21 k 3) (fun z L => [(0, .ref (a 24)), (2, .ref (a 19)), (4, .ref (z 21))]) 65 (fun z L => [])) ∧ (bX p l e (headSpec w_f_X9_store__a19__z20__z21 ({ frames := 3, cells := mc, slots := ms, locals := 114 })).room s m #[.ref (a 24), .int (L0.1 1), .ref (a 19), .ref (z 20), .ref (z 21)] below meth c dC dI cy a A (fun r => vx_MQ below (xV dC dI cy a A [26] z r) (xX dC dI cy a A [26] z r) #[.ref (a 24), .int (L0.1 1), .ref (a 19), .ref (z 20), .ref (z 21)] s mc ms A) [26] z mc ms 5 (f_X9_store__a19__z20__z21 k 4) (fun z L => []) 88 (fun z L => [])) := by
    intro k
    induction k with
    | zero => exact ⟨fun z c1 c2 L σ r h => (by cases h), fun z c1 c2 L σ r h => (by cases h), fun z c1 c2 L σ r h => (by cases h), fun z c1 c2 L σ r h => (by cases h), fun z c1 c2 L σ r h => (by cases h)⟩
    | succ k ih =>
      refine ⟨?_, ?_, ?_, ?_, ?_⟩
      · intro z cells slots L σ r h hzk hc hs H locs ls hP hD hS hl
        rw [f_X9_store__a19__z20__z21] at h
        refine lv_aload_n hx hb dX9_store_0 rfl (lv_at hl 0 rfl) ?_
        refine lv_aload_n hx hb dX9_store_1 rfl (lv_at hl 0 rfl) ?_
        refine hg_24_1 hx hb hts in_f_X9_store__a19__z20__z21_X9 hown hK hP (hts _ (List.mem_cons_of_mem _ (List.mem_append_left _ (List.mem_append_left _ (List.mem_of_getElem? (i := 0) rfl))))) dX9_store_2 ?_
        refine lv_aload_n hx hb dX9_store_5 rfl (lv_at hl 0 rfl) ?_
        refine hg_24_3 hx hb hts in_f_X9_store__a19__z20__z21_X9 hown hK hP (hts _ (List.mem_cons_of_mem _ (List.mem_append_left _ (List.mem_append_left _ (List.mem_of_getElem? (i := 1) rfl))))) dX9_store_6 ?_
        refine lv_aload_n hx hb dX9_store_9 rfl (lv_at hl 2 rfl) ?_
        refine hg_19_2n hx hb hts in_f_X9_store__a19__z20__z21_X8 hown hK hP (va_Nw.use rfl (hG.1 _ (List.mem_of_getElem? (i := 11) rfl))) dX9_store_10 ?_
        refine lv_iadd hx hb dX9_store_13 ?_
        refine lv_aload_n hx hb dX9_store_14 rfl (lv_at hl 2 rfl) ?_
        refine hg_19_13n hx hb hts in_f_X9_store__a19__z20__z21_X8 hown hK hP (va_Nw.use rfl (hG.1 _ (List.mem_of_getElem? (i := 35) rfl))) dX9_store_15 ?_
        refine lv_iadd hx hb dX9_store_18 ?_
        refine lv_sipush (v := 20000) hx hb dX9_store_19 (by decide) ?_
        obtain ⟨q1, h⟩ := kr_ite1 h
        by_cases q2 : nI (sN σ 26) < ((((((σ.1 2403)) + ((σ.1 1902)))) + ((σ.1 1913)))) ∧ (sN σ 26) < (20000 : Int32).toNatClampNeg
        · rw [if_pos q2] at h
          obtain ⟨y3, hny3, hy⟩ := adR_ex h
          subst hy
          have h := hny3
          refine hw_26_new ⟨hx, hb, hml, hown, hts⟩ ⟨va_cnB 3 hts g_f_X9_store__a19__z20__z21_X11_widened_SN81 rfl rfl rfl (hG.1 _ (List.mem_of_getElem? (i := 100) rfl)) (hts _ (List.mem_cons_of_mem _ (List.mem_append_left _ (List.mem_append_left _ (List.mem_of_getElem? (i := 2) rfl))))) (by decide +kernel) ⟨Nat.le_of_ble_eq_true rfl, Nat.le_of_ble_eq_true rfl⟩, (hts _ (List.mem_cons_of_mem _ (List.mem_append_left _ (List.mem_append_left _ (List.mem_of_getElem? (i := 3) rfl))))), trivial⟩ in_f_X9_store__a19__z20__z21_X9 hK hG hA hP hD hS q1 q2 hl.1 (Nat.le_of_ble_eq_true rfl) dX9_store_22 (hts _ (List.mem_cons_of_mem _ (List.mem_append_left _ (List.mem_append_left _ (List.mem_of_getElem? (i := 0) rfl))))) dX9_store_25 (Nat.le_trans (Nat.add_le_add_left (Nat.le_add_right _ _) _) (Nat.le_of_eq hc)) (Nat.le_trans (Nat.add_le_add_left (Nat.le_add_right _ _) _) (Nat.le_of_eq hs)) (fun z H locs hz3 hP hD hS => ?_)
          have hzk := zk_tr hzk hz3 (by decide)
          try dsimp only at hl
          rw [← hz3 20 (by decide)] at hl
          rw [← hz3 21 (by decide)] at hl
          replace hc := (Nat.add_assoc _ _ _).trans hc
          replace hs := (Nat.add_assoc _ _ _).trans hs
          exact ih.2.1 z _ _ L (uZ σ 26 (20000 : Int32).toNatClampNeg) _ h hzk hc hs H locs ls hP hD hS (lv_sub hl [0, 1, 2, 3, 4] rfl)
        · rw [if_neg q2] at h
          refine hw_26_same ⟨hx, hb, hml, hown, hts⟩ ⟨va_cnB 3 hts g_f_X9_store__a19__z20__z21_X11_widened_SN81 rfl rfl rfl (hG.1 _ (List.mem_of_getElem? (i := 100) rfl)) (hts _ (List.mem_cons_of_mem _ (List.mem_append_left _ (List.mem_append_left _ (List.mem_of_getElem? (i := 2) rfl))))) (by decide +kernel) ⟨Nat.le_of_ble_eq_true rfl, Nat.le_of_ble_eq_true rfl⟩, (hts _ (List.mem_cons_of_mem _ (List.mem_append_left _ (List.mem_append_left _ (List.mem_of_getElem? (i := 3) rfl))))), trivial⟩ in_f_X9_store__a19__z20__z21_X9 hK hG hA hP hD hS q1 q2 hl.1 (Nat.le_of_ble_eq_true rfl) dX9_store_22 (hts _ (List.mem_cons_of_mem _ (List.mem_append_left _ (List.mem_append_left _ (List.mem_of_getElem? (i := 0) rfl))))) dX9_store_25 (Nat.le_trans (Nat.le_add_right _ _) (Nat.le_of_eq hc)) (Nat.le_trans (Nat.le_add_right _ _) (Nat.le_of_eq hs)) (fun H locs hP hD hS => ?_)
          exact ih.2.1 z _ _ L σ _ h hzk hc hs H locs ls hP hD hS (lv_sub hl [0, 1, 2, 3, 4] rfl)
      · intro z cells slots L σ r h hzk hc hs H locs ls hP hD hS hl
        rw [f_X9_store__a19__z20__z21] at h
        refine lv_aload_n hx hb dX9_store_28 rfl (lv_at hl 0 rfl) ?_
        refine hg_24_2 hx hb hts in_f_X9_store__a19__z20__z21_X9 hown hK hP (hts _ (List.mem_cons_of_mem _ (List.mem_append_left _ (List.mem_append_left _ (List.mem_of_getElem? (i := 4) rfl))))) dX9_store_29 ?_
        refine lv_iload_n hx hb dX9_store_32 rfl (lv_at hl 1 rfl) ?_
        refine lv_aload_n hx hb dX9_store_33 rfl (lv_at hl 0 rfl) ?_
        refine hg_24_3 hx hb hts in_f_X9_store__a19__z20__z21_X9 hown hK hP (hts _ (List.mem_cons_of_mem _ (List.mem_append_left _ (List.mem_append_left _ (List.mem_of_getElem? (i := 1) rfl))))) dX9_store_34 ?_
        obtain ⟨q1, h⟩ := kr_ite1 h
        refine hs_27 hx hb hK hP hD hS q1 dX9_store_37 (fun H locs hP hD hS => ?_)
        exact ih.2.2.1 z _ _ L (uA σ 27 ((L.1 1)).toNatClampNeg ((σ.1 2403))) _ h hzk hc hs H locs ls hP hD hS (lv_sub hl [0, 1, 2, 3, 4] rfl)
      · intro z cells slots L σ r h hzk hc hs H locs ls hP hD hS hl
        rw [f_X9_store__a19__z20__z21] at h
        refine lv_aload_n hx hb dX9_store_38 rfl (lv_at hl 0 rfl) ?_
        refine hg_24_0 hx hb hts in_f_X9_store__a19__z20__z21_X9 hown hK hP (hts _ (List.mem_cons_of_mem _ (List.mem_append_left _ (List.mem_append_left _ (List.mem_of_getElem? (i := 5) rfl))))) dX9_store_39 ?_
        refine lv_iload_n hx hb dX9_store_42 rfl (lv_at hl 1 rfl) ?_
        obtain ⟨q1, h⟩ := kr_ite1 h
        refine hl_25 hx hb hK hP q1 dX9_store_43 ?_
        refine lv_aload_n hx hb dX9_store_44 rfl (lv_at hl 2 rfl) ?_
        obtain ⟨q3, h⟩ := kr_ite1 h
        obtain ⟨r2, hc2, h⟩ := op_ex h
        refine kc_v (va_runV (As := [.ref (a 19)]) (rest := []) ⟨hx, hb, hml, hown, hts⟩ (c_y_X8_copyFrom__R__a19 l dC dI cy a z k (lM lZ 0 ((sPi σ ((L.1 1)).toNatClampNeg))) σ r2 hc2 H.size) (cwV 1 hts g_y_X9_store__a19__z20__z21_X8_copyFrom__R__a19_V85 rfl rfl rfl hd_y_X8_copyFrom__R__a19 ⟨Nat.le_of_ble_eq_true rfl, Nat.le_of_ble_eq_true rfl⟩) ⟨nb_blind, recvR ((sPi σ ((L.1 1)).toNatClampNeg)) q3 hK hP, (kb_pre hK hG hP hD)⟩ rfl rfl hl.1 rfl (lv_room (Nat.le_of_ble_eq_true rfl)) dX9_store_45 ⟨(Nat.le_trans (Nat.le_add_right _ _) (Nat.le_of_eq hc)), (Nat.le_trans (Nat.le_add_right _ _) (Nat.le_of_eq hs))⟩) hA hP hD hS (fun H locs hP hD hS => ?_)
        refine lv_aload_n hx hb dX9_store_48 rfl (lv_at hl 3 rfl) ?_
        refine lv_iconst (v := 0) hx hb dX9_store_49 (by decide) ?_
        refine lv_aload_n hx hb dX9_store_50 rfl (lv_at hl 0 rfl) ?_
        refine hg_24_1 hx hb hts in_f_X9_store__a19__z20__z21_X9 hown hK hP (hts _ (List.mem_cons_of_mem _ (List.mem_append_left _ (List.mem_append_left _ (List.mem_of_getElem? (i := 0) rfl))))) dX9_store_51 ?_
        refine lv_aload_n hx hb dX9_store_54 rfl (lv_at hl 0 rfl) ?_
        refine hg_24_3 hx hb hts in_f_X9_store__a19__z20__z21_X9 hown hK hP (hts _ (List.mem_cons_of_mem _ (List.mem_append_left _ (List.mem_append_left _ (List.mem_of_getElem? (i := 1) rfl))))) dX9_store_55 ?_
        refine lv_aload_n hx hb dX9_store_58 rfl (lv_at hl 2 rfl) ?_
        refine hg_19_2n hx hb hts in_f_X9_store__a19__z20__z21_X8 hown hK hP (va_Nw.use rfl (hG.1 _ (List.mem_of_getElem? (i := 11) rfl))) dX9_store_59 ?_
        obtain ⟨q4, h⟩ := kr_ite1 h
        refine va_copyi (ty := .int) hx hb (hml.trans hl.1.symm) hown (hts _ (List.mem_cons_of_mem _ (List.mem_append_left _ (List.mem_append_left _ (List.mem_of_getElem? (i := 10) rfl))))) (hts _ (List.mem_cons_of_mem _ (List.mem_append_left _ (List.mem_append_left _ (List.mem_of_getElem? (i := 11) rfl))))) (hts _ (List.mem_cons_of_mem _ (List.mem_append_left _ (List.mem_append_left _ (List.mem_of_getElem? (i := 12) rfl))))) (hts _ (List.mem_cons_of_mem _ (List.mem_append_left _ (List.mem_append_left _ (List.mem_of_getElem? (i := 13) rfl))))) hK hP hD hS 20 26 1 1 rfl rfl rfl rfl rfl q4.1 q4.2.1 q4.2.2.1 q4.2.2.2.1 q4.2.2.2.2 (fun _ _ => rfl) (Nat.le_of_ble_eq_true rfl) (Nat.le_of_ble_eq_true rfl) dX9_store_62 (fun H locs hP hD hS => ?_)
        have hP : va_P (dC, dI) nCl (vC cy a z (uF r2.2 26 (va_cpy (r2.2.2.2.1 20) (r2.2.2.2.1 26) (0 : Int32).toNatClampNeg ((r2.2.1 2403)).toNatClampNeg ((r2.2.1 1902)).toNatClampNeg))) H := hP
        have hD : va_D A (vC cy a z (uF r2.2 26 (va_cpy (r2.2.2.2.1 20) (r2.2.2.2.1 26) (0 : Int32).toNatClampNeg ((r2.2.1 2403)).toNatClampNeg ((r2.2.1 1902)).toNatClampNeg))) := hD
        exact ih.2.2.2.1 z _ _ L (uF r2.2 26 (va_cpy (r2.2.2.2.1 20) (r2.2.2.2.1 26) (0 : Int32).toNatClampNeg ((r2.2.1 2403)).toNatClampNeg ((r2.2.1 1902)).toNatClampNeg)) _ h hzk hc hs H locs ls hP hD hS (lv_sub hl [0, 2, 4] rfl)
      · intro z cells slots L σ r h hzk hc hs H locs ls hP hD hS hl
        rw [f_X9_store__a19__z20__z21] at h
        refine lv_aload hx hb dX9_store_65 (lv_at hl 2 rfl) ?_
        refine lv_iconst (v := 0) hx hb dX9_store_67 (by decide) ?_
        refine lv_aload_n hx hb dX9_store_68 rfl (lv_at hl 0 rfl) ?_
        refine hg_24_1 hx hb hts in_f_X9_store__a19__z20__z21_X9 hown hK hP (hts _ (List.mem_cons_of_mem _ (List.mem_append_left _ (List.mem_append_left _ (List.mem_of_getElem? (i := 0) rfl))))) dX9_store_69 ?_
        refine lv_aload_n hx hb dX9_store_72 rfl (lv_at hl 0 rfl) ?_
        refine hg_24_3 hx hb hts in_f_X9_store__a19__z20__z21_X9 hown hK hP (hts _ (List.mem_cons_of_mem _ (List.mem_append_left _ (List.mem_append_left _ (List.mem_of_getElem? (i := 1) rfl))))) dX9_store_73 ?_
        refine lv_aload_n hx hb dX9_store_76 rfl (lv_at hl 1 rfl) ?_
        refine hg_19_2n hx hb hts in_f_X9_store__a19__z20__z21_X8 hown hK hP (va_Nw.use rfl (hG.1 _ (List.mem_of_getElem? (i := 11) rfl))) dX9_store_77 ?_
        refine lv_iadd hx hb dX9_store_80 ?_
        refine lv_aload_n hx hb dX9_store_81 rfl (lv_at hl 1 rfl) ?_
        refine hg_19_13n hx hb hts in_f_X9_store__a19__z20__z21_X8 hown hK hP (va_Nw.use rfl (hG.1 _ (List.mem_of_getElem? (i := 35) rfl))) dX9_store_82 ?_
        obtain ⟨q1, h⟩ := kr_ite1 h
        refine va_copyi (ty := .int) hx hb (hml.trans hl.1.symm) hown (hts _ (List.mem_cons_of_mem _ (List.mem_append_left _ (List.mem_append_left _ (List.mem_of_getElem? (i := 10) rfl))))) (hts _ (List.mem_cons_of_mem _ (List.mem_append_left _ (List.mem_append_left _ (List.mem_of_getElem? (i := 11) rfl))))) (hts _ (List.mem_cons_of_mem _ (List.mem_append_left _ (List.mem_append_left _ (List.mem_of_getElem? (i := 12) rfl))))) (hts _ (List.mem_cons_of_mem _ (List.mem_append_left _ (List.mem_append_left _ (List.mem_of_getElem? (i := 13) rfl))))) hK hP hD hS 21 26 1 1 rfl rfl rfl rfl rfl q1.1 q1.2.1 q1.2.2.1 q1.2.2.2.1 q1.2.2.2.2 (fun _ _ => rfl) (Nat.le_of_ble_eq_true rfl) (Nat.le_of_ble_eq_true rfl) dX9_store_85 (fun H locs hP hD hS => ?_)
        have hP : va_P (dC, dI) nCl (vC cy a z (uF σ 26 (va_cpy (σ.2.2.1 21) (σ.2.2.1 26) (0 : Int32).toNatClampNeg ((((σ.1 2403)) + ((σ.1 1902)))).toNatClampNeg ((σ.1 1913)).toNatClampNeg))) H := hP
        have hD : va_D A (vC cy a z (uF σ 26 (va_cpy (σ.2.2.1 21) (σ.2.2.1 26) (0 : Int32).toNatClampNeg ((((σ.1 2403)) + ((σ.1 1902)))).toNatClampNeg ((σ.1 1913)).toNatClampNeg))) := hD
        exact ih.2.2.2.2 z _ _ L (uF σ 26 (va_cpy (σ.2.2.1 21) (σ.2.2.1 26) (0 : Int32).toNatClampNeg ((((σ.1 2403)) + ((σ.1 1902)))).toNatClampNeg ((σ.1 1913)).toNatClampNeg)) _ h hzk hc hs H locs ls hP hD hS (lv_sub hl [] rfl)
      · intro z cells slots L σ r h hzk hc hs H locs ls hP hD hS hl
        rw [f_X9_store__a19__z20__z21] at h
        obtain rfl := Option.some.inj h
        subst hc
        subst hs
        exact xr_v hx hb hr hK hzk hP hD hS hlocks dX9_store_88
  exact (blk k0).1 z 0 0 L0 σ0 r0 h0 (zk_rf _ _) ((Nat.zero_add _).trans hmc) ((Nat.zero_add _).trans hms) s.heap [] ls hP hD hS hl
/-! X9_add__a19__z20__z21 -/
def f_X9_add__a19__z20__z21 : Nat → Nat → LV → CS → Option RS
  | 0, _, _, _ => none
  | k + 1, 0, L, σ => f_X9_add__a19__z20__z21 k 1 (lI L 4 0) (uI σ 2405 0)
  | k + 1, 1, L, σ => if 30 ≤ ((L.1 4)) then (f_X9_add__a19__z20__z21 k 2 L σ) else (if ((σ.1 2404)) ≤ 0 then (f_X9_add__a19__z20__z21 k 2 L σ) else (if ((σ.1 2404)) = 8 then (f_X9_add__a19__z20__z21 k 3 L σ) else (op (y_X9_isRoomFor__a19 k 0 lZ σ) (fun r4 => if r4.1 = 0 then (f_X9_add__a19__z20__z21 k 3 L r4.2) else (f_X9_add__a19__z20__z21 k 2 L r4.2)))))
  | k + 1, 2, L, σ => if ((if ((σ.1 2406)) < (256 : Int32) then (256 : Int32) else ((σ.1 2406)))) = 0 then none else (if ((if ((σ.1 2406)) < (256 : Int32) then (256 : Int32) else ((σ.1 2406)))) = 0 then none else (if (((((uI σ 2407 ((((((((σ.1 1903)) / ((if ((σ.1 2406)) < (256 : Int32) then (256 : Int32) else ((σ.1 2406)))))) + 1)) * ((if ((σ.1 2406)) < (256 : Int32) then (256 : Int32) else ((σ.1 2406))))))).1 1903)) - (((uI σ 2407 ((((((((σ.1 1903)) / ((if ((σ.1 2406)) < (256 : Int32) then (256 : Int32) else ((σ.1 2406)))))) + 1)) * ((if ((σ.1 2406)) < (256 : Int32) then (256 : Int32) else ((σ.1 2406))))))).1 1903)) / ((if ((σ.1 2406)) < (256 : Int32) then (256 : Int32) else ((σ.1 2406)))) * ((if ((σ.1 2406)) < (256 : Int32) then (256 : Int32) else ((σ.1 2406)))))) = 0 then (op (y_X9_isRoomFor__a19 k 0 lZ (uI σ 2407 ((((((((σ.1 1903)) / ((if ((σ.1 2406)) < (256 : Int32) then (256 : Int32) else ((σ.1 2406)))))) + 1)) * ((if ((σ.1 2406)) < (256 : Int32) then (256 : Int32) else ((σ.1 2406)))))))) (fun r4 => if r4.1 = 0 then (f_X9_add__a19__z20__z21 k 4 L r4.2) else (ox (f_X9_store__a19__z20__z21 k 0 (lI lZ 1 ((r4.2.1 2404))) r4.2) (fun r6 => f_X9_add__a19__z20__z21 k 5 L (uI r6.2.1 2403 ((((((r6.2.1.1 2403)) + ((r6.2.1.1 1902)))) + ((r6.2.1.1 1913))))))))) else (f_X9_add__a19__z20__z21 k 4 L (uI σ 2407 ((((((((σ.1 1903)) / ((if ((σ.1 2406)) < (256 : Int32) then (256 : Int32) else ((σ.1 2406)))))) + 1)) * ((if ((σ.1 2406)) < (256 : Int32) then (256 : Int32) else ((σ.1 2406))))))))))
  | k + 1, 3, L, σ => ox (f_X9_thinOut k 0 lZ σ) (fun r1 => f_X9_add__a19__z20__z21 k 1 (lI L 4 ((((L.1 4)) + 1))) r1.2.1)
  | k + 1, 4, L, σ => some ((0, 0), σ, (0, 0))
  | k + 1, 5, L, σ => f_X9_add__a19__z20__z21 k 4 L (uI σ 2404 ((((σ.1 2404)) + 1)))
  | _ + 1, _ + 6, _, _ => none
def o_f_X9_add__a19__z20__z21 : List Cond := [.fieldLink RX9 44 "SetHouse$Saves" "near" "Z", .fieldLink RX9 41 "SetHouse$Saves" "saved" "I", .methodLink RX9 64 yX9_isRoomFor, .instanceMethod yX9_isRoomFor, .selects RX9 yX9_isRoomFor yX9_isRoomFor, .initialized RX9, .fieldLink RX9 24 "SetHouse$Saves" "gap" "I", .fieldLink RX9 32 "SetHouse$Saves" "nextAt" "I", .methodLink RX9 77 yX9_store, .instanceMethod yX9_store, .selects RX9 yX9_store yX9_store, .fieldLink RX9 38 "SetHouse$Saves" "filled" "I", .methodLink RX9 71 Lib.Math.max.name, .static Lib.Math.max.name, .initialized "java/lang/Math", .code Lib.Math.max.name Lib.Math.max.code 2 (some .int), .methodLink RX9 68 yX9_thinOut, .instanceMethod yX9_thinOut, .selects RX9 yX9_thinOut yX9_thinOut]
theorem o_f_X9_add__a19__z20__z21_good : o_f_X9_add__a19__z20__z21.all goodWord = true := by decide +kernel
def p_f_X9_add__a19__z20__z21 : List Cond := o_f_X9_add__a19__z20__z21 ++ ((.code yX9_isRoomFor cX9_isRoomFor 4 (some .boolean) :: p_y_X9_isRoomFor__a19) ++ ((.code yX9_store cX9_store 5 none :: p_f_X9_store__a19__z20__z21) ++ ((.code yX9_thinOut cX9_thinOut 4 none :: p_f_X9_thinOut) ++ [])))
theorem p_f_X9_add__a19__z20__z21_good : p_f_X9_add__a19__z20__z21.all goodWord = true := nb_all2 o_f_X9_add__a19__z20__z21_good (nb_all2 (nb_allc (by decide +kernel) p_y_X9_isRoomFor__a19_good) (nb_all2 (nb_allc (by decide +kernel) p_f_X9_store__a19__z20__z21_good) (nb_all2 (nb_allc (by decide +kernel) p_f_X9_thinOut_good) rfl)))
def w_f_X9_add__a19__z20__z21 : List Cond := .code yX9_add cX9_add 5 none :: (p_f_X9_add__a19__z20__z21 ++ fC)
theorem w_f_X9_add__a19__z20__z21_good : w_f_X9_add__a19__z20__z21.all goodWord = true := nb_allc (by decide +kernel) (nb_all2 p_f_X9_add__a19__z20__z21_good fC_good)
theorem in_f_X9_add__a19__z20__z21_X8 : ∀ w ∈ wsX80, w ∈ w_f_X9_add__a19__z20__z21 := fun _ h => List.mem_cons_of_mem _ (List.mem_append_right _ (List.mem_append_right _ (List.mem_append_right _ (List.mem_append_right _ (List.mem_append_right _ (List.mem_append_right _ (List.mem_append_right _ (List.mem_append_right _ (List.mem_append_left _ h)))))))))
theorem in_f_X9_add__a19__z20__z21_X9 : ∀ w ∈ wsX90, w ∈ w_f_X9_add__a19__z20__z21 := fun _ h => List.mem_cons_of_mem _ (List.mem_append_right _ (List.mem_append_right _ (List.mem_append_right _ (List.mem_append_right _ (List.mem_append_right _ (List.mem_append_right _ (List.mem_append_right _ (List.mem_append_right _ (List.mem_append_right _ (List.mem_append_left _ h))))))))))
theorem hd_f_X9_add__a19__z20__z21 : yX9_add.cls = RX9 ∧ yX9_add.cls ≠ "java/lang/invoke/MethodHandle" ∧ yX9_add.cls ≠ "java/lang/invoke/VarHandle" ∧ (parseMethodDescriptor yX9_add.desc).map (fun d => d.parameters.length) = some 3 := by decide +kernel
theorem gg_f_X9_add__a19__z20__z21_X9_store__a19__z20__z21 : GoodIn w_f_X9_add__a19__z20__z21 w_f_X9_store__a19__z20__z21 := goodIn_sub (fun w h => (List.mem_cons.mp h).elim (fun e => (List.mem_cons_of_mem _ (List.mem_append_left _ (List.mem_append_right _ (List.mem_append_right _ (List.mem_append_left _ (List.mem_cons.mpr (Or.inl e)))))))) (fun h => (List.mem_append.mp h).elim (fun h => (List.mem_cons_of_mem _ (List.mem_append_left _ (List.mem_append_right _ (List.mem_append_right _ (List.mem_append_left _ (List.mem_cons_of_mem _ h))))))) (fun h => List.mem_cons_of_mem _ (List.mem_append_right _ h)))) w_f_X9_store__a19__z20__z21_good
theorem g_f_X9_add__a19__z20__z21_X9_store__a19__z20__z21_V77 : GoodIn w_f_X9_add__a19__z20__z21 (wsV RX9 77 RX9 yX9_store w_f_X9_store__a19__z20__z21) := goodIn_app (nb_g4 (List.mem_cons_of_mem _ (List.mem_append_left _ (List.mem_append_left _ (List.mem_of_getElem? (i := 8) rfl)))) (List.mem_cons_of_mem _ (List.mem_append_left _ (List.mem_append_left _ (List.mem_of_getElem? (i := 9) rfl)))) (List.mem_cons_of_mem _ (List.mem_append_left _ (List.mem_append_left _ (List.mem_of_getElem? (i := 10) rfl)))) (List.mem_cons_of_mem _ (List.mem_append_left _ (List.mem_append_left _ (List.mem_of_getElem? (i := 5) rfl)))) (by decide +kernel)) gg_f_X9_add__a19__z20__z21_X9_store__a19__z20__z21
theorem gg_f_X9_add__a19__z20__z21_X9_thinOut : GoodIn w_f_X9_add__a19__z20__z21 w_f_X9_thinOut := goodIn_sub (fun w h => (List.mem_cons.mp h).elim (fun e => (List.mem_cons_of_mem _ (List.mem_append_left _ (List.mem_append_right _ (List.mem_append_right _ (List.mem_append_right _ (List.mem_append_left _ (List.mem_cons.mpr (Or.inl e))))))))) (fun h => (List.mem_append.mp h).elim (fun h => (List.mem_cons_of_mem _ (List.mem_append_left _ (List.mem_append_right _ (List.mem_append_right _ (List.mem_append_right _ (List.mem_append_left _ (List.mem_cons_of_mem _ h)))))))) (fun h => List.mem_cons_of_mem _ (List.mem_append_right _ h)))) w_f_X9_thinOut_good
theorem g_f_X9_add__a19__z20__z21_X9_thinOut_V68 : GoodIn w_f_X9_add__a19__z20__z21 (wsV RX9 68 RX9 yX9_thinOut w_f_X9_thinOut) := goodIn_app (nb_g4 (List.mem_cons_of_mem _ (List.mem_append_left _ (List.mem_append_left _ (List.mem_of_getElem? (i := 16) rfl)))) (List.mem_cons_of_mem _ (List.mem_append_left _ (List.mem_append_left _ (List.mem_of_getElem? (i := 17) rfl)))) (List.mem_cons_of_mem _ (List.mem_append_left _ (List.mem_append_left _ (List.mem_of_getElem? (i := 18) rfl)))) (List.mem_cons_of_mem _ (List.mem_append_left _ (List.mem_append_left _ (List.mem_of_getElem? (i := 5) rfl)))) (by decide +kernel)) gg_f_X9_add__a19__z20__z21_X9_thinOut
theorem gg_f_X9_add__a19__z20__z21_X9_isRoomFor__a19 : GoodIn w_f_X9_add__a19__z20__z21 w_y_X9_isRoomFor__a19 := goodIn_sub (fun w h => (List.mem_cons.mp h).elim (fun e => (List.mem_cons_of_mem _ (List.mem_append_left _ (List.mem_append_right _ (List.mem_append_left _ (List.mem_cons.mpr (Or.inl e))))))) (fun h => (List.mem_append.mp h).elim (fun h => (List.mem_cons_of_mem _ (List.mem_append_left _ (List.mem_append_right _ (List.mem_append_left _ (List.mem_cons_of_mem _ h)))))) (fun h => List.mem_cons_of_mem _ (List.mem_append_right _ h)))) w_y_X9_isRoomFor__a19_good
theorem g_y_X9_add__a19__z20__z21_X9_isRoomFor__a19_V64 : GoodIn w_f_X9_add__a19__z20__z21 (wsV RX9 64 RX9 yX9_isRoomFor w_y_X9_isRoomFor__a19) := goodIn_app (nb_g4 (List.mem_cons_of_mem _ (List.mem_append_left _ (List.mem_append_left _ (List.mem_of_getElem? (i := 2) rfl)))) (List.mem_cons_of_mem _ (List.mem_append_left _ (List.mem_append_left _ (List.mem_of_getElem? (i := 3) rfl)))) (List.mem_cons_of_mem _ (List.mem_append_left _ (List.mem_append_left _ (List.mem_of_getElem? (i := 4) rfl)))) (List.mem_cons_of_mem _ (List.mem_append_left _ (List.mem_append_left _ (List.mem_of_getElem? (i := 5) rfl)))) (by decide +kernel)) gg_f_X9_add__a19__z20__z21_X9_isRoomFor__a19
set_option maxHeartbeats 40000000 in
set_option maxRecDepth 100000 in
theorem c_f_X9_add__a19__z20__z21 (l : Launch) (hl0 : l.stackTraces = false) (dC : Nat → ClassId) (dI : Nat → Nat → Nat) (cy : Nat → ClassId) (ek a : Nat → Nat) (k0 : Nat) (L0 : LV) (σ0 : CS) (r0 : RS) (h0 : f_X9_add__a19__z20__z21 k0 0 L0 σ0 = some r0) (z : Nat → Nat) (sz : Nat) : vx_Met l yX9_add w_f_X9_add__a19__z20__z21 ({ frames := 4, cells := r0.2.2.1, slots := r0.2.2.2, locals := 138 }) (va_Pc [.ref (a 24), .ref (a 19), .ref (z 20), .ref (z 21)] (nInF (dC, dI) cy ek sz (vC cy a z σ0))) (xV dC dI cy a (va_A (vC cy a z σ0) sz) [26] z r0) (xX dC dI cy a (va_A (vC cy a z σ0) sz) [26] z r0) r0.2.2.1 r0.2.2.2 (va_A (vC cy a z σ0) sz) := by
  refine vx_ofW (cc := cX9_add) (maxL := 5) (ret := none) (by decide) rfl ?_
  intro p e s m args below meth c s₁ B hml hno hv
  obtain ⟨rfl, ⟨⟨hsz, hP, hK, hD0, hG⟩, hE⟩, hT⟩ := hv
  have hx := B.exec
  have hb := B.bytes
  have hr := B.returns
  have hts := atoms_spec (ws := w_f_X9_add__a19__z20__z21) B.pre
  have hown : s.vm.findClass RX9 = some m.cls := findClass_of_methodNamed B.named
  have hlocks := B.notSynchronized
  subst hsz
  have hD := hD0.self (sz := s.heap.size)
  generalize hAe : va_A (vC cy a z σ0) s.heap.size = A at hD hE hT ⊢
  have hA : ∀ q : Nat, s.heap.size ≤ q → A q := fun q h => by rw [← hAe]; exact Or.inr h
  have hS : va_S A s.heap s.heap [] := va_S.rf
  have hl := lv_entry ([.ref (a 24), .ref (a 19), .ref (z 20), .ref (z 21)]) (n := 5) (Nat.le_of_ble_eq_true rfl)
  rw [lg_entry_eq]
  generalize (lg_sl ([.ref (a 24), .ref (a 19), .ref (z 20), .ref (z 21)]) ++ List.replicate (5 - (lg_sl ([.ref (a 24), .ref (a 19), .ref (z 20), .ref (z 21)])).length) Slot.unset).toArray = ls at hl ⊢
  have hl : lv_has ls 5 [(0, .ref (a 24)), (1, .ref (a 19)), (2, .ref (z 20)), (3, .ref (z 21))] := hl
  generalize hmc : r0.2.2.1 = mc
  generalize hms : r0.2.2.2 = ms
  have blk : ∀ k : Nat, (bX p l e (headSpec w_f_X9_add__a19__z20__z21 ({ frames := 4, cells := mc, slots := ms, locals := 138 })).room s m #[.ref (a 24), .ref (a 19), .ref (z 20), .ref (z 21)] below meth c dC dI cy a A (fun r => vx_MQ below (xV dC dI cy a A [26] z r) (xX dC dI cy a A [26] z r) #[.ref (a 24), .ref (a 19), .ref (z 20), .ref (z 21)] s mc ms A) [26] z mc ms 5 (f_X9_add__a19__z20__z21 k 0) (fun z L => [(0, .ref (a 24)), (1, .ref (a 19)), (2, .ref (z 20)), (3, .ref (z 21))]) 0 (fun z L => [])) ∧ (bX p l e (headSpec w_f_X9_add__a19__z20__z21 ({ frames := 4, cells := mc, slots := ms, locals := 138 })).room s m #[.ref (a 24), .ref (a 19), .ref (z 20), .ref (z 21)] below meth c dC dI cy a A (fun r => vx_MQ below (xV dC dI cy a A [26] z r) (xX dC dI cy a A [26] z r) #[.ref (a 24), .ref (a 19), .ref (z 20), .ref (z 21)] s mc ms A) [26] z mc ms 5 (f_X9_add__a19__z20__z21 k 1) (fun z L => [(0, .ref (a 24)), (1, .ref (a 19)), (2, .ref (z 20)), (3, .ref (z 21)), (4, .int (L.1 4))]) 8 (fun z L => [])) ∧ (bX p l e (headSpec w_f_X9_add__a19__z20__z21 ({ frames := 4, cells := mc, slots := ms, locals := 138 })).room s m #[.ref (a 24), .ref (a 19), .ref (z 20), .ref (z 21)] below meth c dC dI cy a A (fun r => vx_MQ below (xV dC dI cy a A [26] z r) (xX dC dI cy a A [26] z r) #[.ref (a 24), .ref (a 19), .ref (z 20), .ref (z 21)] s mc ms A) [26] z mc ms 5 (f_X9_add__a19__z20__z21 k 2) (fun z L => [(0, .ref (a 24)), (1, .ref (a 19)), (2, .ref (z 20)), (3, .ref (z 21))]) 49 (fun z L => [])) ∧ (bX p l e (headSpec w_f_X9_add__a19__z20__z21 ({ frames := 4, cells := mc, slots := ms, locals := 138 })).room s m #[.ref (a 24), .ref (a 19), .ref (z 20), .ref (z 21)] below meth c dC dI cy a A (fun r => vx_MQ below (xV dC dI cy a A [26] z r) (xX dC dI cy a A [26] z r) #[.ref (a 24), .ref (a 19), .ref (z 20), .ref (z 21)] s mc ms A) [26] z mc ms 5 (f_X9_add__a19__z20__z21 k 3) (fun z L => [(0, .ref (a 24)), (1, .ref (a 19)), (2, .ref (z 20)), (3, .ref (z 21)), (4, .int (L.1 4))]) 39 (fun z L => [])) ∧ (bX p l e (headSpec w_f_X9_add__a19__z20__z21 ({ frames := 4, cells := mc, slots := ms, locals := 138 })).room s m #[.ref (a 24), .ref (a 19), .ref (z 20), .ref (z 21)] below meth c dC dI cy a A (fun r => vx_MQ below (xV dC dI cy a A [26] z r) (xX dC dI cy a A [26] z r) #[.ref (a 24), .ref (a 19), .ref (z 20), .ref (z 21)] s mc ms A) [26] z mc ms 5 (f_X9_add__a19__z20__z21 k 4) (fun z L => []) 134 (fun z L => [])) ∧ (bX p l e (headSpec w_f_X9_add__a19__z20__z21 ({ frames := 4, cells := mc, slots := ms, locals := 138 })).room s m #[.ref (a 24), .ref (a 19), .ref (z 20), .ref (z 21)] below meth c dC dI cy a A (fun r => vx_MQ below (xV dC dI cy a A [26] z r) (xX dC dI cy a A [26] z r) #[.ref (a 24), .ref (a 19), .ref (z 20), .ref (z 21)] s mc ms A) [26] z mc ms 5 (f_X9_add__a19__z20__z21 k 5) (fun z L => [(0, .ref (a 24))]) 124 (fun z L => [])) := by
    intro k
    induction k with
    | zero => exact ⟨fun z c1 c2 L σ r h => (by cases h), fun z c1 c2 L σ r h => (by cases h), fun z c1 c2 L σ r h => (by cases h), fun z c1 c2 L σ r h => (by cases h), fun z c1 c2 L σ r h => (by cases h), fun z c1 c2 L σ r h => (by cases h)⟩
    | succ k ih =>
      refine ⟨?_, ?_, ?_, ?_, ?_, ?_⟩
      · intro z cells slots L σ r h hzk hc hs H locs ls hP hD hS hl
        rw [f_X9_add__a19__z20__z21] at h
        refine lv_aload_n hx hb dX9_add_0 rfl (lv_at hl 0 rfl) ?_
        refine lv_iconst (v := 0) hx hb dX9_add_1 (by decide) ?_
        refine hp_24_5 hx hb hts in_f_X9_add__a19__z20__z21_X9 hown hK hP hD hS (hts _ (List.mem_cons_of_mem _ (List.mem_append_left _ (List.mem_append_left _ (List.mem_of_getElem? (i := 0) rfl))))) (Or.inl rfl) dX9_add_2 (fun H locs hP hD hS => ?_)
        refine lv_iconst (v := 0) hx hb dX9_add_5 (by decide) ?_
        refine lv_istore (lv' := [(4, .int 0), (0, .ref (a 24)), (1, .ref (a 19)), (2, .ref (z 20)), (3, .ref (z 21))]) hx hb dX9_add_6 hl (by decide) rfl (fun ls hl => ?_)
        exact ih.2.1 z _ _ (lI L 4 0) (uI σ 2405 0) _ h hzk hc hs H locs ls hP hD hS (lv_sub hl [1, 2, 3, 4, 0] rfl)
      · intro z cells slots L σ r h hzk hc hs H locs ls hP hD hS hl
        rw [f_X9_add__a19__z20__z21] at h
        refine lv_iload hx hb dX9_add_8 (lv_at hl 4 rfl) ?_
        refine lv_bipush (v := 30) hx hb dX9_add_10 (by decide) ?_
        refine lv_icmp_ge (tgt := 49) hx hb dX9_add_12 (by decide) (fun c1 => ?_) (fun c1 => ?_)
        · rw [if_pos c1] at h
          exact ih.2.2.1 z _ _ L σ _ h hzk hc hs H locs ls hP hD hS (lv_sub hl [0, 1, 2, 3] rfl)
        · rw [if_neg c1] at h
          refine lv_aload_n hx hb dX9_add_15 rfl (lv_at hl 0 rfl) ?_
          refine hg_24_4 hx hb hts in_f_X9_add__a19__z20__z21_X9 hown hK hP (hts _ (List.mem_cons_of_mem _ (List.mem_append_left _ (List.mem_append_left _ (List.mem_of_getElem? (i := 1) rfl))))) dX9_add_16 ?_
          refine lv_if_le (tgt := 49) hx hb dX9_add_19 (by decide) (fun c2 => ?_) (fun c2 => ?_)
          · rw [if_pos c2] at h
            exact ih.2.2.1 z _ _ L σ _ h hzk hc hs H locs ls hP hD hS (lv_sub hl [0, 1, 2, 3] rfl)
          · rw [if_neg c2] at h
            refine lv_aload_n hx hb dX9_add_22 rfl (lv_at hl 0 rfl) ?_
            refine hg_24_4 hx hb hts in_f_X9_add__a19__z20__z21_X9 hown hK hP (hts _ (List.mem_cons_of_mem _ (List.mem_append_left _ (List.mem_append_left _ (List.mem_of_getElem? (i := 1) rfl))))) dX9_add_23 ?_
            refine lv_bipush (v := 8) hx hb dX9_add_26 (by decide) ?_
            refine lv_icmp_eq (tgt := 39) hx hb dX9_add_28 (by decide) (fun c3 => ?_) (fun c3 => ?_)
            · rw [if_pos c3] at h
              exact ih.2.2.2.1 z _ _ L σ _ h hzk hc hs H locs ls hP hD hS (lv_sub hl [0, 1, 2, 3, 4] rfl)
            · rw [if_neg c3] at h
              refine lv_aload_n hx hb dX9_add_31 rfl (lv_at hl 0 rfl) ?_
              refine lv_aload_n hx hb dX9_add_32 rfl (lv_at hl 1 rfl) ?_
              obtain ⟨r4, hc4, h⟩ := op_ex h
              refine kc_i (va_runV (As := [.ref (a 19)]) (rest := []) ⟨hx, hb, hml, hown, hts⟩ (c_y_X9_isRoomFor__a19 l dC dI cy a z k lZ σ r4 hc4 H.size) (cwV 1 hts g_y_X9_add__a19__z20__z21_X9_isRoomFor__a19_V64 rfl rfl rfl hd_y_X9_isRoomFor__a19 ⟨Nat.le_of_ble_eq_true rfl, Nat.le_of_ble_eq_true rfl⟩) ⟨nb_blind, va_recv hK hP (ci := 8) (q0 := 24) rfl rfl, (kb_pre hK hG hP hD)⟩ rfl rfl hl.1 rfl (lv_room (Nat.le_of_ble_eq_true rfl)) dX9_add_33 ⟨(Nat.le_trans (Nat.le_add_right _ _) (Nat.le_of_eq hc)), (Nat.le_trans (Nat.le_add_right _ _) (Nat.le_of_eq hs))⟩) hA hP hD hS (fun H locs hP hD hS => ?_)
              refine lv_if_ne (tgt := 49) hx hb dX9_add_36 (by decide) (fun c5 => ?_) (fun c5 => ?_)
              · rw [if_neg c5] at h
                exact ih.2.2.1 z _ _ L r4.2 _ h hzk hc hs H locs ls hP hD hS (lv_sub hl [0, 1, 2, 3] rfl)
              · rw [if_pos c5] at h
                exact ih.2.2.2.1 z _ _ L r4.2 _ h hzk hc hs H locs ls hP hD hS (lv_sub hl [0, 1, 2, 3, 4] rfl)
      · intro z cells slots L σ r h hzk hc hs H locs ls hP hD hS hl
        rw [f_X9_add__a19__z20__z21] at h
        refine lv_aload_n hx hb dX9_add_49 rfl (lv_at hl 0 rfl) ?_
        refine hg_24_6 hx hb hts in_f_X9_add__a19__z20__z21_X9 hown hK hP (hts _ (List.mem_cons_of_mem _ (List.mem_append_left _ (List.mem_append_left _ (List.mem_of_getElem? (i := 6) rfl))))) dX9_add_50 ?_
        refine lv_sipush (v := 256) hx hb dX9_add_53 (by decide) ?_
        refine va_mmax (x := ((σ.1 2406))) (y := (256 : Int32)) hx hb (hml.trans hl.1.symm) hown (hts _ (List.mem_cons_of_mem _ (List.mem_append_left _ (List.mem_append_left _ (List.mem_of_getElem? (i := 12) rfl))))) (hts _ (List.mem_cons_of_mem _ (List.mem_append_left _ (List.mem_append_left _ (List.mem_of_getElem? (i := 13) rfl))))) (hts _ (List.mem_cons_of_mem _ (List.mem_append_left _ (List.mem_append_left _ (List.mem_of_getElem? (i := 14) rfl))))) (hts _ (List.mem_cons_of_mem _ (List.mem_append_left _ (List.mem_append_left _ (List.mem_of_getElem? (i := 15) rfl))))) (Nat.le_of_ble_eq_true rfl) (Nat.le_of_ble_eq_true rfl)  (Nat.le_trans (Nat.le_add_right _ _) (Nat.le_of_eq hc)) (Nat.le_trans (Nat.le_add_right _ _) (Nat.le_of_eq hs)) dX9_add_56 ?_
        refine lv_istore (lv' := [(4, .int (if ((σ.1 2406)) < (256 : Int32) then (256 : Int32) else ((σ.1 2406)))), (0, .ref (a 24)), (1, .ref (a 19)), (2, .ref (z 20)), (3, .ref (z 21))]) hx hb dX9_add_59 hl (by decide) rfl (fun ls hl => ?_)
        refine lv_aload_n hx hb dX9_add_61 rfl (lv_at hl 1 rfl) ?_
        refine lv_aload_n hx hb dX9_add_62 rfl (lv_at hl 2 rfl) ?_
        refine hg_19_3n hx hb hts in_f_X9_add__a19__z20__z21_X8 hown hK hP (va_Nw.use rfl (hG.1 _ (List.mem_of_getElem? (i := 13) rfl))) dX9_add_63 ?_
        refine lv_iload hx hb dX9_add_66 (lv_at hl 0 rfl) ?_
        obtain ⟨q1, h⟩ := kr_ite0 h
        refine lv_idiv hx hb dX9_add_68 q1 ?_
        refine lv_iconst (v := 1) hx hb dX9_add_69 (by decide) ?_
        refine lv_iadd hx hb dX9_add_70 ?_
        refine lv_iload hx hb dX9_add_71 (lv_at hl 0 rfl) ?_
        refine lv_imul hx hb dX9_add_73 ?_
        refine hp_24_7 hx hb hts in_f_X9_add__a19__z20__z21_X9 hown hK hP hD hS (hts _ (List.mem_cons_of_mem _ (List.mem_append_left _ (List.mem_append_left _ (List.mem_of_getElem? (i := 7) rfl))))) dX9_add_74 (fun H locs hP hD hS => ?_)
        refine lv_aload_n hx hb dX9_add_77 rfl (lv_at hl 2 rfl) ?_
        refine hg_19_3n hx hb hts in_f_X9_add__a19__z20__z21_X8 hown hK hP (va_Nw.use rfl (hG.1 _ (List.mem_of_getElem? (i := 13) rfl))) dX9_add_78 ?_
        refine lv_iload hx hb dX9_add_81 (lv_at hl 0 rfl) ?_
        obtain ⟨q2, h⟩ := kr_ite0 h
        refine lv_irem hx hb dX9_add_83 q2 ?_
        refine lv_if_ne (tgt := 134) hx hb dX9_add_84 (by decide) (fun c3 => ?_) (fun c3 => ?_)
        · rw [if_neg c3] at h
          exact ih.2.2.2.2.1 z _ _ L (uI σ 2407 ((((((((σ.1 1903)) / ((if ((σ.1 2406)) < (256 : Int32) then (256 : Int32) else ((σ.1 2406)))))) + 1)) * ((if ((σ.1 2406)) < (256 : Int32) then (256 : Int32) else ((σ.1 2406))))))) _ h hzk hc hs H locs ls hP hD hS (lv_sub hl [] rfl)
        · rw [if_pos c3] at h
          refine lv_aload_n hx hb dX9_add_87 rfl (lv_at hl 1 rfl) ?_
          refine lv_aload_n hx hb dX9_add_88 rfl (lv_at hl 2 rfl) ?_
          obtain ⟨r4, hc4, h⟩ := op_ex h
          refine kc_i (va_runV (As := [.ref (a 19)]) (rest := []) ⟨hx, hb, hml, hown, hts⟩ (c_y_X9_isRoomFor__a19 l dC dI cy a z k lZ (uI σ 2407 ((((((((σ.1 1903)) / ((if ((σ.1 2406)) < (256 : Int32) then (256 : Int32) else ((σ.1 2406)))))) + 1)) * ((if ((σ.1 2406)) < (256 : Int32) then (256 : Int32) else ((σ.1 2406))))))) r4 hc4 H.size) (cwV 1 hts g_y_X9_add__a19__z20__z21_X9_isRoomFor__a19_V64 rfl rfl rfl hd_y_X9_isRoomFor__a19 ⟨Nat.le_of_ble_eq_true rfl, Nat.le_of_ble_eq_true rfl⟩) ⟨nb_blind, va_recv hK hP (ci := 8) (q0 := 24) rfl rfl, (kb_pre hK hG hP hD)⟩ rfl rfl hl.1 rfl (lv_room (Nat.le_of_ble_eq_true rfl)) dX9_add_89 ⟨(Nat.le_trans (Nat.le_add_right _ _) (Nat.le_of_eq hc)), (Nat.le_trans (Nat.le_add_right _ _) (Nat.le_of_eq hs))⟩) hA hP hD hS (fun H locs hP hD hS => ?_)
          refine lv_if_eq (tgt := 134) hx hb dX9_add_92 (by decide) (fun c5 => ?_) (fun c5 => ?_)
          · rw [if_pos c5] at h
            exact ih.2.2.2.2.1 z _ _ L r4.2 _ h hzk hc hs H locs ls hP hD hS (lv_sub hl [] rfl)
          · rw [if_neg c5] at h
            refine lv_aload_n hx hb dX9_add_95 rfl (lv_at hl 1 rfl) ?_
            refine lv_aload_n hx hb dX9_add_96 rfl (lv_at hl 1 rfl) ?_
            refine hg_24_4 hx hb hts in_f_X9_add__a19__z20__z21_X9 hown hK hP (hts _ (List.mem_cons_of_mem _ (List.mem_append_left _ (List.mem_append_left _ (List.mem_of_getElem? (i := 1) rfl))))) dX9_add_97 ?_
            refine lv_aload_n hx hb dX9_add_100 rfl (lv_at hl 2 rfl) ?_
            refine lv_aload_n hx hb dX9_add_101 rfl (lv_at hl 3 rfl) ?_
            refine lv_aload_n hx hb dX9_add_102 rfl (lv_at hl 4 rfl) ?_
            obtain ⟨r6, hc6, hle6, h9⟩ := ox_ex h
            clear h
            refine kx_v (vx_runV (As := [.int (r4.2.1 2404), .ref (a 19), .ref (z 20), .ref (z 21)]) (rest := []) ⟨hx, hb, hml, hown, hts⟩ (c_f_X9_store__a19__z20__z21 l hl0 dC dI cy ek a k (lI lZ 1 ((r4.2.1 2404))) r4.2 r6 hc6 z H.size) (cwV 4 hts g_f_X9_add__a19__z20__z21_X9_store__a19__z20__z21_V77 rfl rfl rfl hd_f_X9_store__a19__z20__z21 ⟨Nat.le_of_ble_eq_true rfl, Nat.le_of_ble_eq_true rfl⟩) ⟨nb_blindF, va_recv hK hP (ci := 8) (q0 := 24) rfl rfl, (kx_pre hK hG hE hT hA hP hD hS)⟩ rfl rfl hl.1 rfl (lv_room (Nat.le_of_ble_eq_true rfl)) dX9_add_103 ⟨Nat.le_trans (Nat.add_le_add_left hle6.1 _) (Nat.le_of_eq hc), Nat.le_trans (Nat.add_le_add_left hle6.2 _) (Nat.le_of_eq hs)⟩) hK hA hzk hP hD hS (by decide) hno hlocks ?_
            rcases h9 with ⟨h00, y6, hny6, hy⟩ | ⟨h00, hy⟩
            · subst hy
              have h := hny6
              refine Or.inl ⟨h00, fun z H locs hz6 hzk hP hD hS => ?_⟩
              try dsimp only at hl
              rw [← hz6 20 (by decide)] at hl
              rw [← hz6 21 (by decide)] at hl
              replace hc := (Nat.add_assoc _ _ _).trans hc
              replace hs := (Nat.add_assoc _ _ _).trans hs
              refine lv_aload_n hx hb dX9_add_106 rfl (lv_at hl 1 rfl) ?_
              refine lv_aload_n hx hb dX9_add_107 rfl (lv_at hl 1 rfl) ?_
              refine hg_24_3 hx hb hts in_f_X9_add__a19__z20__z21_X9 hown hK hP (hts _ (List.mem_cons_of_mem _ (List.mem_append_left _ (List.mem_append_left _ (List.mem_of_getElem? (i := 11) rfl))))) dX9_add_108 ?_
              refine lv_aload_n hx hb dX9_add_111 rfl (lv_at hl 2 rfl) ?_
              refine hg_19_2n hx hb hts in_f_X9_add__a19__z20__z21_X8 hown hK hP (va_Nw.use rfl (hG.1 _ (List.mem_of_getElem? (i := 11) rfl))) dX9_add_112 ?_
              refine lv_iadd hx hb dX9_add_115 ?_
              refine lv_aload_n hx hb dX9_add_116 rfl (lv_at hl 2 rfl) ?_
              refine hg_19_13n hx hb hts in_f_X9_add__a19__z20__z21_X8 hown hK hP (va_Nw.use rfl (hG.1 _ (List.mem_of_getElem? (i := 35) rfl))) dX9_add_117 ?_
              refine lv_iadd hx hb dX9_add_120 ?_
              refine hp_24_3 hx hb hts in_f_X9_add__a19__z20__z21_X9 hown hK hP hD hS (hts _ (List.mem_cons_of_mem _ (List.mem_append_left _ (List.mem_append_left _ (List.mem_of_getElem? (i := 11) rfl))))) dX9_add_121 (fun H locs hP hD hS => ?_)
              exact ih.2.2.2.2.2 z _ _ L (uI r6.2.1 2403 ((((((r6.2.1.1 2403)) + ((r6.2.1.1 1902)))) + ((r6.2.1.1 1913))))) _ h hzk hc hs H locs ls hP hD hS (lv_sub hl [1] rfl)
            · subst hy
              exact Or.inr ⟨h00, rfl, hc, hs⟩
      · intro z cells slots L σ r h hzk hc hs H locs ls hP hD hS hl
        rw [f_X9_add__a19__z20__z21] at h
        refine lv_aload_n hx hb dX9_add_39 rfl (lv_at hl 0 rfl) ?_
        obtain ⟨r1, hc1, hle1, h9⟩ := ox_ex h
        clear h
        refine kx_v (vx_runV (As := []) (rest := []) ⟨hx, hb, hml, hown, hts⟩ (c_f_X9_thinOut l hl0 dC dI cy ek a k lZ σ r1 hc1 z H.size) (cwV 0 hts g_f_X9_add__a19__z20__z21_X9_thinOut_V68 rfl rfl rfl hd_f_X9_thinOut ⟨Nat.le_of_ble_eq_true rfl, Nat.le_of_ble_eq_true rfl⟩) ⟨nb_blindF, va_recv hK hP (ci := 8) (q0 := 24) rfl rfl, (kx_pre hK hG hE hT hA hP hD hS)⟩ rfl rfl hl.1 rfl (lv_room (Nat.le_of_ble_eq_true rfl)) dX9_add_40 ⟨Nat.le_trans (Nat.add_le_add_left hle1.1 _) (Nat.le_of_eq hc), Nat.le_trans (Nat.add_le_add_left hle1.2 _) (Nat.le_of_eq hs)⟩) hK hA hzk hP hD hS (by decide) hno hlocks ?_
        rcases h9 with ⟨h00, y1, hny1, hy⟩ | ⟨h00, hy⟩
        · subst hy
          have h := hny1
          refine Or.inl ⟨h00, fun u H locs hz1 hzk hP hD hS => ?_⟩
          obtain rfl := (zk_nil hz1).symm
          replace hc := (Nat.add_assoc _ _ _).trans hc
          replace hs := (Nat.add_assoc _ _ _).trans hs
          refine lv_iinc (v := ((L.1 4)) + 1) (lv' := [(4, .int (((L.1 4)) + 1)), (0, .ref (a 24)), (1, .ref (a 19)), (2, .ref (z 20)), (3, .ref (z 21))]) hx hb dX9_add_43 hl (k := 4) rfl rfl (by decide) rfl (fun ls hl => ?_)
          refine lv_goto (tgt := 8) hx hb dX9_add_46 (by decide) ?_
          exact ih.2.1 z _ _ (lI L 4 ((((L.1 4)) + 1))) r1.2.1 _ h hzk hc hs H locs ls hP hD hS (lv_sub hl [1, 2, 3, 4, 0] rfl)
        · subst hy
          exact Or.inr ⟨h00, rfl, hc, hs⟩
      · intro z cells slots L σ r h hzk hc hs H locs ls hP hD hS hl
        rw [f_X9_add__a19__z20__z21] at h
        obtain rfl := Option.some.inj h
        subst hc
        subst hs
        exact xr_v hx hb hr hK hzk hP hD hS hlocks dX9_add_134
      · intro z cells slots L σ r h hzk hc hs H locs ls hP hD hS hl
        rw [f_X9_add__a19__z20__z21] at h
        refine lv_aload_n hx hb dX9_add_124 rfl (lv_at hl 0 rfl) ?_
        refine lv_dup hx hb dX9_add_125 rfl ?_
        refine hg_24_4 hx hb hts in_f_X9_add__a19__z20__z21_X9 hown hK hP (hts _ (List.mem_cons_of_mem _ (List.mem_append_left _ (List.mem_append_left _ (List.mem_of_getElem? (i := 1) rfl))))) dX9_add_126 ?_
        refine lv_iconst (v := 1) hx hb dX9_add_129 (by decide) ?_
        refine lv_iadd hx hb dX9_add_130 ?_
        refine hp_24_4 hx hb hts in_f_X9_add__a19__z20__z21_X9 hown hK hP hD hS (hts _ (List.mem_cons_of_mem _ (List.mem_append_left _ (List.mem_append_left _ (List.mem_of_getElem? (i := 1) rfl))))) dX9_add_131 (fun H locs hP hD hS => ?_)
        exact ih.2.2.2.2.1 z _ _ L (uI σ 2404 ((((σ.1 2404)) + 1))) _ h hzk hc hs H locs ls hP hD hS (lv_sub hl [] rfl)
  exact (blk k0).1 z 0 0 L0 σ0 r0 h0 (zk_rf _ _) ((Nat.zero_add _).trans hmc) ((Nat.zero_add _).trans hms) s.heap [] ls hP hD hS hl
/-! X9_addNear__a19__z20__z21 -/
def f_X9_addNear__a19__z20__z21 : Nat → Nat → LV → CS → Option RS
  | 0, _, _, _ => none
  | k + 1, 0, L, σ => if 20000 < ((((((σ.1 2403)) + ((σ.1 1902)))) + ((σ.1 1913)))) then (f_X9_addNear__a19__z20__z21 k 1 L σ) else (f_X9_addNear__a19__z20__z21 k 2 (lI L 100 1) σ)
  | k + 1, 1, L, σ => f_X9_addNear__a19__z20__z21 k 2 (lI L 100 0) σ
  | k + 1, 2, L, σ => if ((L.1 100)) = 0 ∨ ((L.1 100)) = 1 then (if (((uI σ 2405 ((L.1 100))).1 2405)) = 0 then (f_X9_addNear__a19__z20__z21 k 3 L (uI σ 2405 ((L.1 100)))) else (ox (f_X9_store__a19__z20__z21 k 0 (lI lZ 1 8) (uI σ 2405 ((L.1 100)))) (fun r3 => f_X9_addNear__a19__z20__z21 k 3 L r3.2.1))) else none
  | k + 1, 3, L, σ => some ((0, 0), σ, (0, 0))
  | _ + 1, _ + 4, _, _ => none
def o_f_X9_addNear__a19__z20__z21 : List Cond := [.fieldLink RX9 38 "SetHouse$Saves" "filled" "I", .fieldLink RX9 44 "SetHouse$Saves" "near" "Z", .methodLink RX9 77 yX9_store, .instanceMethod yX9_store, .selects RX9 yX9_store yX9_store, .initialized RX9]
theorem o_f_X9_addNear__a19__z20__z21_good : o_f_X9_addNear__a19__z20__z21.all goodWord = true := by decide +kernel
def p_f_X9_addNear__a19__z20__z21 : List Cond := o_f_X9_addNear__a19__z20__z21 ++ ((.code yX9_store cX9_store 5 none :: p_f_X9_store__a19__z20__z21) ++ [])
theorem p_f_X9_addNear__a19__z20__z21_good : p_f_X9_addNear__a19__z20__z21.all goodWord = true := nb_all2 o_f_X9_addNear__a19__z20__z21_good (nb_all2 (nb_allc (by decide +kernel) p_f_X9_store__a19__z20__z21_good) rfl)
def w_f_X9_addNear__a19__z20__z21 : List Cond := .code yX9_addNear cX9_addNear 4 none :: (p_f_X9_addNear__a19__z20__z21 ++ fC)
theorem w_f_X9_addNear__a19__z20__z21_good : w_f_X9_addNear__a19__z20__z21.all goodWord = true := nb_allc (by decide +kernel) (nb_all2 p_f_X9_addNear__a19__z20__z21_good fC_good)
theorem in_f_X9_addNear__a19__z20__z21_X8 : ∀ w ∈ wsX80, w ∈ w_f_X9_addNear__a19__z20__z21 := fun _ h => List.mem_cons_of_mem _ (List.mem_append_right _ (List.mem_append_right _ (List.mem_append_right _ (List.mem_append_right _ (List.mem_append_right _ (List.mem_append_right _ (List.mem_append_right _ (List.mem_append_right _ (List.mem_append_left _ h)))))))))
theorem in_f_X9_addNear__a19__z20__z21_X9 : ∀ w ∈ wsX90, w ∈ w_f_X9_addNear__a19__z20__z21 := fun _ h => List.mem_cons_of_mem _ (List.mem_append_right _ (List.mem_append_right _ (List.mem_append_right _ (List.mem_append_right _ (List.mem_append_right _ (List.mem_append_right _ (List.mem_append_right _ (List.mem_append_right _ (List.mem_append_right _ (List.mem_append_left _ h))))))))))
theorem hd_f_X9_addNear__a19__z20__z21 : yX9_addNear.cls = RX9 ∧ yX9_addNear.cls ≠ "java/lang/invoke/MethodHandle" ∧ yX9_addNear.cls ≠ "java/lang/invoke/VarHandle" ∧ (parseMethodDescriptor yX9_addNear.desc).map (fun d => d.parameters.length) = some 3 := by decide +kernel
theorem gg_f_X9_addNear__a19__z20__z21_X9_store__a19__z20__z21 : GoodIn w_f_X9_addNear__a19__z20__z21 w_f_X9_store__a19__z20__z21 := goodIn_sub (fun w h => (List.mem_cons.mp h).elim (fun e => (List.mem_cons_of_mem _ (List.mem_append_left _ (List.mem_append_right _ (List.mem_append_left _ (List.mem_cons.mpr (Or.inl e))))))) (fun h => (List.mem_append.mp h).elim (fun h => (List.mem_cons_of_mem _ (List.mem_append_left _ (List.mem_append_right _ (List.mem_append_left _ (List.mem_cons_of_mem _ h)))))) (fun h => List.mem_cons_of_mem _ (List.mem_append_right _ h)))) w_f_X9_store__a19__z20__z21_good
theorem g_f_X9_addNear__a19__z20__z21_X9_store__a19__z20__z21_V77 : GoodIn w_f_X9_addNear__a19__z20__z21 (wsV RX9 77 RX9 yX9_store w_f_X9_store__a19__z20__z21) := goodIn_app (nb_g4 (List.mem_cons_of_mem _ (List.mem_append_left _ (List.mem_append_left _ (List.mem_of_getElem? (i := 2) rfl)))) (List.mem_cons_of_mem _ (List.mem_append_left _ (List.mem_append_left _ (List.mem_of_getElem? (i := 3) rfl)))) (List.mem_cons_of_mem _ (List.mem_append_left _ (List.mem_append_left _ (List.mem_of_getElem? (i := 4) rfl)))) (List.mem_cons_of_mem _ (List.mem_append_left _ (List.mem_append_left _ (List.mem_of_getElem? (i := 5) rfl)))) (by decide +kernel)) gg_f_X9_addNear__a19__z20__z21_X9_store__a19__z20__z21
set_option maxHeartbeats 40000000 in
set_option maxRecDepth 100000 in
theorem c_f_X9_addNear__a19__z20__z21 (l : Launch) (hl0 : l.stackTraces = false) (dC : Nat → ClassId) (dI : Nat → Nat → Nat) (cy : Nat → ClassId) (ek a : Nat → Nat) (k0 : Nat) (L0 : LV) (σ0 : CS) (r0 : RS) (h0 : f_X9_addNear__a19__z20__z21 k0 0 L0 σ0 = some r0) (z : Nat → Nat) (sz : Nat) : vx_Met l yX9_addNear w_f_X9_addNear__a19__z20__z21 ({ frames := 4, cells := r0.2.2.1, slots := r0.2.2.2, locals := 138 }) (va_Pc [.ref (a 24), .ref (a 19), .ref (z 20), .ref (z 21)] (nInF (dC, dI) cy ek sz (vC cy a z σ0))) (xV dC dI cy a (va_A (vC cy a z σ0) sz) [26] z r0) (xX dC dI cy a (va_A (vC cy a z σ0) sz) [26] z r0) r0.2.2.1 r0.2.2.2 (va_A (vC cy a z σ0) sz) := by
  refine vx_ofW (cc := cX9_addNear) (maxL := 4) (ret := none) (by decide) rfl ?_
  intro p e s m args below meth c s₁ B hml hno hv
  obtain ⟨rfl, ⟨⟨hsz, hP, hK, hD0, hG⟩, hE⟩, hT⟩ := hv
  have hx := B.exec
  have hb := B.bytes
  have hr := B.returns
  have hts := atoms_spec (ws := w_f_X9_addNear__a19__z20__z21) B.pre
  have hown : s.vm.findClass RX9 = some m.cls := findClass_of_methodNamed B.named
  have hlocks := B.notSynchronized
  subst hsz
  have hD := hD0.self (sz := s.heap.size)
  generalize hAe : va_A (vC cy a z σ0) s.heap.size = A at hD hE hT ⊢
  have hA : ∀ q : Nat, s.heap.size ≤ q → A q := fun q h => by rw [← hAe]; exact Or.inr h
  have hS : va_S A s.heap s.heap [] := va_S.rf
  have hl := lv_entry ([.ref (a 24), .ref (a 19), .ref (z 20), .ref (z 21)]) (n := 4) (Nat.le_of_ble_eq_true rfl)
  rw [lg_entry_eq]
  generalize (lg_sl ([.ref (a 24), .ref (a 19), .ref (z 20), .ref (z 21)]) ++ List.replicate (4 - (lg_sl ([.ref (a 24), .ref (a 19), .ref (z 20), .ref (z 21)])).length) Slot.unset).toArray = ls at hl ⊢
  have hl : lv_has ls 4 [(0, .ref (a 24)), (1, .ref (a 19)), (2, .ref (z 20)), (3, .ref (z 21))] := hl
  generalize hmc : r0.2.2.1 = mc
  generalize hms : r0.2.2.2 = ms
  have blk : ∀ k : Nat, (bX p l e (headSpec w_f_X9_addNear__a19__z20__z21 ({ frames := 4, cells := mc, slots := ms, locals := 138 })).room s m #[.ref (a 24), .ref (a 19), .ref (z 20), .ref (z 21)] below meth c dC dI cy a A (fun r => vx_MQ below (xV dC dI cy a A [26] z r) (xX dC dI cy a A [26] z r) #[.ref (a 24), .ref (a 19), .ref (z 20), .ref (z 21)] s mc ms A) [26] z mc ms 4 (f_X9_addNear__a19__z20__z21 k 0) (fun z L => [(0, .ref (a 24)), (1, .ref (a 19)), (2, .ref (z 20)), (3, .ref (z 21))]) 0 (fun z L => [])) ∧ (bX p l e (headSpec w_f_X9_addNear__a19__z20__z21 ({ frames := 4, cells := mc, slots := ms, locals := 138 })).room s m #[.ref (a 24), .ref (a 19), .ref (z 20), .ref (z 21)] below meth c dC dI cy a A (fun r => vx_MQ below (xV dC dI cy a A [26] z r) (xX dC dI cy a A [26] z r) #[.ref (a 24), .ref (a 19), .ref (z 20), .ref (z 21)] s mc ms A) [26] z mc ms 4 (f_X9_addNear__a19__z20__z21 k 1) (fun z L => [(0, .ref (a 24)), (1, .ref (a 19)), (2, .ref (z 20)), (3, .ref (z 21))]) 25 (fun z L => [.ref (a 24)])) ∧ (bX p l e (headSpec w_f_X9_addNear__a19__z20__z21 ({ frames := 4, cells := mc, slots := ms, locals := 138 })).room s m #[.ref (a 24), .ref (a 19), .ref (z 20), .ref (z 21)] below meth c dC dI cy a A (fun r => vx_MQ below (xV dC dI cy a A [26] z r) (xX dC dI cy a A [26] z r) #[.ref (a 24), .ref (a 19), .ref (z 20), .ref (z 21)] s mc ms A) [26] z mc ms 4 (f_X9_addNear__a19__z20__z21 k 2) (fun z L => [(0, .ref (a 24)), (1, .ref (a 19)), (2, .ref (z 20)), (3, .ref (z 21))]) 26 (fun z L => [.int (L.1 100), .ref (a 24)])) ∧ (bX p l e (headSpec w_f_X9_addNear__a19__z20__z21 ({ frames := 4, cells := mc, slots := ms, locals := 138 })).room s m #[.ref (a 24), .ref (a 19), .ref (z 20), .ref (z 21)] below meth c dC dI cy a A (fun r => vx_MQ below (xV dC dI cy a A [26] z r) (xX dC dI cy a A [26] z r) #[.ref (a 24), .ref (a 19), .ref (z 20), .ref (z 21)] s mc ms A) [26] z mc ms 4 (f_X9_addNear__a19__z20__z21 k 3) (fun z L => []) 45 (fun z L => [])) := by
    intro k
    induction k with
    | zero => exact ⟨fun z c1 c2 L σ r h => (by cases h), fun z c1 c2 L σ r h => (by cases h), fun z c1 c2 L σ r h => (by cases h), fun z c1 c2 L σ r h => (by cases h)⟩
    | succ k ih =>
      refine ⟨?_, ?_, ?_, ?_⟩
      · intro z cells slots L σ r h hzk hc hs H locs ls hP hD hS hl
        rw [f_X9_addNear__a19__z20__z21] at h
        refine lv_aload_n hx hb dX9_addNear_0 rfl (lv_at hl 0 rfl) ?_
        refine lv_aload_n hx hb dX9_addNear_1 rfl (lv_at hl 0 rfl) ?_
        refine hg_24_3 hx hb hts in_f_X9_addNear__a19__z20__z21_X9 hown hK hP (hts _ (List.mem_cons_of_mem _ (List.mem_append_left _ (List.mem_append_left _ (List.mem_of_getElem? (i := 0) rfl))))) dX9_addNear_2 ?_
        refine lv_aload_n hx hb dX9_addNear_5 rfl (lv_at hl 1 rfl) ?_
        refine hg_19_2n hx hb hts in_f_X9_addNear__a19__z20__z21_X8 hown hK hP (va_Nw.use rfl (hG.1 _ (List.mem_of_getElem? (i := 11) rfl))) dX9_addNear_6 ?_
        refine lv_iadd hx hb dX9_addNear_9 ?_
        refine lv_aload_n hx hb dX9_addNear_10 rfl (lv_at hl 1 rfl) ?_
        refine hg_19_13n hx hb hts in_f_X9_addNear__a19__z20__z21_X8 hown hK hP (va_Nw.use rfl (hG.1 _ (List.mem_of_getElem? (i := 35) rfl))) dX9_addNear_11 ?_
        refine lv_iadd hx hb dX9_addNear_14 ?_
        refine lv_sipush (v := 20000) hx hb dX9_addNear_15 (by decide) ?_
        refine lv_icmp_gt (tgt := 25) hx hb dX9_addNear_18 (by decide) (fun c1 => ?_) (fun c1 => ?_)
        · rw [if_pos c1] at h
          exact ih.2.1 z _ _ L σ _ h hzk hc hs H locs ls hP hD hS (lv_sub hl [0, 1, 2, 3] rfl)
        · rw [if_neg c1] at h
          refine lv_iconst (v := 1) hx hb dX9_addNear_21 (by decide) ?_
          refine lv_goto (tgt := 26) hx hb dX9_addNear_22 (by decide) ?_
          exact ih.2.2.1 z _ _ (lI L 100 1) σ _ h hzk hc hs H locs ls hP hD hS (lv_sub hl [0, 1, 2, 3] rfl)
      · intro z cells slots L σ r h hzk hc hs H locs ls hP hD hS hl
        rw [f_X9_addNear__a19__z20__z21] at h
        refine lv_iconst (v := 0) hx hb dX9_addNear_25 (by decide) ?_
        exact ih.2.2.1 z _ _ (lI L 100 0) σ _ h hzk hc hs H locs ls hP hD hS (lv_sub hl [0, 1, 2, 3] rfl)
      · intro z cells slots L σ r h hzk hc hs H locs ls hP hD hS hl
        rw [f_X9_addNear__a19__z20__z21] at h
        obtain ⟨q1, h⟩ := kr_ite1 h
        refine hp_24_5 hx hb hts in_f_X9_addNear__a19__z20__z21_X9 hown hK hP hD hS (hts _ (List.mem_cons_of_mem _ (List.mem_append_left _ (List.mem_append_left _ (List.mem_of_getElem? (i := 1) rfl))))) q1 dX9_addNear_26 (fun H locs hP hD hS => ?_)
        refine lv_aload_n hx hb dX9_addNear_29 rfl (lv_at hl 0 rfl) ?_
        refine hg_24_5 hx hb hts in_f_X9_addNear__a19__z20__z21_X9 hown hK hP (hts _ (List.mem_cons_of_mem _ (List.mem_append_left _ (List.mem_append_left _ (List.mem_of_getElem? (i := 1) rfl))))) dX9_addNear_30 ?_
        refine lv_if_eq (tgt := 45) hx hb dX9_addNear_33 (by decide) (fun c2 => ?_) (fun c2 => ?_)
        · rw [if_pos c2] at h
          exact ih.2.2.2 z _ _ L (uI σ 2405 ((L.1 100))) _ h hzk hc hs H locs ls hP hD hS (lv_sub hl [] rfl)
        · rw [if_neg c2] at h
          refine lv_aload_n hx hb dX9_addNear_36 rfl (lv_at hl 0 rfl) ?_
          refine lv_bipush (v := 8) hx hb dX9_addNear_37 (by decide) ?_
          refine lv_aload_n hx hb dX9_addNear_39 rfl (lv_at hl 1 rfl) ?_
          refine lv_aload_n hx hb dX9_addNear_40 rfl (lv_at hl 2 rfl) ?_
          refine lv_aload_n hx hb dX9_addNear_41 rfl (lv_at hl 3 rfl) ?_
          obtain ⟨r3, hc3, hle3, h9⟩ := ox_ex h
          clear h
          refine kx_v (vx_runV (As := [.int 8, .ref (a 19), .ref (z 20), .ref (z 21)]) (rest := []) ⟨hx, hb, hml, hown, hts⟩ (c_f_X9_store__a19__z20__z21 l hl0 dC dI cy ek a k (lI lZ 1 8) (uI σ 2405 ((L.1 100))) r3 hc3 z H.size) (cwV 4 hts g_f_X9_addNear__a19__z20__z21_X9_store__a19__z20__z21_V77 rfl rfl rfl hd_f_X9_store__a19__z20__z21 ⟨Nat.le_of_ble_eq_true rfl, Nat.le_of_ble_eq_true rfl⟩) ⟨nb_blindF, va_recv hK hP (ci := 8) (q0 := 24) rfl rfl, (kx_pre hK hG hE hT hA hP hD hS)⟩ rfl rfl hl.1 rfl (lv_room (Nat.le_of_ble_eq_true rfl)) dX9_addNear_42 ⟨Nat.le_trans (Nat.add_le_add_left hle3.1 _) (Nat.le_of_eq hc), Nat.le_trans (Nat.add_le_add_left hle3.2 _) (Nat.le_of_eq hs)⟩) hK hA hzk hP hD hS (by decide) hno hlocks ?_
          rcases h9 with ⟨h00, y3, hny3, hy⟩ | ⟨h00, hy⟩
          · subst hy
            have h := hny3
            refine Or.inl ⟨h00, fun z H locs hz3 hzk hP hD hS => ?_⟩
            try dsimp only at hl
            rw [← hz3 20 (by decide)] at hl
            rw [← hz3 21 (by decide)] at hl
            replace hc := (Nat.add_assoc _ _ _).trans hc
            replace hs := (Nat.add_assoc _ _ _).trans hs
            exact ih.2.2.2 z _ _ L r3.2.1 _ h hzk hc hs H locs ls hP hD hS (lv_sub hl [] rfl)
          · subst hy
            exact Or.inr ⟨h00, rfl, hc, hs⟩
      · intro z cells slots L σ r h hzk hc hs H locs ls hP hD hS hl
        rw [f_X9_addNear__a19__z20__z21] at h
        obtain rfl := Option.some.inj h
        subst hc
        subst hs
        exact xr_v hx hb hr hK hzk hP hD hS hlocks dX9_addNear_45
  exact (blk k0).1 z 0 0 L0 σ0 r0 h0 (zk_rf _ _) ((Nat.zero_add _).trans hmc) ((Nat.zero_add _).trans hms) s.heap [] ls hP hD hS hl
/-! X3_save -/
def f_X3_save : Nat → Nat → LV → CS → Option RS
  | 0, _, _, _ => none
  | k + 1, 0, L, σ => if (((uI σ 1900 ((L.1 1))).1 1903)) = (((uI σ 1900 ((L.1 1))).1 2407)) then (ox (f_X9_add__a19__z20__z21 k 0 lZ (uI σ 1900 ((L.1 1)))) (fun r2 => f_X3_save k 1 (lI L 2 ((σ.1 1900))) r2.2.1)) else (f_X3_save k 1 (lI L 2 ((σ.1 1900))) (uI σ 1900 ((L.1 1))))
  | k + 1, 1, L, σ => if ((σ.1 1903)) = ((σ.1 2408)) then (ox (f_X9_addNear__a19__z20__z21 k 0 lZ σ) (fun r2 => f_X3_save k 2 L r2.2.1)) else (f_X3_save k 2 L σ)
  | k + 1, 2, L, σ => some ((0, 0), (uI σ 1900 ((L.1 2))), (0, 0))
  | _ + 1, _ + 3, _, _ => none
def o_f_X3_save : List Cond := [.fieldLink RX3 14 "SetHouse$Machine" "run" "LSetHouse$Run;", .fieldLink RX3 35 "SetHouse$Machine" "saves" "LSetHouse$Saves;", .fieldLink RX3 18 "SetHouse$Machine" "stack" "[I", .fieldLink RX3 22 "SetHouse$Machine" "points" "[I", .methodLink RX3 352 yX9_add, .instanceMethod yX9_add, .selects RX9 yX9_add yX9_add, .initialized RX9, .methodLink RX3 356 yX9_addNear, .instanceMethod yX9_addNear, .selects RX9 yX9_addNear yX9_addNear]
theorem o_f_X3_save_good : o_f_X3_save.all goodWord = true := by decide +kernel
def p_f_X3_save : List Cond := o_f_X3_save ++ ((.code yX9_add cX9_add 5 none :: p_f_X9_add__a19__z20__z21) ++ ((.code yX9_addNear cX9_addNear 4 none :: p_f_X9_addNear__a19__z20__z21) ++ []))
theorem p_f_X3_save_good : p_f_X3_save.all goodWord = true := nb_all2 o_f_X3_save_good (nb_all2 (nb_allc (by decide +kernel) p_f_X9_add__a19__z20__z21_good) (nb_all2 (nb_allc (by decide +kernel) p_f_X9_addNear__a19__z20__z21_good) rfl))
def w_f_X3_save : List Cond := .code yX3_save cX3_save 3 none :: (p_f_X3_save ++ fC)
theorem w_f_X3_save_good : w_f_X3_save.all goodWord = true := nb_allc (by decide +kernel) (nb_all2 p_f_X3_save_good fC_good)
theorem in_f_X3_save_X3 : ∀ w ∈ wsX30, w ∈ w_f_X3_save := fun _ h => List.mem_cons_of_mem _ (List.mem_append_right _ (List.mem_append_right _ (List.mem_append_right _ (List.mem_append_right _ (List.mem_append_left _ h)))))
theorem in_f_X3_save_X8 : ∀ w ∈ wsX80, w ∈ w_f_X3_save := fun _ h => List.mem_cons_of_mem _ (List.mem_append_right _ (List.mem_append_right _ (List.mem_append_right _ (List.mem_append_right _ (List.mem_append_right _ (List.mem_append_right _ (List.mem_append_right _ (List.mem_append_right _ (List.mem_append_left _ h)))))))))
theorem in_f_X3_save_X9 : ∀ w ∈ wsX90, w ∈ w_f_X3_save := fun _ h => List.mem_cons_of_mem _ (List.mem_append_right _ (List.mem_append_right _ (List.mem_append_right _ (List.mem_append_right _ (List.mem_append_right _ (List.mem_append_right _ (List.mem_append_right _ (List.mem_append_right _ (List.mem_append_right _ (List.mem_append_left _ h))))))))))
theorem hd_f_X3_save : yX3_save.cls = RX3 ∧ yX3_save.cls ≠ "java/lang/invoke/MethodHandle" ∧ yX3_save.cls ≠ "java/lang/invoke/VarHandle" ∧ (parseMethodDescriptor yX3_save.desc).map (fun d => d.parameters.length) = some 1 := by decide +kernel
theorem gg_f_X3_save_X9_addNear__a19__z20__z21 : GoodIn w_f_X3_save w_f_X9_addNear__a19__z20__z21 := goodIn_sub (fun w h => (List.mem_cons.mp h).elim (fun e => (List.mem_cons_of_mem _ (List.mem_append_left _ (List.mem_append_right _ (List.mem_append_right _ (List.mem_append_left _ (List.mem_cons.mpr (Or.inl e)))))))) (fun h => (List.mem_append.mp h).elim (fun h => (List.mem_cons_of_mem _ (List.mem_append_left _ (List.mem_append_right _ (List.mem_append_right _ (List.mem_append_left _ (List.mem_cons_of_mem _ h))))))) (fun h => List.mem_cons_of_mem _ (List.mem_append_right _ h)))) w_f_X9_addNear__a19__z20__z21_good
theorem g_f_X3_save_X9_addNear__a19__z20__z21_V356 : GoodIn w_f_X3_save (wsV RX3 356 RX9 yX9_addNear w_f_X9_addNear__a19__z20__z21) := goodIn_app (nb_g4 (List.mem_cons_of_mem _ (List.mem_append_left _ (List.mem_append_left _ (List.mem_of_getElem? (i := 8) rfl)))) (List.mem_cons_of_mem _ (List.mem_append_left _ (List.mem_append_left _ (List.mem_of_getElem? (i := 9) rfl)))) (List.mem_cons_of_mem _ (List.mem_append_left _ (List.mem_append_left _ (List.mem_of_getElem? (i := 10) rfl)))) (List.mem_cons_of_mem _ (List.mem_append_left _ (List.mem_append_left _ (List.mem_of_getElem? (i := 7) rfl)))) (by decide +kernel)) gg_f_X3_save_X9_addNear__a19__z20__z21
theorem gg_f_X3_save_X9_add__a19__z20__z21 : GoodIn w_f_X3_save w_f_X9_add__a19__z20__z21 := goodIn_sub (fun w h => (List.mem_cons.mp h).elim (fun e => (List.mem_cons_of_mem _ (List.mem_append_left _ (List.mem_append_right _ (List.mem_append_left _ (List.mem_cons.mpr (Or.inl e))))))) (fun h => (List.mem_append.mp h).elim (fun h => (List.mem_cons_of_mem _ (List.mem_append_left _ (List.mem_append_right _ (List.mem_append_left _ (List.mem_cons_of_mem _ h)))))) (fun h => List.mem_cons_of_mem _ (List.mem_append_right _ h)))) w_f_X9_add__a19__z20__z21_good
theorem g_f_X3_save_X9_add__a19__z20__z21_V352 : GoodIn w_f_X3_save (wsV RX3 352 RX9 yX9_add w_f_X9_add__a19__z20__z21) := goodIn_app (nb_g4 (List.mem_cons_of_mem _ (List.mem_append_left _ (List.mem_append_left _ (List.mem_of_getElem? (i := 4) rfl)))) (List.mem_cons_of_mem _ (List.mem_append_left _ (List.mem_append_left _ (List.mem_of_getElem? (i := 5) rfl)))) (List.mem_cons_of_mem _ (List.mem_append_left _ (List.mem_append_left _ (List.mem_of_getElem? (i := 6) rfl)))) (List.mem_cons_of_mem _ (List.mem_append_left _ (List.mem_append_left _ (List.mem_of_getElem? (i := 7) rfl)))) (by decide +kernel)) gg_f_X3_save_X9_add__a19__z20__z21
set_option maxHeartbeats 40000000 in
set_option maxRecDepth 100000 in
theorem c_f_X3_save (l : Launch) (hl0 : l.stackTraces = false) (dC : Nat → ClassId) (dI : Nat → Nat → Nat) (cy : Nat → ClassId) (ek a : Nat → Nat) (k0 : Nat) (L0 : LV) (σ0 : CS) (r0 : RS) (h0 : f_X3_save k0 0 L0 σ0 = some r0) (z : Nat → Nat) (sz : Nat) : vx_Met l yX3_save w_f_X3_save ({ frames := 5, cells := r0.2.2.1, slots := r0.2.2.2, locals := 162 }) (va_Pc [.ref (a 18), .int (L0.1 1)] (nInF (dC, dI) cy ek sz (vC cy a z σ0))) (xV dC dI cy a (va_A (vC cy a z σ0) sz) [26] z r0) (xX dC dI cy a (va_A (vC cy a z σ0) sz) [26] z r0) r0.2.2.1 r0.2.2.2 (va_A (vC cy a z σ0) sz) := by
  refine vx_ofW (cc := cX3_save) (maxL := 3) (ret := none) (by decide) rfl ?_
  intro p e s m args below meth c s₁ B hml hno hv
  obtain ⟨rfl, ⟨⟨hsz, hP, hK, hD0, hG⟩, hE⟩, hT⟩ := hv
  have hx := B.exec
  have hb := B.bytes
  have hr := B.returns
  have hts := atoms_spec (ws := w_f_X3_save) B.pre
  have hown : s.vm.findClass RX3 = some m.cls := findClass_of_methodNamed B.named
  have hlocks := B.notSynchronized
  subst hsz
  have hD := hD0.self (sz := s.heap.size)
  generalize hAe : va_A (vC cy a z σ0) s.heap.size = A at hD hE hT ⊢
  have hA : ∀ q : Nat, s.heap.size ≤ q → A q := fun q h => by rw [← hAe]; exact Or.inr h
  have hS : va_S A s.heap s.heap [] := va_S.rf
  have hl := lv_entry ([.ref (a 18), .int (L0.1 1)]) (n := 3) (Nat.le_of_ble_eq_true rfl)
  rw [lg_entry_eq]
  generalize (lg_sl ([.ref (a 18), .int (L0.1 1)]) ++ List.replicate (3 - (lg_sl ([.ref (a 18), .int (L0.1 1)])).length) Slot.unset).toArray = ls at hl ⊢
  have hl : lv_has ls 3 [(0, .ref (a 18)), (1, .int (L0.1 1))] := hl
  generalize hmc : r0.2.2.1 = mc
  generalize hms : r0.2.2.2 = ms
  have blk : ∀ k : Nat, (bX p l e (headSpec w_f_X3_save ({ frames := 5, cells := mc, slots := ms, locals := 162 })).room s m #[.ref (a 18), .int (L0.1 1)] below meth c dC dI cy a A (fun r => vx_MQ below (xV dC dI cy a A [26] z r) (xX dC dI cy a A [26] z r) #[.ref (a 18), .int (L0.1 1)] s mc ms A) [26] z mc ms 3 (f_X3_save k 0) (fun z L => [(0, .ref (a 18)), (1, .int (L.1 1))]) 0 (fun z L => [])) ∧ (bX p l e (headSpec w_f_X3_save ({ frames := 5, cells := mc, slots := ms, locals := 162 })).room s m #[.ref (a 18), .int (L0.1 1)] below meth c dC dI cy a A (fun r => vx_MQ below (xV dC dI cy a A [26] z r) (xX dC dI cy a A [26] z r) #[.ref (a 18), .int (L0.1 1)] s mc ms A) [26] z mc ms 3 (f_X3_save k 1) (fun z L => [(0, .ref (a 18)), (2, .int (L.1 2))]) 52 (fun z L => [])) ∧ (bX p l e (headSpec w_f_X3_save ({ frames := 5, cells := mc, slots := ms, locals := 162 })).room s m #[.ref (a 18), .int (L0.1 1)] below meth c dC dI cy a A (fun r => vx_MQ below (xV dC dI cy a A [26] z r) (xX dC dI cy a A [26] z r) #[.ref (a 18), .int (L0.1 1)] s mc ms A) [26] z mc ms 3 (f_X3_save k 2) (fun z L => [(0, .ref (a 18)), (2, .int (L.1 2))]) 88 (fun z L => [])) := by
    intro k
    induction k with
    | zero => exact ⟨fun z c1 c2 L σ r h => (by cases h), fun z c1 c2 L σ r h => (by cases h), fun z c1 c2 L σ r h => (by cases h)⟩
    | succ k ih =>
      refine ⟨?_, ?_, ?_⟩
      · intro z cells slots L σ r h hzk hc hs H locs ls hP hD hS hl
        rw [f_X3_save] at h
        refine lv_aload_n hx hb dX3_save_0 rfl (lv_at hl 0 rfl) ?_
        refine hg_18_5 hx hb hts in_f_X3_save_X3 hown hK hP (hts _ (List.mem_cons_of_mem _ (List.mem_append_left _ (List.mem_append_left _ (List.mem_of_getElem? (i := 0) rfl))))) dX3_save_1 ?_
        refine hg_19_0n hx hb hts in_f_X3_save_X8 hown hK hP (va_Nw.use rfl (hG.1 _ (List.mem_of_getElem? (i := 8) rfl))) dX3_save_4 ?_
        refine lv_istore_n (lv' := [(2, .int (σ.1 1900)), (0, .ref (a 18)), (1, .int (L.1 1))]) hx hb dX3_save_7 rfl hl (by decide) rfl (fun ls hl => ?_)
        refine lv_aload_n hx hb dX3_save_8 rfl (lv_at hl 1 rfl) ?_
        refine hg_18_5 hx hb hts in_f_X3_save_X3 hown hK hP (hts _ (List.mem_cons_of_mem _ (List.mem_append_left _ (List.mem_append_left _ (List.mem_of_getElem? (i := 0) rfl))))) dX3_save_9 ?_
        refine lv_iload_n hx hb dX3_save_12 rfl (lv_at hl 2 rfl) ?_
        refine hp_19_0n hx hb hts in_f_X3_save_X8 hown hK hP hD hS (va_Nw.use rfl (hG.1 _ (List.mem_of_getElem? (i := 8) rfl))) dX3_save_13 (fun H locs hP hD hS => ?_)
        refine lv_aload_n hx hb dX3_save_16 rfl (lv_at hl 1 rfl) ?_
        refine hg_18_5 hx hb hts in_f_X3_save_X3 hown hK hP (hts _ (List.mem_cons_of_mem _ (List.mem_append_left _ (List.mem_append_left _ (List.mem_of_getElem? (i := 0) rfl))))) dX3_save_17 ?_
        refine hg_19_3n hx hb hts in_f_X3_save_X8 hown hK hP (va_Nw.use rfl (hG.1 _ (List.mem_of_getElem? (i := 12) rfl))) dX3_save_20 ?_
        refine lv_aload_n hx hb dX3_save_23 rfl (lv_at hl 1 rfl) ?_
        refine hg_18_18 hx hb hts in_f_X3_save_X3 hown hK hP (hts _ (List.mem_cons_of_mem _ (List.mem_append_left _ (List.mem_append_left _ (List.mem_of_getElem? (i := 1) rfl))))) dX3_save_24 ?_
        refine hg_24_7n hx hb hts in_f_X3_save_X9 hown hK hP (va_Nw.use rfl (hG.1 _ (List.mem_of_getElem? (i := 45) rfl))) dX3_save_27 ?_
        refine lv_icmp_ne (tgt := 52) hx hb dX3_save_30 (by decide) (fun c1 => ?_) (fun c1 => ?_)
        · rw [if_neg c1] at h
          exact ih.2.1 z _ _ (lI L 2 ((σ.1 1900))) (uI σ 1900 ((L.1 1))) _ h hzk hc hs H locs ls hP hD hS (lv_sub hl [1, 0] rfl)
        · rw [if_pos c1] at h
          refine lv_aload_n hx hb dX3_save_33 rfl (lv_at hl 1 rfl) ?_
          refine hg_18_18 hx hb hts in_f_X3_save_X3 hown hK hP (hts _ (List.mem_cons_of_mem _ (List.mem_append_left _ (List.mem_append_left _ (List.mem_of_getElem? (i := 1) rfl))))) dX3_save_34 ?_
          refine lv_aload_n hx hb dX3_save_37 rfl (lv_at hl 1 rfl) ?_
          refine hg_18_5 hx hb hts in_f_X3_save_X3 hown hK hP (hts _ (List.mem_cons_of_mem _ (List.mem_append_left _ (List.mem_append_left _ (List.mem_of_getElem? (i := 0) rfl))))) dX3_save_38 ?_
          refine lv_aload_n hx hb dX3_save_41 rfl (lv_at hl 1 rfl) ?_
          refine hg_18_7 hx hb hts in_f_X3_save_X3 hown hK hP (hts _ (List.mem_cons_of_mem _ (List.mem_append_left _ (List.mem_append_left _ (List.mem_of_getElem? (i := 2) rfl))))) dX3_save_42 ?_
          refine lv_aload_n hx hb dX3_save_45 rfl (lv_at hl 1 rfl) ?_
          refine hg_18_8 hx hb hts in_f_X3_save_X3 hown hK hP (hts _ (List.mem_cons_of_mem _ (List.mem_append_left _ (List.mem_append_left _ (List.mem_of_getElem? (i := 3) rfl))))) dX3_save_46 ?_
          obtain ⟨r2, hc2, hle2, h9⟩ := ox_ex h
          clear h
          refine kx_v (vx_runV (As := [.ref (a 19), .ref (z 20), .ref (z 21)]) (rest := []) ⟨hx, hb, hml, hown, hts⟩ (c_f_X9_add__a19__z20__z21 l hl0 dC dI cy ek a k lZ (uI σ 1900 ((L.1 1))) r2 hc2 z H.size) (cwV 3 hts g_f_X3_save_X9_add__a19__z20__z21_V352 rfl rfl rfl hd_f_X9_add__a19__z20__z21 ⟨Nat.le_of_ble_eq_true rfl, Nat.le_of_ble_eq_true rfl⟩) ⟨nb_blindF, va_recv hK hP (ci := 8) (q0 := 24) rfl rfl, (kx_pre hK hG hE hT hA hP hD hS)⟩ rfl rfl hl.1 rfl (lv_room (Nat.le_of_ble_eq_true rfl)) dX3_save_49 ⟨Nat.le_trans (Nat.add_le_add_left hle2.1 _) (Nat.le_of_eq hc), Nat.le_trans (Nat.add_le_add_left hle2.2 _) (Nat.le_of_eq hs)⟩) hK hA hzk hP hD hS (by decide) hno hlocks ?_
          rcases h9 with ⟨h00, y2, hny2, hy⟩ | ⟨h00, hy⟩
          · subst hy
            have h := hny2
            refine Or.inl ⟨h00, fun z H locs hz2 hzk hP hD hS => ?_⟩
            replace hc := (Nat.add_assoc _ _ _).trans hc
            replace hs := (Nat.add_assoc _ _ _).trans hs
            exact ih.2.1 z _ _ (lI L 2 ((σ.1 1900))) r2.2.1 _ h hzk hc hs H locs ls hP hD hS (lv_sub hl [1, 0] rfl)
          · subst hy
            exact Or.inr ⟨h00, rfl, hc, hs⟩
      · intro z cells slots L σ r h hzk hc hs H locs ls hP hD hS hl
        rw [f_X3_save] at h
        refine lv_aload_n hx hb dX3_save_52 rfl (lv_at hl 0 rfl) ?_
        refine hg_18_5 hx hb hts in_f_X3_save_X3 hown hK hP (hts _ (List.mem_cons_of_mem _ (List.mem_append_left _ (List.mem_append_left _ (List.mem_of_getElem? (i := 0) rfl))))) dX3_save_53 ?_
        refine hg_19_3n hx hb hts in_f_X3_save_X8 hown hK hP (va_Nw.use rfl (hG.1 _ (List.mem_of_getElem? (i := 12) rfl))) dX3_save_56 ?_
        refine lv_aload_n hx hb dX3_save_59 rfl (lv_at hl 0 rfl) ?_
        refine hg_18_18 hx hb hts in_f_X3_save_X3 hown hK hP (hts _ (List.mem_cons_of_mem _ (List.mem_append_left _ (List.mem_append_left _ (List.mem_of_getElem? (i := 1) rfl))))) dX3_save_60 ?_
        refine hg_24_8n hx hb hts in_f_X3_save_X9 hown hK hP (va_Nw.use rfl (hG.1 _ (List.mem_of_getElem? (i := 46) rfl))) dX3_save_63 ?_
        refine lv_icmp_ne (tgt := 88) hx hb dX3_save_66 (by decide) (fun c1 => ?_) (fun c1 => ?_)
        · rw [if_neg c1] at h
          exact ih.2.2 z _ _ L σ _ h hzk hc hs H locs ls hP hD hS (lv_sub hl [0, 1] rfl)
        · rw [if_pos c1] at h
          refine lv_aload_n hx hb dX3_save_69 rfl (lv_at hl 0 rfl) ?_
          refine hg_18_18 hx hb hts in_f_X3_save_X3 hown hK hP (hts _ (List.mem_cons_of_mem _ (List.mem_append_left _ (List.mem_append_left _ (List.mem_of_getElem? (i := 1) rfl))))) dX3_save_70 ?_
          refine lv_aload_n hx hb dX3_save_73 rfl (lv_at hl 0 rfl) ?_
          refine hg_18_5 hx hb hts in_f_X3_save_X3 hown hK hP (hts _ (List.mem_cons_of_mem _ (List.mem_append_left _ (List.mem_append_left _ (List.mem_of_getElem? (i := 0) rfl))))) dX3_save_74 ?_
          refine lv_aload_n hx hb dX3_save_77 rfl (lv_at hl 0 rfl) ?_
          refine hg_18_7 hx hb hts in_f_X3_save_X3 hown hK hP (hts _ (List.mem_cons_of_mem _ (List.mem_append_left _ (List.mem_append_left _ (List.mem_of_getElem? (i := 2) rfl))))) dX3_save_78 ?_
          refine lv_aload_n hx hb dX3_save_81 rfl (lv_at hl 0 rfl) ?_
          refine hg_18_8 hx hb hts in_f_X3_save_X3 hown hK hP (hts _ (List.mem_cons_of_mem _ (List.mem_append_left _ (List.mem_append_left _ (List.mem_of_getElem? (i := 3) rfl))))) dX3_save_82 ?_
          obtain ⟨r2, hc2, hle2, h9⟩ := ox_ex h
          clear h
          refine kx_v (vx_runV (As := [.ref (a 19), .ref (z 20), .ref (z 21)]) (rest := []) ⟨hx, hb, hml, hown, hts⟩ (c_f_X9_addNear__a19__z20__z21 l hl0 dC dI cy ek a k lZ σ r2 hc2 z H.size) (cwV 3 hts g_f_X3_save_X9_addNear__a19__z20__z21_V356 rfl rfl rfl hd_f_X9_addNear__a19__z20__z21 ⟨Nat.le_of_ble_eq_true rfl, Nat.le_of_ble_eq_true rfl⟩) ⟨nb_blindF, va_recv hK hP (ci := 8) (q0 := 24) rfl rfl, (kx_pre hK hG hE hT hA hP hD hS)⟩ rfl rfl hl.1 rfl (lv_room (Nat.le_of_ble_eq_true rfl)) dX3_save_85 ⟨Nat.le_trans (Nat.add_le_add_left hle2.1 _) (Nat.le_of_eq hc), Nat.le_trans (Nat.add_le_add_left hle2.2 _) (Nat.le_of_eq hs)⟩) hK hA hzk hP hD hS (by decide) hno hlocks ?_
          rcases h9 with ⟨h00, y2, hny2, hy⟩ | ⟨h00, hy⟩
          · subst hy
            have h := hny2
            refine Or.inl ⟨h00, fun z H locs hz2 hzk hP hD hS => ?_⟩
            replace hc := (Nat.add_assoc _ _ _).trans hc
            replace hs := (Nat.add_assoc _ _ _).trans hs
            exact ih.2.2 z _ _ L r2.2.1 _ h hzk hc hs H locs ls hP hD hS (lv_sub hl [0, 1] rfl)
          · subst hy
            exact Or.inr ⟨h00, rfl, hc, hs⟩
      · intro z cells slots L σ r h hzk hc hs H locs ls hP hD hS hl
        rw [f_X3_save] at h
        refine lv_aload_n hx hb dX3_save_88 rfl (lv_at hl 0 rfl) ?_
        refine hg_18_5 hx hb hts in_f_X3_save_X3 hown hK hP (hts _ (List.mem_cons_of_mem _ (List.mem_append_left _ (List.mem_append_left _ (List.mem_of_getElem? (i := 0) rfl))))) dX3_save_89 ?_
        refine lv_iload_n hx hb dX3_save_92 rfl (lv_at hl 1 rfl) ?_
        refine hp_19_0n hx hb hts in_f_X3_save_X8 hown hK hP hD hS (va_Nw.use rfl (hG.1 _ (List.mem_of_getElem? (i := 8) rfl))) dX3_save_93 (fun H locs hP hD hS => ?_)
        obtain rfl := Option.some.inj h
        subst hc
        subst hs
        exact xr_v hx hb hr hK hzk hP hD hS hlocks dX3_save_96
  exact (blk k0).1 z 0 0 L0 σ0 r0 h0 (zk_rf _ _) ((Nat.zero_add _).trans hmc) ((Nat.zero_add _).trans hms) s.heap [] ls hP hD hS hl
/-! X3_flow -/
def f_X3_flow : Nat → Nat → LV → CS → Option RS
  | 0, _, _, _ => none
  | k + 1, 0, L, σ => if ((L.1 1)) = (0 : Int32) then (f_X3_flow k 1 L σ) else (if ((L.1 1)) = (1 : Int32) then (f_X3_flow k 2 L σ) else (if ((L.1 1)) = (2 : Int32) then (f_X3_flow k 2 L σ) else (if ((L.1 1)) = (3 : Int32) then (f_X3_flow k 3 L σ) else (if ((L.1 1)) = (4 : Int32) then (f_X3_flow k 4 L σ) else (if ((L.1 1)) = (5 : Int32) then (f_X3_flow k 4 L σ) else (if ((L.1 1)) = (6 : Int32) then (f_X3_flow k 5 L σ) else (if ((L.1 1)) = (7 : Int32) then (f_X3_flow k 5 L σ) else (if ((L.1 1)) = (8 : Int32) then (f_X3_flow k 6 L σ) else (if ((L.1 1)) = (9 : Int32) then (f_X3_flow k 7 L σ) else (f_X3_flow k 8 L σ))))))))))
  | k + 1, 1, L, σ => if ((σ.1 1814)) ≤ 0 then (f_X3_flow k 9 L σ) else (if ((σ.1 1903)) = ((σ.1 2408)) then (f_X3_flow k 10 L σ) else (if ((σ.1 1903)) = ((σ.1 2407)) then (f_X3_flow k 10 L σ) else (f_X3_flow k 9 L σ)))
  | k + 1, 2, L, σ => f_X3_flow k 11 L (uI (uI σ 1907 1) 1812 1)
  | k + 1, 3, L, σ => f_X3_flow k 11 L (uI σ 1900 ((((L.1 3)) + ((L.1 2)))))
  | k + 1, 4, L, σ => op (y_X3_pop k 0 lZ σ) (fun r1 => op (y_X3_wantTruth k 0 (lI lZ 1 r1.1) r1.2) (fun r2 => if r2.1 = 0 then (f_X3_flow k 11 L r2.2) else (if r1.1 = ((-1879048191)) then (f_X3_flow k 13 (lI L 100 1) r2.2) else (f_X3_flow k 12 L r2.2))))
  | k + 1, 5, L, σ => if ((L.1 1)) = 7 then (f_X3_flow k 15 (lI L 100 ((-1879048191))) σ) else (f_X3_flow k 14 L σ)
  | k + 1, 6, L, σ => if ¬ (((((σ.1 1902)) - 1)) < 0 ∨ (sN σ 20) ≤ ((((σ.1 1902)) - 1)).toNatClampNeg) then (op (y_X3_wantTruth k 0 (lI lZ 1 ((σ.2.2.1 20 ((((σ.1 1902)) - 1)).toNatClampNeg))) σ) (fun r2 => if r2.1 = 0 then (f_X3_flow k 11 L r2.2) else (op (y_X3_spend k 0 (lI lZ 1 1) r2.2) (fun r4 => f_X3_flow k 11 L r4.2)))) else none
  | k + 1, 7, L, σ => if ¬ (((((σ.1 1902)) - 1)) < 0 ∨ (sN σ 20) ≤ ((((σ.1 1902)) - 1)).toNatClampNeg) then (op (y_X3_wantTruth k 0 (lI lZ 1 ((σ.2.2.1 20 ((((σ.1 1902)) - 1)).toNatClampNeg))) σ) (fun r2 => if r2.1 = 0 then (f_X3_flow k 11 L r2.2) else (if ¬ (((((r2.2.1 1902)) - 1)) < 0 ∨ (sN r2.2 20) ≤ ((((r2.2.1 1902)) - 1)).toNatClampNeg) then (if ((r2.2.2.2.1 20 ((((r2.2.1 1902)) - 1)).toNatClampNeg)) = ((-1879048192)) then (f_X3_flow k 17 (lI L 100 1) r2.2) else (f_X3_flow k 16 L r2.2)) else none))) else none
  | k + 1, 8, L, σ => f_X3_flow k 11 L (uI σ 1812 1)
  | k + 1, 9, L, σ => op (y_X3_beginStatement k 0 (lI (lI lZ 1 ((L.1 2))) 2 ((L.1 3))) σ) (fun r1 => f_X3_flow k 11 L r1.2)
  | k + 1, 10, L, σ => ox (f_X3_save k 0 (lI lZ 1 ((L.1 3))) σ) (fun r1 => f_X3_flow k 9 L r1.2.1)
  | k + 1, 11, L, σ => some ((0, 0), σ, (0, 0))
  | k + 1, 12, L, σ => f_X3_flow k 13 (lI L 100 0) σ
  | k + 1, 13, L, σ => if ((L.1 1)) = 5 then (f_X3_flow k 19 (lI (lI L 100 1) 101 ((L.1 100))) σ) else (f_X3_flow k 18 (lI L 100 ((L.1 100))) σ)
  | k + 1, 14, L, σ => f_X3_flow k 15 (lI L 100 ((-1879048192))) σ
  | k + 1, 15, L, σ => op (y_X3_shortcut k 0 (lI (lI lZ 1 ((L.1 100))) 2 ((((L.1 3)) + ((L.1 2))))) σ) (fun r1 => f_X3_flow k 11 L r1.2)
  | k + 1, 16, L, σ => f_X3_flow k 17 (lI L 100 0) σ
  | k + 1, 17, L, σ => op (y_X11_truth k 0 (lI lZ 0 ((L.1 100))) σ) (fun r1 => op (y_X3_replace k 0 (lI lZ 1 r1.1) r1.2) (fun r2 => f_X3_flow k 11 L r2.2))
  | k + 1, 18, L, σ => f_X3_flow k 19 (lI (lI L 100 0) 101 ((L.1 100))) σ
  | k + 1, 19, L, σ => if ((L.1 101)) = ((L.1 100)) then (f_X3_flow k 11 L (uI σ 1900 ((((L.1 3)) + ((L.1 2)))))) else (f_X3_flow k 11 L σ)
  | _ + 1, _ + 20, _, _ => none
def o_f_X3_flow : List Cond := [.fieldLink RX3 140 "SetHouse$Machine" "left" "I", .fieldLink RX3 14 "SetHouse$Machine" "run" "LSetHouse$Run;", .fieldLink RX3 35 "SetHouse$Machine" "saves" "LSetHouse$Saves;", .fieldLink RX3 225 "SetHouse$Machine" "halted" "Z", .methodLink RX3 339 yX3_pop, .instanceMethod yX3_pop, .selects RX3 yX3_pop yX3_pop, .initialized RX3, .methodLink RX3 342 yX3_wantTruth, .instanceMethod yX3_wantTruth, .selects RX3 yX3_wantTruth yX3_wantTruth, .constant RX3 325 (-1879048191), .fieldLink RX3 18 "SetHouse$Machine" "stack" "[I", .methodLink RX3 319 yX3_spend, .instanceMethod yX3_spend, .selects RX3 yX3_spend yX3_spend, .constant RX3 326 (-1879048192), .methodLink RX3 336 yX3_beginStatement, .instanceMethod yX3_beginStatement, .selects RX3 yX3_beginStatement yX3_beginStatement, .methodLink RX3 333 yX3_save, .instanceMethod yX3_save, .selects RX3 yX3_save yX3_save, .methodLink RX3 345 yX3_shortcut, .instanceMethod yX3_shortcut, .selects RX3 yX3_shortcut yX3_shortcut, .initialized RX11, .static yX11_truth, .methodLink RX3 280 yX3_replace, .instanceMethod yX3_replace, .selects RX3 yX3_replace yX3_replace]
theorem o_f_X3_flow_good : o_f_X3_flow.all goodWord = true := by decide +kernel
def p_f_X3_flow : List Cond := o_f_X3_flow ++ ((.code yX3_pop cX3_pop 1 (some .int) :: p_y_X3_pop) ++ ((.code yX3_wantTruth cX3_wantTruth 2 (some .boolean) :: p_y_X3_wantTruth) ++ ((.code yX3_spend cX3_spend 2 none :: p_y_X3_spend) ++ ((.code yX3_beginStatement cX3_beginStatement 3 none :: p_y_X3_beginStatement) ++ ((.code yX3_save cX3_save 3 none :: p_f_X3_save) ++ ((.code yX3_shortcut cX3_shortcut 4 none :: p_y_X3_shortcut) ++ ((.code yX11_truth cX11_truth 1 (some .int) :: p_y_X11_truth) ++ ((.code yX3_replace cX3_replace 2 none :: p_y_X3_replace) ++ []))))))))
theorem p_f_X3_flow_good : p_f_X3_flow.all goodWord = true := nb_all2 o_f_X3_flow_good (nb_all2 (nb_allc (by decide +kernel) p_y_X3_pop_good) (nb_all2 (nb_allc (by decide +kernel) p_y_X3_wantTruth_good) (nb_all2 (nb_allc (by decide +kernel) p_y_X3_spend_good) (nb_all2 (nb_allc (by decide +kernel) p_y_X3_beginStatement_good) (nb_all2 (nb_allc (by decide +kernel) p_f_X3_save_good) (nb_all2 (nb_allc (by decide +kernel) p_y_X3_shortcut_good) (nb_all2 (nb_allc (by decide +kernel) p_y_X11_truth_good) (nb_all2 (nb_allc (by decide +kernel) p_y_X3_replace_good) rfl))))))))
def w_f_X3_flow : List Cond := .code yX3_flow cX3_flow 5 none :: (p_f_X3_flow ++ fC)
theorem w_f_X3_flow_good : w_f_X3_flow.all goodWord = true := nb_allc (by decide +kernel) (nb_all2 p_f_X3_flow_good fC_good)
theorem in_f_X3_flow_X3 : ∀ w ∈ wsX30, w ∈ w_f_X3_flow := fun _ h => List.mem_cons_of_mem _ (List.mem_append_right _ (List.mem_append_right _ (List.mem_append_right _ (List.mem_append_right _ (List.mem_append_left _ h)))))
theorem in_f_X3_flow_X8 : ∀ w ∈ wsX80, w ∈ w_f_X3_flow := fun _ h => List.mem_cons_of_mem _ (List.mem_append_right _ (List.mem_append_right _ (List.mem_append_right _ (List.mem_append_right _ (List.mem_append_right _ (List.mem_append_right _ (List.mem_append_right _ (List.mem_append_right _ (List.mem_append_left _ h)))))))))
theorem in_f_X3_flow_X9 : ∀ w ∈ wsX90, w ∈ w_f_X3_flow := fun _ h => List.mem_cons_of_mem _ (List.mem_append_right _ (List.mem_append_right _ (List.mem_append_right _ (List.mem_append_right _ (List.mem_append_right _ (List.mem_append_right _ (List.mem_append_right _ (List.mem_append_right _ (List.mem_append_right _ (List.mem_append_left _ h))))))))))
theorem hd_f_X3_flow : yX3_flow.cls = RX3 ∧ yX3_flow.cls ≠ "java/lang/invoke/MethodHandle" ∧ yX3_flow.cls ≠ "java/lang/invoke/VarHandle" ∧ (parseMethodDescriptor yX3_flow.desc).map (fun d => d.parameters.length) = some 3 := by decide +kernel
theorem gg_f_X3_flow_X3_save : GoodIn w_f_X3_flow w_f_X3_save := goodIn_sub (fun w h => (List.mem_cons.mp h).elim (fun e => (List.mem_cons_of_mem _ (List.mem_append_left _ (List.mem_append_right _ (List.mem_append_right _ (List.mem_append_right _ (List.mem_append_right _ (List.mem_append_right _ (List.mem_append_left _ (List.mem_cons.mpr (Or.inl e))))))))))) (fun h => (List.mem_append.mp h).elim (fun h => (List.mem_cons_of_mem _ (List.mem_append_left _ (List.mem_append_right _ (List.mem_append_right _ (List.mem_append_right _ (List.mem_append_right _ (List.mem_append_right _ (List.mem_append_left _ (List.mem_cons_of_mem _ h)))))))))) (fun h => List.mem_cons_of_mem _ (List.mem_append_right _ h)))) w_f_X3_save_good
theorem g_f_X3_flow_X3_save_V333 : GoodIn w_f_X3_flow (wsV RX3 333 RX3 yX3_save w_f_X3_save) := goodIn_app (nb_g4 (List.mem_cons_of_mem _ (List.mem_append_left _ (List.mem_append_left _ (List.mem_of_getElem? (i := 20) rfl)))) (List.mem_cons_of_mem _ (List.mem_append_left _ (List.mem_append_left _ (List.mem_of_getElem? (i := 21) rfl)))) (List.mem_cons_of_mem _ (List.mem_append_left _ (List.mem_append_left _ (List.mem_of_getElem? (i := 22) rfl)))) (List.mem_cons_of_mem _ (List.mem_append_left _ (List.mem_append_left _ (List.mem_of_getElem? (i := 7) rfl)))) (by decide +kernel)) gg_f_X3_flow_X3_save
theorem gg_f_X3_flow_X11_truth : GoodIn w_f_X3_flow w_y_X11_truth := goodIn_sub (fun w h => (List.mem_cons.mp h).elim (fun e => (List.mem_cons_of_mem _ (List.mem_append_left _ (List.mem_append_right _ (List.mem_append_right _ (List.mem_append_right _ (List.mem_append_right _ (List.mem_append_right _ (List.mem_append_right _ (List.mem_append_right _ (List.mem_append_left _ (List.mem_cons.mpr (Or.inl e))))))))))))) (fun h => (List.mem_append.mp h).elim (fun h => (List.mem_cons_of_mem _ (List.mem_append_left _ (List.mem_append_right _ (List.mem_append_right _ (List.mem_append_right _ (List.mem_append_right _ (List.mem_append_right _ (List.mem_append_right _ (List.mem_append_right _ (List.mem_append_left _ (List.mem_cons_of_mem _ h)))))))))))) (fun h => List.mem_cons_of_mem _ (List.mem_append_right _ h)))) w_y_X11_truth_good
theorem g_y_X3_flow_X11_truth_SN348 : GoodIn w_f_X3_flow w_y_X11_truth := gg_f_X3_flow_X11_truth
theorem gg_f_X3_flow_X3_beginStatement : GoodIn w_f_X3_flow w_y_X3_beginStatement := goodIn_sub (fun w h => (List.mem_cons.mp h).elim (fun e => (List.mem_cons_of_mem _ (List.mem_append_left _ (List.mem_append_right _ (List.mem_append_right _ (List.mem_append_right _ (List.mem_append_right _ (List.mem_append_left _ (List.mem_cons.mpr (Or.inl e)))))))))) (fun h => (List.mem_append.mp h).elim (fun h => (List.mem_cons_of_mem _ (List.mem_append_left _ (List.mem_append_right _ (List.mem_append_right _ (List.mem_append_right _ (List.mem_append_right _ (List.mem_append_left _ (List.mem_cons_of_mem _ h))))))))) (fun h => List.mem_cons_of_mem _ (List.mem_append_right _ h)))) w_y_X3_beginStatement_good
theorem g_y_X3_flow_X3_beginStatement_V336 : GoodIn w_f_X3_flow (wsV RX3 336 RX3 yX3_beginStatement w_y_X3_beginStatement) := goodIn_app (nb_g4 (List.mem_cons_of_mem _ (List.mem_append_left _ (List.mem_append_left _ (List.mem_of_getElem? (i := 17) rfl)))) (List.mem_cons_of_mem _ (List.mem_append_left _ (List.mem_append_left _ (List.mem_of_getElem? (i := 18) rfl)))) (List.mem_cons_of_mem _ (List.mem_append_left _ (List.mem_append_left _ (List.mem_of_getElem? (i := 19) rfl)))) (List.mem_cons_of_mem _ (List.mem_append_left _ (List.mem_append_left _ (List.mem_of_getElem? (i := 7) rfl)))) (by decide +kernel)) gg_f_X3_flow_X3_beginStatement
theorem gg_f_X3_flow_X3_pop : GoodIn w_f_X3_flow w_y_X3_pop := goodIn_sub (fun w h => (List.mem_cons.mp h).elim (fun e => (List.mem_cons_of_mem _ (List.mem_append_left _ (List.mem_append_right _ (List.mem_append_left _ (List.mem_cons.mpr (Or.inl e))))))) (fun h => (List.mem_append.mp h).elim (fun h => (List.mem_cons_of_mem _ (List.mem_append_left _ (List.mem_append_right _ (List.mem_append_left _ (List.mem_cons_of_mem _ h)))))) (fun h => List.mem_cons_of_mem _ (List.mem_append_right _ h)))) w_y_X3_pop_good
theorem g_y_X3_flow_X3_pop_V339 : GoodIn w_f_X3_flow (wsV RX3 339 RX3 yX3_pop w_y_X3_pop) := goodIn_app (nb_g4 (List.mem_cons_of_mem _ (List.mem_append_left _ (List.mem_append_left _ (List.mem_of_getElem? (i := 4) rfl)))) (List.mem_cons_of_mem _ (List.mem_append_left _ (List.mem_append_left _ (List.mem_of_getElem? (i := 5) rfl)))) (List.mem_cons_of_mem _ (List.mem_append_left _ (List.mem_append_left _ (List.mem_of_getElem? (i := 6) rfl)))) (List.mem_cons_of_mem _ (List.mem_append_left _ (List.mem_append_left _ (List.mem_of_getElem? (i := 7) rfl)))) (by decide +kernel)) gg_f_X3_flow_X3_pop
theorem gg_f_X3_flow_X3_replace : GoodIn w_f_X3_flow w_y_X3_replace := goodIn_sub (fun w h => (List.mem_cons.mp h).elim (fun e => (List.mem_cons_of_mem _ (List.mem_append_left _ (List.mem_append_right _ (List.mem_append_right _ (List.mem_append_right _ (List.mem_append_right _ (List.mem_append_right _ (List.mem_append_right _ (List.mem_append_right _ (List.mem_append_right _ (List.mem_append_left _ (List.mem_cons.mpr (Or.inl e)))))))))))))) (fun h => (List.mem_append.mp h).elim (fun h => (List.mem_cons_of_mem _ (List.mem_append_left _ (List.mem_append_right _ (List.mem_append_right _ (List.mem_append_right _ (List.mem_append_right _ (List.mem_append_right _ (List.mem_append_right _ (List.mem_append_right _ (List.mem_append_right _ (List.mem_append_left _ (List.mem_cons_of_mem _ h))))))))))))) (fun h => List.mem_cons_of_mem _ (List.mem_append_right _ h)))) w_y_X3_replace_good
theorem g_y_X3_flow_X3_replace_V280 : GoodIn w_f_X3_flow (wsV RX3 280 RX3 yX3_replace w_y_X3_replace) := goodIn_app (nb_g4 (List.mem_cons_of_mem _ (List.mem_append_left _ (List.mem_append_left _ (List.mem_of_getElem? (i := 28) rfl)))) (List.mem_cons_of_mem _ (List.mem_append_left _ (List.mem_append_left _ (List.mem_of_getElem? (i := 29) rfl)))) (List.mem_cons_of_mem _ (List.mem_append_left _ (List.mem_append_left _ (List.mem_of_getElem? (i := 30) rfl)))) (List.mem_cons_of_mem _ (List.mem_append_left _ (List.mem_append_left _ (List.mem_of_getElem? (i := 7) rfl)))) (by decide +kernel)) gg_f_X3_flow_X3_replace
theorem gg_f_X3_flow_X3_shortcut : GoodIn w_f_X3_flow w_y_X3_shortcut := goodIn_sub (fun w h => (List.mem_cons.mp h).elim (fun e => (List.mem_cons_of_mem _ (List.mem_append_left _ (List.mem_append_right _ (List.mem_append_right _ (List.mem_append_right _ (List.mem_append_right _ (List.mem_append_right _ (List.mem_append_right _ (List.mem_append_left _ (List.mem_cons.mpr (Or.inl e)))))))))))) (fun h => (List.mem_append.mp h).elim (fun h => (List.mem_cons_of_mem _ (List.mem_append_left _ (List.mem_append_right _ (List.mem_append_right _ (List.mem_append_right _ (List.mem_append_right _ (List.mem_append_right _ (List.mem_append_right _ (List.mem_append_left _ (List.mem_cons_of_mem _ h))))))))))) (fun h => List.mem_cons_of_mem _ (List.mem_append_right _ h)))) w_y_X3_shortcut_good
theorem g_y_X3_flow_X3_shortcut_V345 : GoodIn w_f_X3_flow (wsV RX3 345 RX3 yX3_shortcut w_y_X3_shortcut) := goodIn_app (nb_g4 (List.mem_cons_of_mem _ (List.mem_append_left _ (List.mem_append_left _ (List.mem_of_getElem? (i := 23) rfl)))) (List.mem_cons_of_mem _ (List.mem_append_left _ (List.mem_append_left _ (List.mem_of_getElem? (i := 24) rfl)))) (List.mem_cons_of_mem _ (List.mem_append_left _ (List.mem_append_left _ (List.mem_of_getElem? (i := 25) rfl)))) (List.mem_cons_of_mem _ (List.mem_append_left _ (List.mem_append_left _ (List.mem_of_getElem? (i := 7) rfl)))) (by decide +kernel)) gg_f_X3_flow_X3_shortcut
theorem gg_f_X3_flow_X3_spend : GoodIn w_f_X3_flow w_y_X3_spend := goodIn_sub (fun w h => (List.mem_cons.mp h).elim (fun e => (List.mem_cons_of_mem _ (List.mem_append_left _ (List.mem_append_right _ (List.mem_append_right _ (List.mem_append_right _ (List.mem_append_left _ (List.mem_cons.mpr (Or.inl e))))))))) (fun h => (List.mem_append.mp h).elim (fun h => (List.mem_cons_of_mem _ (List.mem_append_left _ (List.mem_append_right _ (List.mem_append_right _ (List.mem_append_right _ (List.mem_append_left _ (List.mem_cons_of_mem _ h)))))))) (fun h => List.mem_cons_of_mem _ (List.mem_append_right _ h)))) w_y_X3_spend_good
theorem g_y_X3_flow_X3_spend_V319 : GoodIn w_f_X3_flow (wsV RX3 319 RX3 yX3_spend w_y_X3_spend) := goodIn_app (nb_g4 (List.mem_cons_of_mem _ (List.mem_append_left _ (List.mem_append_left _ (List.mem_of_getElem? (i := 13) rfl)))) (List.mem_cons_of_mem _ (List.mem_append_left _ (List.mem_append_left _ (List.mem_of_getElem? (i := 14) rfl)))) (List.mem_cons_of_mem _ (List.mem_append_left _ (List.mem_append_left _ (List.mem_of_getElem? (i := 15) rfl)))) (List.mem_cons_of_mem _ (List.mem_append_left _ (List.mem_append_left _ (List.mem_of_getElem? (i := 7) rfl)))) (by decide +kernel)) gg_f_X3_flow_X3_spend
theorem gg_f_X3_flow_X3_wantTruth : GoodIn w_f_X3_flow w_y_X3_wantTruth := goodIn_sub (fun w h => (List.mem_cons.mp h).elim (fun e => (List.mem_cons_of_mem _ (List.mem_append_left _ (List.mem_append_right _ (List.mem_append_right _ (List.mem_append_left _ (List.mem_cons.mpr (Or.inl e)))))))) (fun h => (List.mem_append.mp h).elim (fun h => (List.mem_cons_of_mem _ (List.mem_append_left _ (List.mem_append_right _ (List.mem_append_right _ (List.mem_append_left _ (List.mem_cons_of_mem _ h))))))) (fun h => List.mem_cons_of_mem _ (List.mem_append_right _ h)))) w_y_X3_wantTruth_good
theorem g_y_X3_flow_X3_wantTruth_V342 : GoodIn w_f_X3_flow (wsV RX3 342 RX3 yX3_wantTruth w_y_X3_wantTruth) := goodIn_app (nb_g4 (List.mem_cons_of_mem _ (List.mem_append_left _ (List.mem_append_left _ (List.mem_of_getElem? (i := 8) rfl)))) (List.mem_cons_of_mem _ (List.mem_append_left _ (List.mem_append_left _ (List.mem_of_getElem? (i := 9) rfl)))) (List.mem_cons_of_mem _ (List.mem_append_left _ (List.mem_append_left _ (List.mem_of_getElem? (i := 10) rfl)))) (List.mem_cons_of_mem _ (List.mem_append_left _ (List.mem_append_left _ (List.mem_of_getElem? (i := 7) rfl)))) (by decide +kernel)) gg_f_X3_flow_X3_wantTruth
set_option maxHeartbeats 40000000 in
set_option maxRecDepth 100000 in
theorem c_f_X3_flow (l : Launch) (hl0 : l.stackTraces = false) (dC : Nat → ClassId) (dI : Nat → Nat → Nat) (cy : Nat → ClassId) (ek a : Nat → Nat) (k0 : Nat) (L0 : LV) (σ0 : CS) (r0 : RS) (h0 : f_X3_flow k0 0 L0 σ0 = some r0) (z : Nat → Nat) (sz : Nat) : vx_Met l yX3_flow w_f_X3_flow ({ frames := 6, cells := r0.2.2.1, slots := r0.2.2.2, locals := 184 }) (va_Pc [.ref (a 18), .int (L0.1 1), .int (L0.1 2), .int (L0.1 3)] (nInF (dC, dI) cy ek sz (vC cy a z σ0))) (xV dC dI cy a (va_A (vC cy a z σ0) sz) [26] z r0) (xX dC dI cy a (va_A (vC cy a z σ0) sz) [26] z r0) r0.2.2.1 r0.2.2.2 (va_A (vC cy a z σ0) sz) := by
  refine vx_ofW (cc := cX3_flow) (maxL := 5) (ret := none) (by decide) rfl ?_
  intro p e s m args below meth c s₁ B hml hno hv
  obtain ⟨rfl, ⟨⟨hsz, hP, hK, hD0, hG⟩, hE⟩, hT⟩ := hv
  have hx := B.exec
  have hb := B.bytes
  have hr := B.returns
  have hts := atoms_spec (ws := w_f_X3_flow) B.pre
  have hown : s.vm.findClass RX3 = some m.cls := findClass_of_methodNamed B.named
  have hlocks := B.notSynchronized
  subst hsz
  have hD := hD0.self (sz := s.heap.size)
  generalize hAe : va_A (vC cy a z σ0) s.heap.size = A at hD hE hT ⊢
  have hA : ∀ q : Nat, s.heap.size ≤ q → A q := fun q h => by rw [← hAe]; exact Or.inr h
  have hS : va_S A s.heap s.heap [] := va_S.rf
  have hl := lv_entry ([.ref (a 18), .int (L0.1 1), .int (L0.1 2), .int (L0.1 3)]) (n := 5) (Nat.le_of_ble_eq_true rfl)
  rw [lg_entry_eq]
  generalize (lg_sl ([.ref (a 18), .int (L0.1 1), .int (L0.1 2), .int (L0.1 3)]) ++ List.replicate (5 - (lg_sl ([.ref (a 18), .int (L0.1 1), .int (L0.1 2), .int (L0.1 3)])).length) Slot.unset).toArray = ls at hl ⊢
  have hl : lv_has ls 5 [(0, .ref (a 18)), (1, .int (L0.1 1)), (2, .int (L0.1 2)), (3, .int (L0.1 3))] := hl
  generalize hmc : r0.2.2.1 = mc
  generalize hms : r0.2.2.2 = ms
  have blk : ∀ k : Nat, (bX p l e (headSpec w_f_X3_flow ({ frames := 6, cells := mc, slots := ms, locals := 184 })).room s m #[.ref (a 18), .int (L0.1 1), .int (L0.1 2), .int (L0.1 3)] below meth c dC dI cy a A (fun r => vx_MQ below (xV dC dI cy a A [26] z r) (xX dC dI cy a A [26] z r) #[.ref (a 18), .int (L0.1 1), .int (L0.1 2), .int (L0.1 3)] s mc ms A) [26] z mc ms 5 (f_X3_flow k 0) (fun z L => [(0, .ref (a 18)), (1, .int (L.1 1)), (2, .int (L.1 2)), (3, .int (L.1 3))]) 0 (fun z L => [])) ∧ (bX p l e (headSpec w_f_X3_flow ({ frames := 6, cells := mc, slots := ms, locals := 184 })).room s m #[.ref (a 18), .int (L0.1 1), .int (L0.1 2), .int (L0.1 3)] below meth c dC dI cy a A (fun r => vx_MQ below (xV dC dI cy a A [26] z r) (xX dC dI cy a A [26] z r) #[.ref (a 18), .int (L0.1 1), .int (L0.1 2), .int (L0.1 3)] s mc ms A) [26] z mc ms 5 (f_X3_flow k 1) (fun z L => [(0, .ref (a 18)), (2, .int (L.1 2)), (3, .int (L.1 3))]) 56 (fun z L => [])) ∧ (bX p l e (headSpec w_f_X3_flow ({ frames := 6, cells := mc, slots := ms, locals := 184 })).room s m #[.ref (a 18), .int (L0.1 1), .int (L0.1 2), .int (L0.1 3)] below meth c dC dI cy a A (fun r => vx_MQ below (xV dC dI cy a A [26] z r) (xX dC dI cy a A [26] z r) #[.ref (a 18), .int (L0.1 1), .int (L0.1 2), .int (L0.1 3)] s mc ms A) [26] z mc ms 5 (f_X3_flow k 2) (fun z L => [(0, .ref (a 18))]) 111 (fun z L => [])) ∧ (bX p l e (headSpec w_f_X3_flow ({ frames := 6, cells := mc, slots := ms, locals := 184 })).room s m #[.ref (a 18), .int (L0.1 1), .int (L0.1 2), .int (L0.1 3)] below meth c dC dI cy a A (fun r => vx_MQ below (xV dC dI cy a A [26] z r) (xX dC dI cy a A [26] z r) #[.ref (a 18), .int (L0.1 1), .int (L0.1 2), .int (L0.1 3)] s mc ms A) [26] z mc ms 5 (f_X3_flow k 3) (fun z L => [(0, .ref (a 18)), (2, .int (L.1 2)), (3, .int (L.1 3))]) 127 (fun z L => [])) ∧ (bX p l e (headSpec w_f_X3_flow ({ frames := 6, cells := mc, slots := ms, locals := 184 })).room s m #[.ref (a 18), .int (L0.1 1), .int (L0.1 2), .int (L0.1 3)] below meth c dC dI cy a A (fun r => vx_MQ below (xV dC dI cy a A [26] z r) (xX dC dI cy a A [26] z r) #[.ref (a 18), .int (L0.1 1), .int (L0.1 2), .int (L0.1 3)] s mc ms A) [26] z mc ms 5 (f_X3_flow k 4) (fun z L => [(0, .ref (a 18)), (1, .int (L.1 1)), (2, .int (L.1 2)), (3, .int (L.1 3))]) 140 (fun z L => [])) ∧ (bX p l e (headSpec w_f_X3_flow ({ frames := 6, cells := mc, slots := ms, locals := 184 })).room s m #[.ref (a 18), .int (L0.1 1), .int (L0.1 2), .int (L0.1 3)] below meth c dC dI cy a A (fun r => vx_MQ below (xV dC dI cy a A [26] z r) (xX dC dI cy a A [26] z r) #[.ref (a 18), .int (L0.1 1), .int (L0.1 2), .int (L0.1 3)] s mc ms A) [26] z mc ms 5 (f_X3_flow k 5) (fun z L => [(0, .ref (a 18)), (1, .int (L.1 1)), (2, .int (L.1 2)), (3, .int (L.1 3))]) 194 (fun z L => [])) ∧ (bX p l e (headSpec w_f_X3_flow ({ frames := 6, cells := mc, slots := ms, locals := 184 })).room s m #[.ref (a 18), .int (L0.1 1), .int (L0.1 2), .int (L0.1 3)] below meth c dC dI cy a A (fun r => vx_MQ below (xV dC dI cy a A [26] z r) (xX dC dI cy a A [26] z r) #[.ref (a 18), .int (L0.1 1), .int (L0.1 2), .int (L0.1 3)] s mc ms A) [26] z mc ms 5 (f_X3_flow k 6) (fun z L => [(0, .ref (a 18))]) 219 (fun z L => [])) ∧ (bX p l e (headSpec w_f_X3_flow ({ frames := 6, cells := mc, slots := ms, locals := 184 })).room s m #[.ref (a 18), .int (L0.1 1), .int (L0.1 2), .int (L0.1 3)] below meth c dC dI cy a A (fun r => vx_MQ below (xV dC dI cy a A [26] z r) (xX dC dI cy a A [26] z r) #[.ref (a 18), .int (L0.1 1), .int (L0.1 2), .int (L0.1 3)] s mc ms A) [26] z mc ms 5 (f_X3_flow k 7) (fun z L => [(0, .ref (a 18))]) 248 (fun z L => [])) ∧ (bX p l e (headSpec w_f_X3_flow ({ frames := 6, cells := mc, slots := ms, locals := 184 })).room s m #[.ref (a 18), .int (L0.1 1), .int (L0.1 2), .int (L0.1 3)] below meth c dC dI cy a A (fun r => vx_MQ below (xV dC dI cy a A [26] z r) (xX dC dI cy a A [26] z r) #[.ref (a 18), .int (L0.1 1), .int (L0.1 2), .int (L0.1 3)] s mc ms A) [26] z mc ms 5 (f_X3_flow k 8) (fun z L => [(0, .ref (a 18))]) 304 (fun z L => [])) ∧ (bX p l e (headSpec w_f_X3_flow ({ frames := 6, cells := mc, slots := ms, locals := 184 })).room s m #[.ref (a 18), .int (L0.1 1), .int (L0.1 2), .int (L0.1 3)] below meth c dC dI cy a A (fun r => vx_MQ below (xV dC dI cy a A [26] z r) (xX dC dI cy a A [26] z r) #[.ref (a 18), .int (L0.1 1), .int (L0.1 2), .int (L0.1 3)] s mc ms A) [26] z mc ms 5 (f_X3_flow k 9) (fun z L => [(0, .ref (a 18)), (2, .int (L.1 2)), (3, .int (L.1 3))]) 102 (fun z L => [])) ∧ (bX p l e (headSpec w_f_X3_flow ({ frames := 6, cells := mc, slots := ms, locals := 184 })).room s m #[.ref (a 18), .int (L0.1 1), .int (L0.1 2), .int (L0.1 3)] below meth c dC dI cy a A (fun r => vx_MQ below (xV dC dI cy a A [26] z r) (xX dC dI cy a A [26] z r) #[.ref (a 18), .int (L0.1 1), .int (L0.1 2), .int (L0.1 3)] s mc ms A) [26] z mc ms 5 (f_X3_flow k 10) (fun z L => [(0, .ref (a 18)), (2, .int (L.1 2)), (3, .int (L.1 3))]) 97 (fun z L => [])) ∧ (bX p l e (headSpec w_f_X3_flow ({ frames := 6, cells := mc, slots := ms, locals := 184 })).room s m #[.ref (a 18), .int (L0.1 1), .int (L0.1 2), .int (L0.1 3)] below meth c dC dI cy a A (fun r => vx_MQ below (xV dC dI cy a A [26] z r) (xX dC dI cy a A [26] z r) #[.ref (a 18), .int (L0.1 1), .int (L0.1 2), .int (L0.1 3)] s mc ms A) [26] z mc ms 5 (f_X3_flow k 11) (fun z L => []) 309 (fun z L => [])) ∧ (bX p l e (headSpec w_f_X3_flow ({ frames := 6, cells := mc, slots := ms, locals := 184 })).room s m #[.ref (a 18), .int (L0.1 1), .int (L0.1 2), .int (L0.1 3)] below meth c dC dI cy a A (fun r => vx_MQ below (xV dC dI cy a A [26] z r) (xX dC dI cy a A [26] z r) #[.ref (a 18), .int (L0.1 1), .int (L0.1 2), .int (L0.1 3)] s mc ms A) [26] z mc ms 5 (f_X3_flow k 12) (fun z L => [(0, .ref (a 18)), (1, .int (L.1 1)), (2, .int (L.1 2)), (3, .int (L.1 3))]) 167 (fun z L => [])) ∧ (bX p l e (headSpec w_f_X3_flow ({ frames := 6, cells := mc, slots := ms, locals := 184 })).room s m #[.ref (a 18), .int (L0.1 1), .int (L0.1 2), .int (L0.1 3)] below meth c dC dI cy a A (fun r => vx_MQ below (xV dC dI cy a A [26] z r) (xX dC dI cy a A [26] z r) #[.ref (a 18), .int (L0.1 1), .int (L0.1 2), .int (L0.1 3)] s mc ms A) [26] z mc ms 5 (f_X3_flow k 13) (fun z L => [(0, .ref (a 18)), (1, .int (L.1 1)), (2, .int (L.1 2)), (3, .int (L.1 3))]) 168 (fun z L => [.int (L.1 100)])) ∧ (bX p l e (headSpec w_f_X3_flow ({ frames := 6, cells := mc, slots := ms, locals := 184 })).room s m #[.ref (a 18), .int (L0.1 1), .int (L0.1 2), .int (L0.1 3)] below meth c dC dI cy a A (fun r => vx_MQ below (xV dC dI cy a A [26] z r) (xX dC dI cy a A [26] z r) #[.ref (a 18), .int (L0.1 1), .int (L0.1 2), .int (L0.1 3)] s mc ms A) [26] z mc ms 5 (f_X3_flow k 14) (fun z L => [(2, .int (L.1 2)), (3, .int (L.1 3))]) 207 (fun z L => [.ref (a 18)])) ∧ (bX p l e (headSpec w_f_X3_flow ({ frames := 6, cells := mc, slots := ms, locals := 184 })).room s m #[.ref (a 18), .int (L0.1 1), .int (L0.1 2), .int (L0.1 3)] below meth c dC dI cy a A (fun r => vx_MQ below (xV dC dI cy a A [26] z r) (xX dC dI cy a A [26] z r) #[.ref (a 18), .int (L0.1 1), .int (L0.1 2), .int (L0.1 3)] s mc ms A) [26] z mc ms 5 (f_X3_flow k 15) (fun z L => [(2, .int (L.1 2)), (3, .int (L.1 3))]) 210 (fun z L => [.int (L.1 100), .ref (a 18)])) ∧ (bX p l e (headSpec w_f_X3_flow ({ frames := 6, cells := mc, slots := ms, locals := 184 })).room s m #[.ref (a 18), .int (L0.1 1), .int (L0.1 2), .int (L0.1 3)] below meth c dC dI cy a A (fun r => vx_MQ below (xV dC dI cy a A [26] z r) (xX dC dI cy a A [26] z r) #[.ref (a 18), .int (L0.1 1), .int (L0.1 2), .int (L0.1 3)] s mc ms A) [26] z mc ms 5 (f_X3_flow k 16) (fun z L => []) 294 (fun z L => [.ref (a 18)])) ∧ (bX p l e (headSpec w_f_X3_flow ({ frames := 6, cells := mc, slots := ms, locals := 184 })).room s m #[.ref (a 18), .int (L0.1 1), .int (L0.1 2), .int (L0.1 3)] below meth c dC dI cy a A (fun r => vx_MQ below (xV dC dI cy a A [26] z r) (xX dC dI cy a A [26] z r) #[.ref (a 18), .int (L0.1 1), .int (L0.1 2), .int (L0.1 3)] s mc ms A) [26] z mc ms 5 (f_X3_flow k 17) (fun z L => []) 295 (fun z L => [.int (L.1 100), .ref (a 18)])) ∧ (bX p l e (headSpec w_f_X3_flow ({ frames := 6, cells := mc, slots := ms, locals := 184 })).room s m #[.ref (a 18), .int (L0.1 1), .int (L0.1 2), .int (L0.1 3)] below meth c dC dI cy a A (fun r => vx_MQ below (xV dC dI cy a A [26] z r) (xX dC dI cy a A [26] z r) #[.ref (a 18), .int (L0.1 1), .int (L0.1 2), .int (L0.1 3)] s mc ms A) [26] z mc ms 5 (f_X3_flow k 18) (fun z L => [(0, .ref (a 18)), (2, .int (L.1 2)), (3, .int (L.1 3))]) 177 (fun z L => [.int (L.1 100)])) ∧ (bX p l e (headSpec w_f_X3_flow ({ frames := 6, cells := mc, slots := ms, locals := 184 })).room s m #[.ref (a 18), .int (L0.1 1), .int (L0.1 2), .int (L0.1 3)] below meth c dC dI cy a A (fun r => vx_MQ below (xV dC dI cy a A [26] z r) (xX dC dI cy a A [26] z r) #[.ref (a 18), .int (L0.1 1), .int (L0.1 2), .int (L0.1 3)] s mc ms A) [26] z mc ms 5 (f_X3_flow k 19) (fun z L => [(0, .ref (a 18)), (2, .int (L.1 2)), (3, .int (L.1 3))]) 178 (fun z L => [.int (L.1 100), .int (L.1 101)])) := by
    intro k
    induction k with
    | zero => exact ⟨fun z c1 c2 L σ r h => (by cases h), fun z c1 c2 L σ r h => (by cases h), fun z c1 c2 L σ r h => (by cases h), fun z c1 c2 L σ r h => (by cases h), fun z c1 c2 L σ r h => (by cases h), fun z c1 c2 L σ r h => (by cases h), fun z c1 c2 L σ r h => (by cases h), fun z c1 c2 L σ r h => (by cases h), fun z c1 c2 L σ r h => (by cases h), fun z c1 c2 L σ r h => (by cases h), fun z c1 c2 L σ r h => (by cases h), fun z c1 c2 L σ r h => (by cases h), fun z c1 c2 L σ r h => (by cases h), fun z c1 c2 L σ r h => (by cases h), fun z c1 c2 L σ r h => (by cases h), fun z c1 c2 L σ r h => (by cases h), fun z c1 c2 L σ r h => (by cases h), fun z c1 c2 L σ r h => (by cases h), fun z c1 c2 L σ r h => (by cases h), fun z c1 c2 L σ r h => (by cases h)⟩
    | succ k ih =>
      refine ⟨?_, ?_, ?_, ?_, ?_, ?_, ?_, ?_, ?_, ?_, ?_, ?_, ?_, ?_, ?_, ?_, ?_, ?_, ?_, ?_⟩
      · intro z cells slots L σ r h hzk hc hs H locs ls hP hD hS hl
        rw [f_X3_flow] at h
        refine lv_iload_n hx hb dX3_flow_0 rfl (lv_at hl 1 rfl) ?_
        by_cases q1 : ((L.1 1)) = (0 : Int32)
        · rw [if_pos q1] at h
          refine lv_tableIn (off := 55) (tgt := 56) hx hb dX3_flow_1 (by rw [q1]; decide) (by rw [q1]; decide) (by rw [q1]; decide) (by decide) ?_
          exact ih.2.1 z _ _ L σ _ h hzk hc hs H locs ls hP hD hS (lv_sub hl [0, 2, 3] rfl)
        · rw [if_neg q1] at h
          by_cases q2 : ((L.1 1)) = (1 : Int32)
          · rw [if_pos q2] at h
            refine lv_tableIn (off := 110) (tgt := 111) hx hb dX3_flow_1 (by rw [q2]; decide) (by rw [q2]; decide) (by rw [q2]; decide) (by decide) ?_
            exact ih.2.2.1 z _ _ L σ _ h hzk hc hs H locs ls hP hD hS (lv_sub hl [0] rfl)
          · rw [if_neg q2] at h
            by_cases q3 : ((L.1 1)) = (2 : Int32)
            · rw [if_pos q3] at h
              refine lv_tableIn (off := 110) (tgt := 111) hx hb dX3_flow_1 (by rw [q3]; decide) (by rw [q3]; decide) (by rw [q3]; decide) (by decide) ?_
              exact ih.2.2.1 z _ _ L σ _ h hzk hc hs H locs ls hP hD hS (lv_sub hl [0] rfl)
            · rw [if_neg q3] at h
              by_cases q4 : ((L.1 1)) = (3 : Int32)
              · rw [if_pos q4] at h
                refine lv_tableIn (off := 126) (tgt := 127) hx hb dX3_flow_1 (by rw [q4]; decide) (by rw [q4]; decide) (by rw [q4]; decide) (by decide) ?_
                exact ih.2.2.2.1 z _ _ L σ _ h hzk hc hs H locs ls hP hD hS (lv_sub hl [0, 2, 3] rfl)
              · rw [if_neg q4] at h
                by_cases q5 : ((L.1 1)) = (4 : Int32)
                · rw [if_pos q5] at h
                  refine lv_tableIn (off := 139) (tgt := 140) hx hb dX3_flow_1 (by rw [q5]; decide) (by rw [q5]; decide) (by rw [q5]; decide) (by decide) ?_
                  exact ih.2.2.2.2.1 z _ _ L σ _ h hzk hc hs H locs ls hP hD hS (lv_sub hl [0, 1, 2, 3] rfl)
                · rw [if_neg q5] at h
                  by_cases q6 : ((L.1 1)) = (5 : Int32)
                  · rw [if_pos q6] at h
                    refine lv_tableIn (off := 139) (tgt := 140) hx hb dX3_flow_1 (by rw [q6]; decide) (by rw [q6]; decide) (by rw [q6]; decide) (by decide) ?_
                    exact ih.2.2.2.2.1 z _ _ L σ _ h hzk hc hs H locs ls hP hD hS (lv_sub hl [0, 1, 2, 3] rfl)
                  · rw [if_neg q6] at h
                    by_cases q7 : ((L.1 1)) = (6 : Int32)
                    · rw [if_pos q7] at h
                      refine lv_tableIn (off := 193) (tgt := 194) hx hb dX3_flow_1 (by rw [q7]; decide) (by rw [q7]; decide) (by rw [q7]; decide) (by decide) ?_
                      exact ih.2.2.2.2.2.1 z _ _ L σ _ h hzk hc hs H locs ls hP hD hS (lv_sub hl [0, 1, 2, 3] rfl)
                    · rw [if_neg q7] at h
                      by_cases q8 : ((L.1 1)) = (7 : Int32)
                      · rw [if_pos q8] at h
                        refine lv_tableIn (off := 193) (tgt := 194) hx hb dX3_flow_1 (by rw [q8]; decide) (by rw [q8]; decide) (by rw [q8]; decide) (by decide) ?_
                        exact ih.2.2.2.2.2.1 z _ _ L σ _ h hzk hc hs H locs ls hP hD hS (lv_sub hl [0, 1, 2, 3] rfl)
                      · rw [if_neg q8] at h
                        by_cases q9 : ((L.1 1)) = (8 : Int32)
                        · rw [if_pos q9] at h
                          refine lv_tableIn (off := 218) (tgt := 219) hx hb dX3_flow_1 (by rw [q9]; decide) (by rw [q9]; decide) (by rw [q9]; decide) (by decide) ?_
                          exact ih.2.2.2.2.2.2.1 z _ _ L σ _ h hzk hc hs H locs ls hP hD hS (lv_sub hl [0] rfl)
                        · rw [if_neg q9] at h
                          by_cases q10 : ((L.1 1)) = (9 : Int32)
                          · rw [if_pos q10] at h
                            refine lv_tableIn (off := 247) (tgt := 248) hx hb dX3_flow_1 (by rw [q10]; decide) (by rw [q10]; decide) (by rw [q10]; decide) (by decide) ?_
                            exact ih.2.2.2.2.2.2.2.1 z _ _ L σ _ h hzk hc hs H locs ls hP hD hS (lv_sub hl [0] rfl)
                          · rw [if_neg q10] at h
                            have nq1 : ¬ ((L.1 1)).toInt = 0 := nb_ti q1 rfl
                            have nq2 : ¬ ((L.1 1)).toInt = 1 := nb_ti q2 rfl
                            have nq3 : ¬ ((L.1 1)).toInt = 2 := nb_ti q3 rfl
                            have nq4 : ¬ ((L.1 1)).toInt = 3 := nb_ti q4 rfl
                            have nq5 : ¬ ((L.1 1)).toInt = 4 := nb_ti q5 rfl
                            have nq6 : ¬ ((L.1 1)).toInt = 5 := nb_ti q6 rfl
                            have nq7 : ¬ ((L.1 1)).toInt = 6 := nb_ti q7 rfl
                            have nq8 : ¬ ((L.1 1)).toInt = 7 := nb_ti q8 rfl
                            have nq9 : ¬ ((L.1 1)).toInt = 8 := nb_ti q9 rfl
                            have nq10 : ¬ ((L.1 1)).toInt = 9 := nb_ti q10 rfl
                            refine lv_tableOut (tgt := 304) hx hb dX3_flow_1 (by omega) (by decide) ?_
                            exact ih.2.2.2.2.2.2.2.2.1 z _ _ L σ _ h hzk hc hs H locs ls hP hD hS (lv_sub hl [0] rfl)
      · intro z cells slots L σ r h hzk hc hs H locs ls hP hD hS hl
        rw [f_X3_flow] at h
        refine lv_aload_n hx hb dX3_flow_56 rfl (lv_at hl 0 rfl) ?_
        refine hg_18_14 hx hb hts in_f_X3_flow_X3 hown hK hP (hts _ (List.mem_cons_of_mem _ (List.mem_append_left _ (List.mem_append_left _ (List.mem_of_getElem? (i := 0) rfl))))) dX3_flow_57 ?_
        refine lv_if_le (tgt := 102) hx hb dX3_flow_60 (by decide) (fun c1 => ?_) (fun c1 => ?_)
        · rw [if_pos c1] at h
          exact ih.2.2.2.2.2.2.2.2.2.1 z _ _ L σ _ h hzk hc hs H locs ls hP hD hS (lv_sub hl [0, 1, 2] rfl)
        · rw [if_neg c1] at h
          refine lv_aload_n hx hb dX3_flow_63 rfl (lv_at hl 0 rfl) ?_
          refine hg_18_5 hx hb hts in_f_X3_flow_X3 hown hK hP (hts _ (List.mem_cons_of_mem _ (List.mem_append_left _ (List.mem_append_left _ (List.mem_of_getElem? (i := 1) rfl))))) dX3_flow_64 ?_
          refine hg_19_3n hx hb hts in_f_X3_flow_X8 hown hK hP (va_Nw.use rfl (hG.1 _ (List.mem_of_getElem? (i := 12) rfl))) dX3_flow_67 ?_
          refine lv_aload_n hx hb dX3_flow_70 rfl (lv_at hl 0 rfl) ?_
          refine hg_18_18 hx hb hts in_f_X3_flow_X3 hown hK hP (hts _ (List.mem_cons_of_mem _ (List.mem_append_left _ (List.mem_append_left _ (List.mem_of_getElem? (i := 2) rfl))))) dX3_flow_71 ?_
          refine hg_24_8n hx hb hts in_f_X3_flow_X9 hown hK hP (va_Nw.use rfl (hG.1 _ (List.mem_of_getElem? (i := 46) rfl))) dX3_flow_74 ?_
          refine lv_icmp_eq (tgt := 97) hx hb dX3_flow_77 (by decide) (fun c2 => ?_) (fun c2 => ?_)
          · rw [if_pos c2] at h
            exact ih.2.2.2.2.2.2.2.2.2.2.1 z _ _ L σ _ h hzk hc hs H locs ls hP hD hS (lv_sub hl [0, 1, 2] rfl)
          · rw [if_neg c2] at h
            refine lv_aload_n hx hb dX3_flow_80 rfl (lv_at hl 0 rfl) ?_
            refine hg_18_5 hx hb hts in_f_X3_flow_X3 hown hK hP (hts _ (List.mem_cons_of_mem _ (List.mem_append_left _ (List.mem_append_left _ (List.mem_of_getElem? (i := 1) rfl))))) dX3_flow_81 ?_
            refine hg_19_3n hx hb hts in_f_X3_flow_X8 hown hK hP (va_Nw.use rfl (hG.1 _ (List.mem_of_getElem? (i := 12) rfl))) dX3_flow_84 ?_
            refine lv_aload_n hx hb dX3_flow_87 rfl (lv_at hl 0 rfl) ?_
            refine hg_18_18 hx hb hts in_f_X3_flow_X3 hown hK hP (hts _ (List.mem_cons_of_mem _ (List.mem_append_left _ (List.mem_append_left _ (List.mem_of_getElem? (i := 2) rfl))))) dX3_flow_88 ?_
            refine hg_24_7n hx hb hts in_f_X3_flow_X9 hown hK hP (va_Nw.use rfl (hG.1 _ (List.mem_of_getElem? (i := 45) rfl))) dX3_flow_91 ?_
            refine lv_icmp_ne (tgt := 102) hx hb dX3_flow_94 (by decide) (fun c3 => ?_) (fun c3 => ?_)
            · rw [if_neg c3] at h
              exact ih.2.2.2.2.2.2.2.2.2.1 z _ _ L σ _ h hzk hc hs H locs ls hP hD hS (lv_sub hl [0, 1, 2] rfl)
            · rw [if_pos c3] at h
              exact ih.2.2.2.2.2.2.2.2.2.2.1 z _ _ L σ _ h hzk hc hs H locs ls hP hD hS (lv_sub hl [0, 1, 2] rfl)
      · intro z cells slots L σ r h hzk hc hs H locs ls hP hD hS hl
        rw [f_X3_flow] at h
        refine lv_aload_n hx hb dX3_flow_111 rfl (lv_at hl 0 rfl) ?_
        refine hg_18_5 hx hb hts in_f_X3_flow_X3 hown hK hP (hts _ (List.mem_cons_of_mem _ (List.mem_append_left _ (List.mem_append_left _ (List.mem_of_getElem? (i := 1) rfl))))) dX3_flow_112 ?_
        refine lv_iconst (v := 1) hx hb dX3_flow_115 (by decide) ?_
        refine hp_19_7n hx hb hts in_f_X3_flow_X8 hown hK hP hD hS (va_Nw.use rfl (hG.1 _ (List.mem_of_getElem? (i := 21) rfl))) dX3_flow_116 (fun H locs hP hD hS => ?_)
        refine lv_aload_n hx hb dX3_flow_119 rfl (lv_at hl 0 rfl) ?_
        refine lv_iconst (v := 1) hx hb dX3_flow_120 (by decide) ?_
        refine hp_18_12 hx hb hts in_f_X3_flow_X3 hown hK hP hD hS (hts _ (List.mem_cons_of_mem _ (List.mem_append_left _ (List.mem_append_left _ (List.mem_of_getElem? (i := 3) rfl))))) (Or.inr rfl) dX3_flow_121 (fun H locs hP hD hS => ?_)
        refine lv_goto (tgt := 309) hx hb dX3_flow_124 (by decide) ?_
        exact ih.2.2.2.2.2.2.2.2.2.2.2.1 z _ _ L (uI (uI σ 1907 1) 1812 1) _ h hzk hc hs H locs ls hP hD hS (lv_sub hl [] rfl)
      · intro z cells slots L σ r h hzk hc hs H locs ls hP hD hS hl
        rw [f_X3_flow] at h
        refine lv_aload_n hx hb dX3_flow_127 rfl (lv_at hl 0 rfl) ?_
        refine hg_18_5 hx hb hts in_f_X3_flow_X3 hown hK hP (hts _ (List.mem_cons_of_mem _ (List.mem_append_left _ (List.mem_append_left _ (List.mem_of_getElem? (i := 1) rfl))))) dX3_flow_128 ?_
        refine lv_iload_n hx hb dX3_flow_131 rfl (lv_at hl 2 rfl) ?_
        refine lv_iload_n hx hb dX3_flow_132 rfl (lv_at hl 1 rfl) ?_
        refine lv_iadd hx hb dX3_flow_133 ?_
        refine hp_19_0n hx hb hts in_f_X3_flow_X8 hown hK hP hD hS (va_Nw.use rfl (hG.1 _ (List.mem_of_getElem? (i := 8) rfl))) dX3_flow_134 (fun H locs hP hD hS => ?_)
        refine lv_goto (tgt := 309) hx hb dX3_flow_137 (by decide) ?_
        exact ih.2.2.2.2.2.2.2.2.2.2.2.1 z _ _ L (uI σ 1900 ((((L.1 3)) + ((L.1 2))))) _ h hzk hc hs H locs ls hP hD hS (lv_sub hl [] rfl)
      · intro z cells slots L σ r h hzk hc hs H locs ls hP hD hS hl
        rw [f_X3_flow] at h
        refine lv_aload_n hx hb dX3_flow_140 rfl (lv_at hl 0 rfl) ?_
        obtain ⟨r1, hc1, h⟩ := op_ex h
        refine kc_i (va_runV (As := []) (rest := []) ⟨hx, hb, hml, hown, hts⟩ (c_y_X3_pop l dC dI cy a z k lZ σ r1 hc1 H.size) (cwV 0 hts g_y_X3_flow_X3_pop_V339 rfl rfl rfl hd_y_X3_pop ⟨Nat.le_of_ble_eq_true rfl, Nat.le_of_ble_eq_true rfl⟩) ⟨nb_blind, va_recv hK hP (ci := 3) (q0 := 18) rfl rfl, (kb_pre hK hG hP hD)⟩ rfl rfl hl.1 rfl (lv_room (Nat.le_of_ble_eq_true rfl)) dX3_flow_141 ⟨(Nat.le_trans (Nat.le_add_right _ _) (Nat.le_of_eq hc)), (Nat.le_trans (Nat.le_add_right _ _) (Nat.le_of_eq hs))⟩) hA hP hD hS (fun H locs hP hD hS => ?_)
        refine lv_istore (lv' := [(4, .int r1.1), (0, .ref (a 18)), (1, .int (L.1 1)), (2, .int (L.1 2)), (3, .int (L.1 3))]) hx hb dX3_flow_144 hl (by decide) rfl (fun ls hl => ?_)
        refine lv_aload_n hx hb dX3_flow_146 rfl (lv_at hl 1 rfl) ?_
        refine lv_iload hx hb dX3_flow_147 (lv_at hl 0 rfl) ?_
        obtain ⟨r2, hc2, h⟩ := op_ex h
        refine kc_i (va_runV (As := [.int r1.1]) (rest := []) ⟨hx, hb, hml, hown, hts⟩ (c_y_X3_wantTruth l dC dI cy a z k (lI lZ 1 r1.1) r1.2 r2 hc2 H.size) (cwV 1 hts g_y_X3_flow_X3_wantTruth_V342 rfl rfl rfl hd_y_X3_wantTruth ⟨Nat.le_of_ble_eq_true rfl, Nat.le_of_ble_eq_true rfl⟩) ⟨nb_blind, va_recv hK hP (ci := 3) (q0 := 18) rfl rfl, (kb_pre hK hG hP hD)⟩ rfl rfl hl.1 rfl (lv_room (Nat.le_of_ble_eq_true rfl)) dX3_flow_149 ⟨(Nat.le_trans (Nat.le_add_right _ _) (Nat.le_of_eq hc)), (Nat.le_trans (Nat.le_add_right _ _) (Nat.le_of_eq hs))⟩) hA hP hD hS (fun H locs hP hD hS => ?_)
        refine lv_if_eq (tgt := 309) hx hb dX3_flow_152 (by decide) (fun c3 => ?_) (fun c3 => ?_)
        · rw [if_pos c3] at h
          exact ih.2.2.2.2.2.2.2.2.2.2.2.1 z _ _ L r2.2 _ h hzk hc hs H locs ls hP hD hS (lv_sub hl [] rfl)
        · rw [if_neg c3] at h
          refine lv_iload hx hb dX3_flow_155 (lv_at hl 0 rfl) ?_
          refine lv_ldcw (v := (-1879048191)) hx hb hown (hts _ (List.mem_cons_of_mem _ (List.mem_append_left _ (List.mem_append_left _ (List.mem_of_getElem? (i := 11) rfl))))) dX3_flow_157 ?_
          refine lv_icmp_ne (tgt := 167) hx hb dX3_flow_160 (by decide) (fun c4 => ?_) (fun c4 => ?_)
          · rw [if_neg c4] at h
            exact ih.2.2.2.2.2.2.2.2.2.2.2.2.1 z _ _ L r2.2 _ h hzk hc hs H locs ls hP hD hS (lv_sub hl [1, 2, 3, 4] rfl)
          · rw [if_pos c4] at h
            refine lv_iconst (v := 1) hx hb dX3_flow_163 (by decide) ?_
            refine lv_goto (tgt := 168) hx hb dX3_flow_164 (by decide) ?_
            exact ih.2.2.2.2.2.2.2.2.2.2.2.2.2.1 z _ _ (lI L 100 1) r2.2 _ h hzk hc hs H locs ls hP hD hS (lv_sub hl [1, 2, 3, 4] rfl)
      · intro z cells slots L σ r h hzk hc hs H locs ls hP hD hS hl
        rw [f_X3_flow] at h
        refine lv_aload_n hx hb dX3_flow_194 rfl (lv_at hl 0 rfl) ?_
        refine lv_iload_n hx hb dX3_flow_195 rfl (lv_at hl 1 rfl) ?_
        refine lv_bipush (v := 7) hx hb dX3_flow_196 (by decide) ?_
        refine lv_icmp_ne (tgt := 207) hx hb dX3_flow_198 (by decide) (fun c1 => ?_) (fun c1 => ?_)
        · rw [if_neg c1] at h
          exact ih.2.2.2.2.2.2.2.2.2.2.2.2.2.2.1 z _ _ L σ _ h hzk hc hs H locs ls hP hD hS (lv_sub hl [2, 3] rfl)
        · rw [if_pos c1] at h
          refine lv_ldcw (v := (-1879048191)) hx hb hown (hts _ (List.mem_cons_of_mem _ (List.mem_append_left _ (List.mem_append_left _ (List.mem_of_getElem? (i := 11) rfl))))) dX3_flow_201 ?_
          refine lv_goto (tgt := 210) hx hb dX3_flow_204 (by decide) ?_
          exact ih.2.2.2.2.2.2.2.2.2.2.2.2.2.2.2.1 z _ _ (lI L 100 ((-1879048191))) σ _ h hzk hc hs H locs ls hP hD hS (lv_sub hl [2, 3] rfl)
      · intro z cells slots L σ r h hzk hc hs H locs ls hP hD hS hl
        rw [f_X3_flow] at h
        refine lv_aload_n hx hb dX3_flow_219 rfl (lv_at hl 0 rfl) ?_
        refine lv_aload_n hx hb dX3_flow_220 rfl (lv_at hl 0 rfl) ?_
        refine hg_18_7 hx hb hts in_f_X3_flow_X3 hown hK hP (hts _ (List.mem_cons_of_mem _ (List.mem_append_left _ (List.mem_append_left _ (List.mem_of_getElem? (i := 12) rfl))))) dX3_flow_221 ?_
        refine lv_aload_n hx hb dX3_flow_224 rfl (lv_at hl 0 rfl) ?_
        refine hg_18_5 hx hb hts in_f_X3_flow_X3 hown hK hP (hts _ (List.mem_cons_of_mem _ (List.mem_append_left _ (List.mem_append_left _ (List.mem_of_getElem? (i := 1) rfl))))) dX3_flow_225 ?_
        refine hg_19_2n hx hb hts in_f_X3_flow_X8 hown hK hP (va_Nw.use rfl (hG.1 _ (List.mem_of_getElem? (i := 10) rfl))) dX3_flow_228 ?_
        refine lv_iconst (v := 1) hx hb dX3_flow_231 (by decide) ?_
        refine lv_isub hx hb dX3_flow_232 ?_
        obtain ⟨q1, h⟩ := kr_ite1 h
        refine hl_20 hx hb hK hP q1 dX3_flow_233 ?_
        obtain ⟨r2, hc2, h⟩ := op_ex h
        refine kc_i (va_runV (As := [.int (σ.2.2.1 20 ((((σ.1 1902)) - 1)).toNatClampNeg)]) (rest := []) ⟨hx, hb, hml, hown, hts⟩ (c_y_X3_wantTruth l dC dI cy a z k (lI lZ 1 ((σ.2.2.1 20 ((((σ.1 1902)) - 1)).toNatClampNeg))) σ r2 hc2 H.size) (cwV 1 hts g_y_X3_flow_X3_wantTruth_V342 rfl rfl rfl hd_y_X3_wantTruth ⟨Nat.le_of_ble_eq_true rfl, Nat.le_of_ble_eq_true rfl⟩) ⟨nb_blind, va_recv hK hP (ci := 3) (q0 := 18) rfl rfl, (kb_pre hK hG hP hD)⟩ rfl rfl hl.1 rfl (lv_room (Nat.le_of_ble_eq_true rfl)) dX3_flow_234 ⟨(Nat.le_trans (Nat.le_add_right _ _) (Nat.le_of_eq hc)), (Nat.le_trans (Nat.le_add_right _ _) (Nat.le_of_eq hs))⟩) hA hP hD hS (fun H locs hP hD hS => ?_)
        refine lv_if_eq (tgt := 309) hx hb dX3_flow_237 (by decide) (fun c3 => ?_) (fun c3 => ?_)
        · rw [if_pos c3] at h
          exact ih.2.2.2.2.2.2.2.2.2.2.2.1 z _ _ L r2.2 _ h hzk hc hs H locs ls hP hD hS (lv_sub hl [] rfl)
        · rw [if_neg c3] at h
          refine lv_aload_n hx hb dX3_flow_240 rfl (lv_at hl 0 rfl) ?_
          refine lv_iconst (v := 1) hx hb dX3_flow_241 (by decide) ?_
          obtain ⟨r4, hc4, h⟩ := op_ex h
          refine kc_v (va_runV (As := [.int 1]) (rest := []) ⟨hx, hb, hml, hown, hts⟩ (c_y_X3_spend l dC dI cy a z k (lI lZ 1 1) r2.2 r4 hc4 H.size) (cwV 1 hts g_y_X3_flow_X3_spend_V319 rfl rfl rfl hd_y_X3_spend ⟨Nat.le_of_ble_eq_true rfl, Nat.le_of_ble_eq_true rfl⟩) ⟨nb_blind, va_recv hK hP (ci := 3) (q0 := 18) rfl rfl, (kb_pre hK hG hP hD)⟩ rfl rfl hl.1 rfl (lv_room (Nat.le_of_ble_eq_true rfl)) dX3_flow_242 ⟨(Nat.le_trans (Nat.le_add_right _ _) (Nat.le_of_eq hc)), (Nat.le_trans (Nat.le_add_right _ _) (Nat.le_of_eq hs))⟩) hA hP hD hS (fun H locs hP hD hS => ?_)
          refine lv_goto (tgt := 309) hx hb dX3_flow_245 (by decide) ?_
          exact ih.2.2.2.2.2.2.2.2.2.2.2.1 z _ _ L r4.2 _ h hzk hc hs H locs ls hP hD hS (lv_sub hl [] rfl)
      · intro z cells slots L σ r h hzk hc hs H locs ls hP hD hS hl
        rw [f_X3_flow] at h
        refine lv_aload_n hx hb dX3_flow_248 rfl (lv_at hl 0 rfl) ?_
        refine lv_aload_n hx hb dX3_flow_249 rfl (lv_at hl 0 rfl) ?_
        refine hg_18_7 hx hb hts in_f_X3_flow_X3 hown hK hP (hts _ (List.mem_cons_of_mem _ (List.mem_append_left _ (List.mem_append_left _ (List.mem_of_getElem? (i := 12) rfl))))) dX3_flow_250 ?_
        refine lv_aload_n hx hb dX3_flow_253 rfl (lv_at hl 0 rfl) ?_
        refine hg_18_5 hx hb hts in_f_X3_flow_X3 hown hK hP (hts _ (List.mem_cons_of_mem _ (List.mem_append_left _ (List.mem_append_left _ (List.mem_of_getElem? (i := 1) rfl))))) dX3_flow_254 ?_
        refine hg_19_2n hx hb hts in_f_X3_flow_X8 hown hK hP (va_Nw.use rfl (hG.1 _ (List.mem_of_getElem? (i := 10) rfl))) dX3_flow_257 ?_
        refine lv_iconst (v := 1) hx hb dX3_flow_260 (by decide) ?_
        refine lv_isub hx hb dX3_flow_261 ?_
        obtain ⟨q1, h⟩ := kr_ite1 h
        refine hl_20 hx hb hK hP q1 dX3_flow_262 ?_
        obtain ⟨r2, hc2, h⟩ := op_ex h
        refine kc_i (va_runV (As := [.int (σ.2.2.1 20 ((((σ.1 1902)) - 1)).toNatClampNeg)]) (rest := []) ⟨hx, hb, hml, hown, hts⟩ (c_y_X3_wantTruth l dC dI cy a z k (lI lZ 1 ((σ.2.2.1 20 ((((σ.1 1902)) - 1)).toNatClampNeg))) σ r2 hc2 H.size) (cwV 1 hts g_y_X3_flow_X3_wantTruth_V342 rfl rfl rfl hd_y_X3_wantTruth ⟨Nat.le_of_ble_eq_true rfl, Nat.le_of_ble_eq_true rfl⟩) ⟨nb_blind, va_recv hK hP (ci := 3) (q0 := 18) rfl rfl, (kb_pre hK hG hP hD)⟩ rfl rfl hl.1 rfl (lv_room (Nat.le_of_ble_eq_true rfl)) dX3_flow_263 ⟨(Nat.le_trans (Nat.le_add_right _ _) (Nat.le_of_eq hc)), (Nat.le_trans (Nat.le_add_right _ _) (Nat.le_of_eq hs))⟩) hA hP hD hS (fun H locs hP hD hS => ?_)
        refine lv_if_eq (tgt := 309) hx hb dX3_flow_266 (by decide) (fun c3 => ?_) (fun c3 => ?_)
        · rw [if_pos c3] at h
          exact ih.2.2.2.2.2.2.2.2.2.2.2.1 z _ _ L r2.2 _ h hzk hc hs H locs ls hP hD hS (lv_sub hl [] rfl)
        · rw [if_neg c3] at h
          refine lv_aload_n hx hb dX3_flow_269 rfl (lv_at hl 0 rfl) ?_
          refine lv_aload_n hx hb dX3_flow_270 rfl (lv_at hl 0 rfl) ?_
          refine hg_18_7 hx hb hts in_f_X3_flow_X3 hown hK hP (hts _ (List.mem_cons_of_mem _ (List.mem_append_left _ (List.mem_append_left _ (List.mem_of_getElem? (i := 12) rfl))))) dX3_flow_271 ?_
          refine lv_aload_n hx hb dX3_flow_274 rfl (lv_at hl 0 rfl) ?_
          refine hg_18_5 hx hb hts in_f_X3_flow_X3 hown hK hP (hts _ (List.mem_cons_of_mem _ (List.mem_append_left _ (List.mem_append_left _ (List.mem_of_getElem? (i := 1) rfl))))) dX3_flow_275 ?_
          refine hg_19_2n hx hb hts in_f_X3_flow_X8 hown hK hP (va_Nw.use rfl (hG.1 _ (List.mem_of_getElem? (i := 10) rfl))) dX3_flow_278 ?_
          refine lv_iconst (v := 1) hx hb dX3_flow_281 (by decide) ?_
          refine lv_isub hx hb dX3_flow_282 ?_
          obtain ⟨q4, h⟩ := kr_ite1 h
          refine hl_20 hx hb hK hP q4 dX3_flow_283 ?_
          refine lv_ldcw (v := (-1879048192)) hx hb hown (hts _ (List.mem_cons_of_mem _ (List.mem_append_left _ (List.mem_append_left _ (List.mem_of_getElem? (i := 16) rfl))))) dX3_flow_284 ?_
          refine lv_icmp_ne (tgt := 294) hx hb dX3_flow_287 (by decide) (fun c5 => ?_) (fun c5 => ?_)
          · rw [if_neg c5] at h
            exact ih.2.2.2.2.2.2.2.2.2.2.2.2.2.2.2.2.1 z _ _ L r2.2 _ h hzk hc hs H locs ls hP hD hS (lv_sub hl [] rfl)
          · rw [if_pos c5] at h
            refine lv_iconst (v := 1) hx hb dX3_flow_290 (by decide) ?_
            refine lv_goto (tgt := 295) hx hb dX3_flow_291 (by decide) ?_
            exact ih.2.2.2.2.2.2.2.2.2.2.2.2.2.2.2.2.2.1 z _ _ (lI L 100 1) r2.2 _ h hzk hc hs H locs ls hP hD hS (lv_sub hl [] rfl)
      · intro z cells slots L σ r h hzk hc hs H locs ls hP hD hS hl
        rw [f_X3_flow] at h
        refine lv_aload_n hx hb dX3_flow_304 rfl (lv_at hl 0 rfl) ?_
        refine lv_iconst (v := 1) hx hb dX3_flow_305 (by decide) ?_
        refine hp_18_12 hx hb hts in_f_X3_flow_X3 hown hK hP hD hS (hts _ (List.mem_cons_of_mem _ (List.mem_append_left _ (List.mem_append_left _ (List.mem_of_getElem? (i := 3) rfl))))) (Or.inr rfl) dX3_flow_306 (fun H locs hP hD hS => ?_)
        exact ih.2.2.2.2.2.2.2.2.2.2.2.1 z _ _ L (uI σ 1812 1) _ h hzk hc hs H locs ls hP hD hS (lv_sub hl [] rfl)
      · intro z cells slots L σ r h hzk hc hs H locs ls hP hD hS hl
        rw [f_X3_flow] at h
        refine lv_aload_n hx hb dX3_flow_102 rfl (lv_at hl 0 rfl) ?_
        refine lv_iload_n hx hb dX3_flow_103 rfl (lv_at hl 1 rfl) ?_
        refine lv_iload_n hx hb dX3_flow_104 rfl (lv_at hl 2 rfl) ?_
        obtain ⟨r1, hc1, h⟩ := op_ex h
        refine kc_v (va_runV (As := [.int (L.1 2), .int (L.1 3)]) (rest := []) ⟨hx, hb, hml, hown, hts⟩ (c_y_X3_beginStatement l dC dI cy a z k (lI (lI lZ 1 ((L.1 2))) 2 ((L.1 3))) σ r1 hc1 H.size) (cwV 2 hts g_y_X3_flow_X3_beginStatement_V336 rfl rfl rfl hd_y_X3_beginStatement ⟨Nat.le_of_ble_eq_true rfl, Nat.le_of_ble_eq_true rfl⟩) ⟨nb_blind, va_recv hK hP (ci := 3) (q0 := 18) rfl rfl, (kb_pre hK hG hP hD)⟩ rfl rfl hl.1 rfl (lv_room (Nat.le_of_ble_eq_true rfl)) dX3_flow_105 ⟨(Nat.le_trans (Nat.le_add_right _ _) (Nat.le_of_eq hc)), (Nat.le_trans (Nat.le_add_right _ _) (Nat.le_of_eq hs))⟩) hA hP hD hS (fun H locs hP hD hS => ?_)
        refine lv_goto (tgt := 309) hx hb dX3_flow_108 (by decide) ?_
        exact ih.2.2.2.2.2.2.2.2.2.2.2.1 z _ _ L r1.2 _ h hzk hc hs H locs ls hP hD hS (lv_sub hl [] rfl)
      · intro z cells slots L σ r h hzk hc hs H locs ls hP hD hS hl
        rw [f_X3_flow] at h
        refine lv_aload_n hx hb dX3_flow_97 rfl (lv_at hl 0 rfl) ?_
        refine lv_iload_n hx hb dX3_flow_98 rfl (lv_at hl 2 rfl) ?_
        obtain ⟨r1, hc1, hle1, h9⟩ := ox_ex h
        clear h
        refine kx_v (vx_runV (As := [.int (L.1 3)]) (rest := []) ⟨hx, hb, hml, hown, hts⟩ (c_f_X3_save l hl0 dC dI cy ek a k (lI lZ 1 ((L.1 3))) σ r1 hc1 z H.size) (cwV 1 hts g_f_X3_flow_X3_save_V333 rfl rfl rfl hd_f_X3_save ⟨Nat.le_of_ble_eq_true rfl, Nat.le_of_ble_eq_true rfl⟩) ⟨nb_blindF, va_recv hK hP (ci := 3) (q0 := 18) rfl rfl, (kx_pre hK hG hE hT hA hP hD hS)⟩ rfl rfl hl.1 rfl (lv_room (Nat.le_of_ble_eq_true rfl)) dX3_flow_99 ⟨Nat.le_trans (Nat.add_le_add_left hle1.1 _) (Nat.le_of_eq hc), Nat.le_trans (Nat.add_le_add_left hle1.2 _) (Nat.le_of_eq hs)⟩) hK hA hzk hP hD hS (by decide) hno hlocks ?_
        rcases h9 with ⟨h00, y1, hny1, hy⟩ | ⟨h00, hy⟩
        · subst hy
          have h := hny1
          refine Or.inl ⟨h00, fun z H locs hz1 hzk hP hD hS => ?_⟩
          replace hc := (Nat.add_assoc _ _ _).trans hc
          replace hs := (Nat.add_assoc _ _ _).trans hs
          exact ih.2.2.2.2.2.2.2.2.2.1 z _ _ L r1.2.1 _ h hzk hc hs H locs ls hP hD hS (lv_sub hl [0, 1, 2] rfl)
        · subst hy
          exact Or.inr ⟨h00, rfl, hc, hs⟩
      · intro z cells slots L σ r h hzk hc hs H locs ls hP hD hS hl
        rw [f_X3_flow] at h
        obtain rfl := Option.some.inj h
        subst hc
        subst hs
        exact xr_v hx hb hr hK hzk hP hD hS hlocks dX3_flow_309
      · intro z cells slots L σ r h hzk hc hs H locs ls hP hD hS hl
        rw [f_X3_flow] at h
        refine lv_iconst (v := 0) hx hb dX3_flow_167 (by decide) ?_
        exact ih.2.2.2.2.2.2.2.2.2.2.2.2.2.1 z _ _ (lI L 100 0) σ _ h hzk hc hs H locs ls hP hD hS (lv_sub hl [0, 1, 2, 3] rfl)
      · intro z cells slots L σ r h hzk hc hs H locs ls hP hD hS hl
        rw [f_X3_flow] at h
        refine lv_iload_n hx hb dX3_flow_168 rfl (lv_at hl 1 rfl) ?_
        refine lv_iconst (v := 5) hx hb dX3_flow_169 (by decide) ?_
        refine lv_icmp_ne (tgt := 177) hx hb dX3_flow_170 (by decide) (fun c1 => ?_) (fun c1 => ?_)
        · rw [if_neg c1] at h
          exact ih.2.2.2.2.2.2.2.2.2.2.2.2.2.2.2.2.2.2.1 z _ _ (lI L 100 ((L.1 100))) σ _ h hzk hc hs H locs ls hP hD hS (lv_sub hl [0, 2, 3] rfl)
        · rw [if_pos c1] at h
          refine lv_iconst (v := 1) hx hb dX3_flow_173 (by decide) ?_
          refine lv_goto (tgt := 178) hx hb dX3_flow_174 (by decide) ?_
          exact ih.2.2.2.2.2.2.2.2.2.2.2.2.2.2.2.2.2.2.2 z _ _ (lI (lI L 100 1) 101 ((L.1 100))) σ _ h hzk hc hs H locs ls hP hD hS (lv_sub hl [0, 2, 3] rfl)
      · intro z cells slots L σ r h hzk hc hs H locs ls hP hD hS hl
        rw [f_X3_flow] at h
        refine lv_ldcw (v := (-1879048192)) hx hb hown (hts _ (List.mem_cons_of_mem _ (List.mem_append_left _ (List.mem_append_left _ (List.mem_of_getElem? (i := 16) rfl))))) dX3_flow_207 ?_
        exact ih.2.2.2.2.2.2.2.2.2.2.2.2.2.2.2.1 z _ _ (lI L 100 ((-1879048192))) σ _ h hzk hc hs H locs ls hP hD hS (lv_sub hl [0, 1] rfl)
      · intro z cells slots L σ r h hzk hc hs H locs ls hP hD hS hl
        rw [f_X3_flow] at h
        refine lv_iload_n hx hb dX3_flow_210 rfl (lv_at hl 1 rfl) ?_
        refine lv_iload_n hx hb dX3_flow_211 rfl (lv_at hl 0 rfl) ?_
        refine lv_iadd hx hb dX3_flow_212 ?_
        obtain ⟨r1, hc1, h⟩ := op_ex h
        refine kc_v (va_runV (As := [.int (L.1 100), .int (((L.1 3)) + ((L.1 2)))]) (rest := []) ⟨hx, hb, hml, hown, hts⟩ (c_y_X3_shortcut l dC dI cy a z k (lI (lI lZ 1 ((L.1 100))) 2 ((((L.1 3)) + ((L.1 2))))) σ r1 hc1 H.size) (cwV 2 hts g_y_X3_flow_X3_shortcut_V345 rfl rfl rfl hd_y_X3_shortcut ⟨Nat.le_of_ble_eq_true rfl, Nat.le_of_ble_eq_true rfl⟩) ⟨nb_blind, va_recv hK hP (ci := 3) (q0 := 18) rfl rfl, (kb_pre hK hG hP hD)⟩ rfl rfl hl.1 rfl (lv_room (Nat.le_of_ble_eq_true rfl)) dX3_flow_213 ⟨(Nat.le_trans (Nat.le_add_right _ _) (Nat.le_of_eq hc)), (Nat.le_trans (Nat.le_add_right _ _) (Nat.le_of_eq hs))⟩) hA hP hD hS (fun H locs hP hD hS => ?_)
        refine lv_goto (tgt := 309) hx hb dX3_flow_216 (by decide) ?_
        exact ih.2.2.2.2.2.2.2.2.2.2.2.1 z _ _ L r1.2 _ h hzk hc hs H locs ls hP hD hS (lv_sub hl [] rfl)
      · intro z cells slots L σ r h hzk hc hs H locs ls hP hD hS hl
        rw [f_X3_flow] at h
        refine lv_iconst (v := 0) hx hb dX3_flow_294 (by decide) ?_
        exact ih.2.2.2.2.2.2.2.2.2.2.2.2.2.2.2.2.2.1 z _ _ (lI L 100 0) σ _ h hzk hc hs H locs ls hP hD hS (lv_sub hl [] rfl)
      · intro z cells slots L σ r h hzk hc hs H locs ls hP hD hS hl
        rw [f_X3_flow] at h
        obtain ⟨r1, hc1, h⟩ := op_ex h
        refine kc_i (va_runSN (As := [.int (L.1 100)]) (rest := [.ref (a 18)]) ⟨hx, hb, hml, hown, hts⟩ (c_y_X11_truth l dC dI cy a z k (lI lZ 0 ((L.1 100))) σ r1 hc1 H.size) ⟨va_cnB 1 hts g_y_X3_flow_X11_truth_SN348 rfl rfl rfl (hG.1 _ (List.mem_of_getElem? (i := 101) rfl)) (hts _ (List.mem_cons_of_mem _ (List.mem_append_left _ (List.mem_append_left _ (List.mem_of_getElem? (i := 26) rfl))))) hd_y_X11_truth ⟨Nat.le_of_ble_eq_true rfl, Nat.le_of_ble_eq_true rfl⟩, (hts _ (List.mem_cons_of_mem _ (List.mem_append_left _ (List.mem_append_left _ (List.mem_of_getElem? (i := 27) rfl))))), trivial⟩ ⟨nb_blind, (kb_pre hK hG hP hD)⟩ rfl rfl hl.1 rfl (lv_room (Nat.le_of_ble_eq_true rfl)) dX3_flow_295 ⟨(Nat.le_trans (Nat.le_add_right _ _) (Nat.le_of_eq hc)), (Nat.le_trans (Nat.le_add_right _ _) (Nat.le_of_eq hs))⟩) hA hP hD hS (fun H locs hP hD hS => ?_)
        obtain ⟨r2, hc2, h⟩ := op_ex h
        refine kc_v (va_runV (As := [.int r1.1]) (rest := []) ⟨hx, hb, hml, hown, hts⟩ (c_y_X3_replace l dC dI cy a z k (lI lZ 1 r1.1) r1.2 r2 hc2 H.size) (cwV 1 hts g_y_X3_flow_X3_replace_V280 rfl rfl rfl hd_y_X3_replace ⟨Nat.le_of_ble_eq_true rfl, Nat.le_of_ble_eq_true rfl⟩) ⟨nb_blind, va_recv hK hP (ci := 3) (q0 := 18) rfl rfl, (kb_pre hK hG hP hD)⟩ rfl rfl hl.1 rfl (lv_room (Nat.le_of_ble_eq_true rfl)) dX3_flow_298 ⟨(Nat.le_trans (Nat.le_add_right _ _) (Nat.le_of_eq hc)), (Nat.le_trans (Nat.le_add_right _ _) (Nat.le_of_eq hs))⟩) hA hP hD hS (fun H locs hP hD hS => ?_)
        refine lv_goto (tgt := 309) hx hb dX3_flow_301 (by decide) ?_
        exact ih.2.2.2.2.2.2.2.2.2.2.2.1 z _ _ L r2.2 _ h hzk hc hs H locs ls hP hD hS (lv_sub hl [] rfl)
      · intro z cells slots L σ r h hzk hc hs H locs ls hP hD hS hl
        rw [f_X3_flow] at h
        refine lv_iconst (v := 0) hx hb dX3_flow_177 (by decide) ?_
        exact ih.2.2.2.2.2.2.2.2.2.2.2.2.2.2.2.2.2.2.2 z _ _ (lI (lI L 100 0) 101 ((L.1 100))) σ _ h hzk hc hs H locs ls hP hD hS (lv_sub hl [0, 1, 2] rfl)
      · intro z cells slots L σ r h hzk hc hs H locs ls hP hD hS hl
        rw [f_X3_flow] at h
        refine lv_icmp_ne (tgt := 309) hx hb dX3_flow_178 (by decide) (fun c1 => ?_) (fun c1 => ?_)
        · rw [if_neg c1] at h
          exact ih.2.2.2.2.2.2.2.2.2.2.2.1 z _ _ L σ _ h hzk hc hs H locs ls hP hD hS (lv_sub hl [] rfl)
        · rw [if_pos c1] at h
          refine lv_aload_n hx hb dX3_flow_181 rfl (lv_at hl 0 rfl) ?_
          refine hg_18_5 hx hb hts in_f_X3_flow_X3 hown hK hP (hts _ (List.mem_cons_of_mem _ (List.mem_append_left _ (List.mem_append_left _ (List.mem_of_getElem? (i := 1) rfl))))) dX3_flow_182 ?_
          refine lv_iload_n hx hb dX3_flow_185 rfl (lv_at hl 2 rfl) ?_
          refine lv_iload_n hx hb dX3_flow_186 rfl (lv_at hl 1 rfl) ?_
          refine lv_iadd hx hb dX3_flow_187 ?_
          refine hp_19_0n hx hb hts in_f_X3_flow_X8 hown hK hP hD hS (va_Nw.use rfl (hG.1 _ (List.mem_of_getElem? (i := 8) rfl))) dX3_flow_188 (fun H locs hP hD hS => ?_)
          refine lv_goto (tgt := 309) hx hb dX3_flow_191 (by decide) ?_
          exact ih.2.2.2.2.2.2.2.2.2.2.2.1 z _ _ L (uI σ 1900 ((((L.1 3)) + ((L.1 2))))) _ h hzk hc hs H locs ls hP hD hS (lv_sub hl [] rfl)
  exact (blk k0).1 z 0 0 L0 σ0 r0 h0 (zk_rf _ _) ((Nat.zero_add _).trans hmc) ((Nat.zero_add _).trans hms) s.heap [] ls hP hD hS hl

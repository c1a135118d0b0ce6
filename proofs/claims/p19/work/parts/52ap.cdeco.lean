/-! X3_assign -/
def y_X3_assign : Nat → Nat → LV → CS → Option (Int32 × CS)
  | 0, _, _, _ => none
  | k + 1, 0, L, σ => oc (y_X1_size k 0 (lI lZ 1 ((L.1 2))) σ) (fun r1 => if ¬ (((L.1 1)) < 0 ∨ (sN r1.2 20) ≤ ((L.1 1)).toNatClampNeg) then (oc (y_X1_size k 0 (lI lZ 1 ((r1.2.2.2.1 20 ((L.1 1)).toNatClampNeg))) r1.2) (fun r3 => if ((r1.1 - r3.1)) ≤ 0 then (y_X3_assign k 1 (lI L 4 ((r1.1 - r3.1))) r3.2) else (if ((((((r3.2.1 1909)) + ((r1.1 - r3.1)))) + ((r3.2.1 1911)))) ≤ 40000 then (y_X3_assign k 1 (lI L 4 ((r1.1 - r3.1))) r3.2) else (oc (y_X3_fail k 0 (lI lZ 1 6) r3.2) (fun r6 => some (0, r6.2)))))) else none)
  | k + 1, 1, L, σ => if ((L.1 3)) = 0 then (y_X3_assign k 2 L (uI σ 1909 ((((σ.1 1909)) + ((L.1 4)))))) else (y_X3_assign k 3 (lI L 100 (((((uI σ 1909 ((((σ.1 1909)) + ((L.1 4))))).1 1910)) + ((L.1 4))))) (uI σ 1909 ((((σ.1 1909)) + ((L.1 4))))))
  | k + 1, 2, L, σ => y_X3_assign k 3 (lI L 100 ((σ.1 1910))) σ
  | k + 1, 3, L, σ => if ¬ (((L.1 1)) < 0 ∨ (sN (uI σ 1910 ((L.1 100))) 20) ≤ ((L.1 1)).toNatClampNeg) then (some (0, (uA (uI σ 1910 ((L.1 100))) 20 ((L.1 1)).toNatClampNeg ((L.1 2))))) else none
  | _ + 1, _ + 4, _, _ => none
def o_y_X3_assign : List Cond := [.fieldLink RX3 39 "SetHouse$Machine" "heap" "LSetHouse$Heap;", .methodLink RX3 316 yX1_size, .instanceMethod yX1_size, .selects RX1 yX1_size yX1_size, .initialized RX1, .fieldLink RX3 18 "SetHouse$Machine" "stack" "[I", .fieldLink RX3 14 "SetHouse$Machine" "run" "LSetHouse$Run;", .constant RX3 394 (40000), .methodLink RX3 313 yX3_fail, .instanceMethod yX3_fail, .selects RX3 yX3_fail yX3_fail, .initialized RX3]
theorem o_y_X3_assign_good : o_y_X3_assign.all goodWord = true := by decide +kernel
def p_y_X3_assign : List Cond := o_y_X3_assign ++ ((.code yX1_size cX1_size 3 (some .int) :: p_y_X1_size) ++ ((.code yX3_fail cX3_fail 2 none :: p_y_X3_fail) ++ []))
theorem p_y_X3_assign_good : p_y_X3_assign.all goodWord = true := nb_all2 o_y_X3_assign_good (nb_all2 (nb_allc (by decide +kernel) p_y_X1_size_good) (nb_all2 (nb_allc (by decide +kernel) p_y_X3_fail_good) rfl))
def w_y_X3_assign : List Cond := .code yX3_assign cX3_assign 5 none :: (p_y_X3_assign ++ fC)
theorem w_y_X3_assign_good : w_y_X3_assign.all goodWord = true := nb_allc (by decide +kernel) (nb_all2 p_y_X3_assign_good fC_good)
theorem in_y_X3_assign_X3 : ∀ w ∈ wsX30, w ∈ w_y_X3_assign := fun _ h => List.mem_cons_of_mem _ (List.mem_append_right _ (List.mem_append_right _ (List.mem_append_right _ (List.mem_append_right _ (List.mem_append_left _ h)))))
theorem in_y_X3_assign_X8 : ∀ w ∈ wsX80, w ∈ w_y_X3_assign := fun _ h => List.mem_cons_of_mem _ (List.mem_append_right _ (List.mem_append_right _ (List.mem_append_right _ (List.mem_append_right _ (List.mem_append_right _ (List.mem_append_right _ (List.mem_append_right _ (List.mem_append_right _ (List.mem_append_left _ h)))))))))
theorem hd_y_X3_assign : yX3_assign.cls = RX3 ∧ yX3_assign.cls ≠ "java/lang/invoke/MethodHandle" ∧ yX3_assign.cls ≠ "java/lang/invoke/VarHandle" ∧ (parseMethodDescriptor yX3_assign.desc).map (fun d => d.parameters.length) = some 3 := by decide +kernel
theorem gg_y_X3_assign_X1_size : GoodIn w_y_X3_assign w_y_X1_size := goodIn_sub (fun w h => (List.mem_cons.mp h).elim (fun e => (List.mem_cons_of_mem _ (List.mem_append_left _ (List.mem_append_right _ (List.mem_append_left _ (List.mem_cons.mpr (Or.inl e))))))) (fun h => (List.mem_append.mp h).elim (fun h => (List.mem_cons_of_mem _ (List.mem_append_left _ (List.mem_append_right _ (List.mem_append_left _ (List.mem_cons_of_mem _ h)))))) (fun h => List.mem_cons_of_mem _ (List.mem_append_right _ h)))) w_y_X1_size_good
theorem g_y_X3_assign_X1_size_V316 : GoodIn w_y_X3_assign (wsV RX3 316 RX1 yX1_size w_y_X1_size) := goodIn_app (nb_g4 (List.mem_cons_of_mem _ (List.mem_append_left _ (List.mem_append_left _ (List.mem_of_getElem? (i := 1) rfl)))) (List.mem_cons_of_mem _ (List.mem_append_left _ (List.mem_append_left _ (List.mem_of_getElem? (i := 2) rfl)))) (List.mem_cons_of_mem _ (List.mem_append_left _ (List.mem_append_left _ (List.mem_of_getElem? (i := 3) rfl)))) (List.mem_cons_of_mem _ (List.mem_append_left _ (List.mem_append_left _ (List.mem_of_getElem? (i := 4) rfl)))) (by decide +kernel)) gg_y_X3_assign_X1_size
theorem gg_y_X3_assign_X3_fail : GoodIn w_y_X3_assign w_y_X3_fail := goodIn_sub (fun w h => (List.mem_cons.mp h).elim (fun e => (List.mem_cons_of_mem _ (List.mem_append_left _ (List.mem_append_right _ (List.mem_append_right _ (List.mem_append_left _ (List.mem_cons.mpr (Or.inl e)))))))) (fun h => (List.mem_append.mp h).elim (fun h => (List.mem_cons_of_mem _ (List.mem_append_left _ (List.mem_append_right _ (List.mem_append_right _ (List.mem_append_left _ (List.mem_cons_of_mem _ h))))))) (fun h => List.mem_cons_of_mem _ (List.mem_append_right _ h)))) w_y_X3_fail_good
theorem g_y_X3_assign_X3_fail_V313 : GoodIn w_y_X3_assign (wsV RX3 313 RX3 yX3_fail w_y_X3_fail) := goodIn_app (nb_g4 (List.mem_cons_of_mem _ (List.mem_append_left _ (List.mem_append_left _ (List.mem_of_getElem? (i := 8) rfl)))) (List.mem_cons_of_mem _ (List.mem_append_left _ (List.mem_append_left _ (List.mem_of_getElem? (i := 9) rfl)))) (List.mem_cons_of_mem _ (List.mem_append_left _ (List.mem_append_left _ (List.mem_of_getElem? (i := 10) rfl)))) (List.mem_cons_of_mem _ (List.mem_append_left _ (List.mem_append_left _ (List.mem_of_getElem? (i := 11) rfl)))) (by decide +kernel)) gg_y_X3_assign_X3_fail
set_option maxHeartbeats 40000000 in
set_option maxRecDepth 100000 in
theorem c_y_X3_assign (l : Launch) (dC : Nat → ClassId) (dI : Nat → Nat → Nat) (cy : Nat → ClassId) (a z : Nat → Nat) (k0 : Nat) (L0 : LV) (σ0 : CS) (r0 : Int32 × CS) (h0 : y_X3_assign k0 0 L0 σ0 = some r0) (sz : Nat) : Met l yX3_assign w_y_X3_assign ({ frames := 1, cells := 0, slots := 0, locals := 22 }) (va_Pc [.ref (a 18), .int (L0.1 1), .int (L0.1 2), .int (L0.1 3)] (nIn (dC, dI) cy sz (vC cy a z σ0))) (va_Qv (fun _ : Unit => True) (fun _ t => nOut (dC, dI) cy (va_A (vC cy a z σ0) sz) (vC cy a z r0.2) t) (va_A (vC cy a z σ0) sz)) 0 0 (va_A (vC cy a z σ0) sz) := by
  refine Met.ofW (cc := cX3_assign) (maxL := 5) (ret := none) (by decide) rfl ?_
  intro p e s m args below meth c s₁ B hml hv
  obtain ⟨rfl, hsz, hP, hK, hD0, hG⟩ := hv
  have hx := B.exec
  have hb := B.bytes
  have hr := B.returns
  have hts := atoms_spec (ws := w_y_X3_assign) B.pre
  have hown : s.vm.findClass RX3 = some m.cls := findClass_of_methodNamed B.named
  have hlocks := B.notSynchronized
  subst hsz
  have hD := hD0.self (sz := s.heap.size)
  generalize hAe : va_A (vC cy a z σ0) s.heap.size = A at hD ⊢
  have hA : ∀ q : Nat, s.heap.size ≤ q → A q := fun q h => by rw [← hAe]; exact Or.inr h
  have hS : va_S A s.heap s.heap [] := va_S.rf
  have hl := lv_entry ([.ref (a 18), .int (L0.1 1), .int (L0.1 2), .int (L0.1 3)]) (n := 5) (Nat.le_of_ble_eq_true rfl)
  rw [lg_entry_eq]
  generalize (lg_sl ([.ref (a 18), .int (L0.1 1), .int (L0.1 2), .int (L0.1 3)]) ++ List.replicate (5 - (lg_sl ([.ref (a 18), .int (L0.1 1), .int (L0.1 2), .int (L0.1 3)])).length) Slot.unset).toArray = ls at hl ⊢
  have hl : lv_has ls 5 [(0, .ref (a 18)), (1, .int (L0.1 1)), (2, .int (L0.1 2)), (3, .int (L0.1 3))] := hl
  have blk : ∀ k : Nat, (bC p l e (headSpec w_y_X3_assign ({ frames := 1, cells := 0, slots := 0, locals := 22 })).room s m #[.ref (a 18), .int (L0.1 1), .int (L0.1 2), .int (L0.1 3)] below meth c dC dI cy a z A (kV dC dI cy a z A below #[.ref (a 18), .int (L0.1 1), .int (L0.1 2), .int (L0.1 3)] s) 5 (y_X3_assign k 0) (fun L => [(0, .ref (a 18)), (1, .int (L.1 1)), (2, .int (L.1 2)), (3, .int (L.1 3))]) 0 (fun L => [])) ∧ (bC p l e (headSpec w_y_X3_assign ({ frames := 1, cells := 0, slots := 0, locals := 22 })).room s m #[.ref (a 18), .int (L0.1 1), .int (L0.1 2), .int (L0.1 3)] below meth c dC dI cy a z A (kV dC dI cy a z A below #[.ref (a 18), .int (L0.1 1), .int (L0.1 2), .int (L0.1 3)] s) 5 (y_X3_assign k 1) (fun L => [(0, .ref (a 18)), (1, .int (L.1 1)), (2, .int (L.1 2)), (3, .int (L.1 3)), (4, .int (L.1 4))]) 60 (fun L => [])) ∧ (bC p l e (headSpec w_y_X3_assign ({ frames := 1, cells := 0, slots := 0, locals := 22 })).room s m #[.ref (a 18), .int (L0.1 1), .int (L0.1 2), .int (L0.1 3)] below meth c dC dI cy a z A (kV dC dI cy a z A below #[.ref (a 18), .int (L0.1 1), .int (L0.1 2), .int (L0.1 3)] s) 5 (y_X3_assign k 2) (fun L => [(0, .ref (a 18)), (1, .int (L.1 1)), (2, .int (L.1 2))]) 98 (fun L => [.ref (a 19)])) ∧ (bC p l e (headSpec w_y_X3_assign ({ frames := 1, cells := 0, slots := 0, locals := 22 })).room s m #[.ref (a 18), .int (L0.1 1), .int (L0.1 2), .int (L0.1 3)] below meth c dC dI cy a z A (kV dC dI cy a z A below #[.ref (a 18), .int (L0.1 1), .int (L0.1 2), .int (L0.1 3)] s) 5 (y_X3_assign k 3) (fun L => [(0, .ref (a 18)), (1, .int (L.1 1)), (2, .int (L.1 2))]) 105 (fun L => [.int (L.1 100), .ref (a 19)])) := by
    intro k
    induction k with
    | zero => exact ⟨fun L σ r h => (by cases h), fun L σ r h => (by cases h), fun L σ r h => (by cases h), fun L σ r h => (by cases h)⟩
    | succ k ih =>
      refine ⟨?_, ?_, ?_, ?_⟩
      · intro L σ r h H locs ls hP hD hS hl
        rw [y_X3_assign] at h
        refine lv_aload_n hx hb dX3_assign_0 rfl (lv_at hl 0 rfl) ?_
        refine hg_18_0 hx hb hts in_y_X3_assign_X3 hown hK hP (hts _ (List.mem_cons_of_mem _ (List.mem_append_left _ (List.mem_append_left _ (List.mem_of_getElem? (i := 0) rfl))))) dX3_assign_1 ?_
        refine lv_iload_n hx hb dX3_assign_4 rfl (lv_at hl 2 rfl) ?_
        obtain ⟨r1, hc1, h⟩ := oc_ex h
        refine kc_i (va_runV (As := [.int (L.1 2)]) (rest := []) ⟨hx, hb, hml, hown, hts⟩ (c_y_X1_size l dC dI cy a z k (lI lZ 1 ((L.1 2))) σ r1 hc1 H.size) (cwV 1 hts g_y_X3_assign_X1_size_V316 rfl rfl rfl hd_y_X1_size ⟨Nat.le_of_ble_eq_true rfl, Nat.le_of_ble_eq_true rfl⟩) ⟨nb_blind, va_recv hK hP (ci := 1) (q0 := 0) rfl rfl, (kb_pre hK hG hP hD)⟩ rfl rfl hl.1 rfl (lv_room (Nat.le_of_ble_eq_true rfl)) dX3_assign_5 ⟨Nat.le_refl _, Nat.le_refl _⟩) hA hP hD hS (fun H locs hP hD hS => ?_)
        refine lv_aload_n hx hb dX3_assign_8 rfl (lv_at hl 0 rfl) ?_
        refine hg_18_0 hx hb hts in_y_X3_assign_X3 hown hK hP (hts _ (List.mem_cons_of_mem _ (List.mem_append_left _ (List.mem_append_left _ (List.mem_of_getElem? (i := 0) rfl))))) dX3_assign_9 ?_
        refine lv_aload_n hx hb dX3_assign_12 rfl (lv_at hl 0 rfl) ?_
        refine hg_18_7 hx hb hts in_y_X3_assign_X3 hown hK hP (hts _ (List.mem_cons_of_mem _ (List.mem_append_left _ (List.mem_append_left _ (List.mem_of_getElem? (i := 5) rfl))))) dX3_assign_13 ?_
        refine lv_iload_n hx hb dX3_assign_16 rfl (lv_at hl 1 rfl) ?_
        obtain ⟨q2, h⟩ := kb_ite1 h
        refine hl_20 hx hb hK hP q2 dX3_assign_17 ?_
        obtain ⟨r3, hc3, h⟩ := oc_ex h
        refine kc_i (va_runV (As := [.int (r1.2.2.2.1 20 ((L.1 1)).toNatClampNeg)]) (rest := [.int r1.1]) ⟨hx, hb, hml, hown, hts⟩ (c_y_X1_size l dC dI cy a z k (lI lZ 1 ((r1.2.2.2.1 20 ((L.1 1)).toNatClampNeg))) r1.2 r3 hc3 H.size) (cwV 1 hts g_y_X3_assign_X1_size_V316 rfl rfl rfl hd_y_X1_size ⟨Nat.le_of_ble_eq_true rfl, Nat.le_of_ble_eq_true rfl⟩) ⟨nb_blind, va_recv hK hP (ci := 1) (q0 := 0) rfl rfl, (kb_pre hK hG hP hD)⟩ rfl rfl hl.1 rfl (lv_room (Nat.le_of_ble_eq_true rfl)) dX3_assign_18 ⟨Nat.le_refl _, Nat.le_refl _⟩) hA hP hD hS (fun H locs hP hD hS => ?_)
        refine lv_isub hx hb dX3_assign_21 ?_
        refine lv_istore (lv' := [(4, .int (r1.1 - r3.1)), (0, .ref (a 18)), (1, .int (L.1 1)), (2, .int (L.1 2)), (3, .int (L.1 3))]) hx hb dX3_assign_22 hl (by decide) rfl (fun ls hl => ?_)
        refine lv_iload hx hb dX3_assign_24 (lv_at hl 0 rfl) ?_
        refine lv_if_le (tgt := 60) hx hb dX3_assign_26 (by decide) (fun c4 => ?_) (fun c4 => ?_)
        · rw [if_pos c4] at h
          exact ih.2.1 (lI L 4 ((r1.1 - r3.1))) r3.2 r h H locs ls hP hD hS (lv_sub hl [1, 2, 3, 4, 0] rfl)
        · rw [if_neg c4] at h
          refine lv_aload_n hx hb dX3_assign_29 rfl (lv_at hl 1 rfl) ?_
          refine hg_18_5 hx hb hts in_y_X3_assign_X3 hown hK hP (hts _ (List.mem_cons_of_mem _ (List.mem_append_left _ (List.mem_append_left _ (List.mem_of_getElem? (i := 6) rfl))))) dX3_assign_30 ?_
          refine hg_19_9n hx hb hts in_y_X3_assign_X8 hown hK hP (va_Nw.use rfl (hG.1 _ (List.mem_of_getElem? (i := 25) rfl))) dX3_assign_33 ?_
          refine lv_iload hx hb dX3_assign_36 (lv_at hl 0 rfl) ?_
          refine lv_iadd hx hb dX3_assign_38 ?_
          refine lv_aload_n hx hb dX3_assign_39 rfl (lv_at hl 1 rfl) ?_
          refine hg_18_5 hx hb hts in_y_X3_assign_X3 hown hK hP (hts _ (List.mem_cons_of_mem _ (List.mem_append_left _ (List.mem_append_left _ (List.mem_of_getElem? (i := 6) rfl))))) dX3_assign_40 ?_
          refine hg_19_11n hx hb hts in_y_X3_assign_X8 hown hK hP (va_Nw.use rfl (hG.1 _ (List.mem_of_getElem? (i := 29) rfl))) dX3_assign_43 ?_
          refine lv_iadd hx hb dX3_assign_46 ?_
          refine lv_ldcw (v := 40000) hx hb hown (hts _ (List.mem_cons_of_mem _ (List.mem_append_left _ (List.mem_append_left _ (List.mem_of_getElem? (i := 7) rfl))))) dX3_assign_47 ?_
          refine lv_icmp_le (tgt := 60) hx hb dX3_assign_50 (by decide) (fun c5 => ?_) (fun c5 => ?_)
          · rw [if_pos c5] at h
            exact ih.2.1 (lI L 4 ((r1.1 - r3.1))) r3.2 r h H locs ls hP hD hS (lv_sub hl [1, 2, 3, 4, 0] rfl)
          · rw [if_neg c5] at h
            refine lv_aload_n hx hb dX3_assign_53 rfl (lv_at hl 1 rfl) ?_
            refine lv_bipush (v := 6) hx hb dX3_assign_54 (by decide) ?_
            obtain ⟨r6, hc6, h⟩ := oc_ex h
            refine kc_v (va_runV (As := [.int 6]) (rest := []) ⟨hx, hb, hml, hown, hts⟩ (c_y_X3_fail l dC dI cy a z k (lI lZ 1 6) r3.2 r6 hc6 H.size) (cwV 1 hts g_y_X3_assign_X3_fail_V313 rfl rfl rfl hd_y_X3_fail ⟨Nat.le_of_ble_eq_true rfl, Nat.le_of_ble_eq_true rfl⟩) ⟨nb_blind, va_recv hK hP (ci := 3) (q0 := 18) rfl rfl, (kb_pre hK hG hP hD)⟩ rfl rfl hl.1 rfl (lv_room (Nat.le_of_ble_eq_true rfl)) dX3_assign_56 ⟨Nat.le_refl _, Nat.le_refl _⟩) hA hP hD hS (fun H locs hP hD hS => ?_)
            obtain rfl := Option.some.inj h
            exact W.vret hx hb hr (fun t ht hW => ⟨⟨(), rfl, trivial, by rw [ht]; exact hP, va_K.moved hW.alike hK, hD⟩, hS.F ht⟩) hS.2.2 dX3_assign_59
      · intro L σ r h H locs ls hP hD hS hl
        rw [y_X3_assign] at h
        refine lv_aload_n hx hb dX3_assign_60 rfl (lv_at hl 0 rfl) ?_
        refine hg_18_5 hx hb hts in_y_X3_assign_X3 hown hK hP (hts _ (List.mem_cons_of_mem _ (List.mem_append_left _ (List.mem_append_left _ (List.mem_of_getElem? (i := 6) rfl))))) dX3_assign_61 ?_
        refine lv_aload_n hx hb dX3_assign_64 rfl (lv_at hl 0 rfl) ?_
        refine hg_18_5 hx hb hts in_y_X3_assign_X3 hown hK hP (hts _ (List.mem_cons_of_mem _ (List.mem_append_left _ (List.mem_append_left _ (List.mem_of_getElem? (i := 6) rfl))))) dX3_assign_65 ?_
        refine hg_19_9n hx hb hts in_y_X3_assign_X8 hown hK hP (va_Nw.use rfl (hG.1 _ (List.mem_of_getElem? (i := 25) rfl))) dX3_assign_68 ?_
        refine lv_iload hx hb dX3_assign_71 (lv_at hl 4 rfl) ?_
        refine lv_iadd hx hb dX3_assign_73 ?_
        refine hp_19_9n hx hb hts in_y_X3_assign_X8 hown hK hP hD hS (va_Nw.use rfl (hG.1 _ (List.mem_of_getElem? (i := 25) rfl))) dX3_assign_74 (fun H locs hP hD hS => ?_)
        refine lv_aload_n hx hb dX3_assign_77 rfl (lv_at hl 0 rfl) ?_
        refine hg_18_5 hx hb hts in_y_X3_assign_X3 hown hK hP (hts _ (List.mem_cons_of_mem _ (List.mem_append_left _ (List.mem_append_left _ (List.mem_of_getElem? (i := 6) rfl))))) dX3_assign_78 ?_
        refine lv_iload_n hx hb dX3_assign_81 rfl (lv_at hl 3 rfl) ?_
        refine lv_if_eq (tgt := 98) hx hb dX3_assign_82 (by decide) (fun c1 => ?_) (fun c1 => ?_)
        · rw [if_pos c1] at h
          exact ih.2.2.1 L (uI σ 1909 ((((σ.1 1909)) + ((L.1 4))))) r h H locs ls hP hD hS (lv_sub hl [0, 1, 2] rfl)
        · rw [if_neg c1] at h
          refine lv_aload_n hx hb dX3_assign_85 rfl (lv_at hl 0 rfl) ?_
          refine hg_18_5 hx hb hts in_y_X3_assign_X3 hown hK hP (hts _ (List.mem_cons_of_mem _ (List.mem_append_left _ (List.mem_append_left _ (List.mem_of_getElem? (i := 6) rfl))))) dX3_assign_86 ?_
          refine hg_19_10n hx hb hts in_y_X3_assign_X8 hown hK hP (va_Nw.use rfl (hG.1 _ (List.mem_of_getElem? (i := 28) rfl))) dX3_assign_89 ?_
          refine lv_iload hx hb dX3_assign_92 (lv_at hl 4 rfl) ?_
          refine lv_iadd hx hb dX3_assign_94 ?_
          refine lv_goto (tgt := 105) hx hb dX3_assign_95 (by decide) ?_
          exact ih.2.2.2 (lI L 100 (((((uI σ 1909 ((((σ.1 1909)) + ((L.1 4))))).1 1910)) + ((L.1 4))))) (uI σ 1909 ((((σ.1 1909)) + ((L.1 4))))) r h H locs ls hP hD hS (lv_sub hl [0, 1, 2] rfl)
      · intro L σ r h H locs ls hP hD hS hl
        rw [y_X3_assign] at h
        refine lv_aload_n hx hb dX3_assign_98 rfl (lv_at hl 0 rfl) ?_
        refine hg_18_5 hx hb hts in_y_X3_assign_X3 hown hK hP (hts _ (List.mem_cons_of_mem _ (List.mem_append_left _ (List.mem_append_left _ (List.mem_of_getElem? (i := 6) rfl))))) dX3_assign_99 ?_
        refine hg_19_10n hx hb hts in_y_X3_assign_X8 hown hK hP (va_Nw.use rfl (hG.1 _ (List.mem_of_getElem? (i := 28) rfl))) dX3_assign_102 ?_
        exact ih.2.2.2 (lI L 100 ((σ.1 1910))) σ r h H locs ls hP hD hS (lv_sub hl [0, 1, 2] rfl)
      · intro L σ r h H locs ls hP hD hS hl
        rw [y_X3_assign] at h
        refine hp_19_10n hx hb hts in_y_X3_assign_X8 hown hK hP hD hS (va_Nw.use rfl (hG.1 _ (List.mem_of_getElem? (i := 28) rfl))) dX3_assign_105 (fun H locs hP hD hS => ?_)
        refine lv_aload_n hx hb dX3_assign_108 rfl (lv_at hl 0 rfl) ?_
        refine hg_18_7 hx hb hts in_y_X3_assign_X3 hown hK hP (hts _ (List.mem_cons_of_mem _ (List.mem_append_left _ (List.mem_append_left _ (List.mem_of_getElem? (i := 5) rfl))))) dX3_assign_109 ?_
        refine lv_iload_n hx hb dX3_assign_112 rfl (lv_at hl 1 rfl) ?_
        refine lv_iload_n hx hb dX3_assign_113 rfl (lv_at hl 2 rfl) ?_
        obtain ⟨q1, h⟩ := kb_ite1 h
        refine hs_20 hx hb hK hP hD hS q1 dX3_assign_114 (fun H locs hP hD hS => ?_)
        obtain rfl := Option.some.inj h
        exact W.vret hx hb hr (fun t ht hW => ⟨⟨(), rfl, trivial, by rw [ht]; exact hP, va_K.moved hW.alike hK, hD⟩, hS.F ht⟩) hS.2.2 dX3_assign_115
  exact (blk k0).1 L0 σ0 r0 h0 s.heap [] ls hP hD hS hl
/-! X3_letGo__z20 -/
def y_X3_letGo__z20 : Nat → Nat → LV → CS → Option (Int32 × CS)
  | 0, _, _, _ => none
  | k + 1, 0, L, σ => if ((L.1 3)) = 0 then (y_X3_letGo__z20 k 1 L σ) else (if ¬ (((L.1 2)) < 0 ∨ (sN σ 20) ≤ ((L.1 2)).toNatClampNeg) then (if ((σ.2.2.1 20 ((L.1 2)).toNatClampNeg)) = ((-2147483648)) then (y_X3_letGo__z20 k 1 L σ) else (if ¬ (((L.1 2)) < 0 ∨ (sN σ 20) ≤ ((L.1 2)).toNatClampNeg) then (oc (y_X1_size k 0 (lI lZ 1 ((σ.2.2.1 20 ((L.1 2)).toNatClampNeg))) σ) (fun r5 => y_X3_letGo__z20 k 1 L (uI (uI r5.2 1909 ((((r5.2.1 1909)) - r5.1))) 1910 (((((uI r5.2 1909 ((((r5.2.1 1909)) - r5.1))).1 1910)) - r5.1))))) else none)) else none)
  | k + 1, 1, L, σ => if ¬ (((L.1 2)) < 0 ∨ (sN σ 20) ≤ ((L.1 2)).toNatClampNeg) then (if ¬ (((((L.1 2)) + 1)) < 0 ∨ (sN (uA σ 20 ((L.1 2)).toNatClampNeg ((-2147483648))) 20) ≤ ((((L.1 2)) + 1)).toNatClampNeg) then (some (0, (uA (uA σ 20 ((L.1 2)).toNatClampNeg ((-2147483648))) 20 ((((L.1 2)) + 1)).toNatClampNeg ((-2147483648))))) else none) else none
  | _ + 1, _ + 2, _, _ => none
def o_y_X3_letGo__z20 : List Cond := [.constant RX3 136 (-2147483648), .fieldLink RX3 39 "SetHouse$Machine" "heap" "LSetHouse$Heap;", .methodLink RX3 316 yX1_size, .instanceMethod yX1_size, .selects RX1 yX1_size yX1_size, .initialized RX1, .fieldLink RX3 14 "SetHouse$Machine" "run" "LSetHouse$Run;"]
theorem o_y_X3_letGo__z20_good : o_y_X3_letGo__z20.all goodWord = true := by decide +kernel
def p_y_X3_letGo__z20 : List Cond := o_y_X3_letGo__z20 ++ ((.code yX1_size cX1_size 3 (some .int) :: p_y_X1_size) ++ [])
theorem p_y_X3_letGo__z20_good : p_y_X3_letGo__z20.all goodWord = true := nb_all2 o_y_X3_letGo__z20_good (nb_all2 (nb_allc (by decide +kernel) p_y_X1_size_good) rfl)
def w_y_X3_letGo__z20 : List Cond := .code yX3_letGo cX3_letGo 5 none :: (p_y_X3_letGo__z20 ++ fC)
theorem w_y_X3_letGo__z20_good : w_y_X3_letGo__z20.all goodWord = true := nb_allc (by decide +kernel) (nb_all2 p_y_X3_letGo__z20_good fC_good)
theorem in_y_X3_letGo__z20_X3 : ∀ w ∈ wsX30, w ∈ w_y_X3_letGo__z20 := fun _ h => List.mem_cons_of_mem _ (List.mem_append_right _ (List.mem_append_right _ (List.mem_append_right _ (List.mem_append_right _ (List.mem_append_left _ h)))))
theorem in_y_X3_letGo__z20_X8 : ∀ w ∈ wsX80, w ∈ w_y_X3_letGo__z20 := fun _ h => List.mem_cons_of_mem _ (List.mem_append_right _ (List.mem_append_right _ (List.mem_append_right _ (List.mem_append_right _ (List.mem_append_right _ (List.mem_append_right _ (List.mem_append_right _ (List.mem_append_right _ (List.mem_append_left _ h)))))))))
theorem hd_y_X3_letGo__z20 : yX3_letGo.cls = RX3 ∧ yX3_letGo.cls ≠ "java/lang/invoke/MethodHandle" ∧ yX3_letGo.cls ≠ "java/lang/invoke/VarHandle" ∧ (parseMethodDescriptor yX3_letGo.desc).map (fun d => d.parameters.length) = some 3 := by decide +kernel
theorem gg_y_X3_letGo__z20_X1_size : GoodIn w_y_X3_letGo__z20 w_y_X1_size := goodIn_sub (fun w h => (List.mem_cons.mp h).elim (fun e => (List.mem_cons_of_mem _ (List.mem_append_left _ (List.mem_append_right _ (List.mem_append_left _ (List.mem_cons.mpr (Or.inl e))))))) (fun h => (List.mem_append.mp h).elim (fun h => (List.mem_cons_of_mem _ (List.mem_append_left _ (List.mem_append_right _ (List.mem_append_left _ (List.mem_cons_of_mem _ h)))))) (fun h => List.mem_cons_of_mem _ (List.mem_append_right _ h)))) w_y_X1_size_good
theorem g_y_X3_letGo__z20_X1_size_V316 : GoodIn w_y_X3_letGo__z20 (wsV RX3 316 RX1 yX1_size w_y_X1_size) := goodIn_app (nb_g4 (List.mem_cons_of_mem _ (List.mem_append_left _ (List.mem_append_left _ (List.mem_of_getElem? (i := 2) rfl)))) (List.mem_cons_of_mem _ (List.mem_append_left _ (List.mem_append_left _ (List.mem_of_getElem? (i := 3) rfl)))) (List.mem_cons_of_mem _ (List.mem_append_left _ (List.mem_append_left _ (List.mem_of_getElem? (i := 4) rfl)))) (List.mem_cons_of_mem _ (List.mem_append_left _ (List.mem_append_left _ (List.mem_of_getElem? (i := 5) rfl)))) (by decide +kernel)) gg_y_X3_letGo__z20_X1_size
set_option maxHeartbeats 40000000 in
set_option maxRecDepth 100000 in
theorem c_y_X3_letGo__z20 (l : Launch) (dC : Nat → ClassId) (dI : Nat → Nat → Nat) (cy : Nat → ClassId) (a z : Nat → Nat) (k0 : Nat) (L0 : LV) (σ0 : CS) (r0 : Int32 × CS) (h0 : y_X3_letGo__z20 k0 0 L0 σ0 = some r0) (sz : Nat) : Met l yX3_letGo w_y_X3_letGo__z20 ({ frames := 1, cells := 0, slots := 0, locals := 22 }) (va_Pc [.ref (a 18), .ref (z 20), .int (L0.1 2), .int (L0.1 3)] (nIn (dC, dI) cy sz (vC cy a z σ0))) (va_Qv (fun _ : Unit => True) (fun _ t => nOut (dC, dI) cy (va_A (vC cy a z σ0) sz) (vC cy a z r0.2) t) (va_A (vC cy a z σ0) sz)) 0 0 (va_A (vC cy a z σ0) sz) := by
  refine Met.ofW (cc := cX3_letGo) (maxL := 5) (ret := none) (by decide) rfl ?_
  intro p e s m args below meth c s₁ B hml hv
  obtain ⟨rfl, hsz, hP, hK, hD0, hG⟩ := hv
  have hx := B.exec
  have hb := B.bytes
  have hr := B.returns
  have hts := atoms_spec (ws := w_y_X3_letGo__z20) B.pre
  have hown : s.vm.findClass RX3 = some m.cls := findClass_of_methodNamed B.named
  have hlocks := B.notSynchronized
  subst hsz
  have hD := hD0.self (sz := s.heap.size)
  generalize hAe : va_A (vC cy a z σ0) s.heap.size = A at hD ⊢
  have hA : ∀ q : Nat, s.heap.size ≤ q → A q := fun q h => by rw [← hAe]; exact Or.inr h
  have hS : va_S A s.heap s.heap [] := va_S.rf
  have hl := lv_entry ([.ref (a 18), .ref (z 20), .int (L0.1 2), .int (L0.1 3)]) (n := 5) (Nat.le_of_ble_eq_true rfl)
  rw [lg_entry_eq]
  generalize (lg_sl ([.ref (a 18), .ref (z 20), .int (L0.1 2), .int (L0.1 3)]) ++ List.replicate (5 - (lg_sl ([.ref (a 18), .ref (z 20), .int (L0.1 2), .int (L0.1 3)])).length) Slot.unset).toArray = ls at hl ⊢
  have hl : lv_has ls 5 [(0, .ref (a 18)), (1, .ref (z 20)), (2, .int (L0.1 2)), (3, .int (L0.1 3))] := hl
  have blk : ∀ k : Nat, (bC p l e (headSpec w_y_X3_letGo__z20 ({ frames := 1, cells := 0, slots := 0, locals := 22 })).room s m #[.ref (a 18), .ref (z 20), .int (L0.1 2), .int (L0.1 3)] below meth c dC dI cy a z A (kV dC dI cy a z A below #[.ref (a 18), .ref (z 20), .int (L0.1 2), .int (L0.1 3)] s) 5 (y_X3_letGo__z20 k 0) (fun L => [(0, .ref (a 18)), (1, .ref (z 20)), (2, .int (L.1 2)), (3, .int (L.1 3))]) 0 (fun L => [])) ∧ (bC p l e (headSpec w_y_X3_letGo__z20 ({ frames := 1, cells := 0, slots := 0, locals := 22 })).room s m #[.ref (a 18), .ref (z 20), .int (L0.1 2), .int (L0.1 3)] below meth c dC dI cy a z A (kV dC dI cy a z A below #[.ref (a 18), .ref (z 20), .int (L0.1 2), .int (L0.1 3)] s) 5 (y_X3_letGo__z20 k 1) (fun L => [(1, .ref (z 20)), (2, .int (L.1 2))]) 58 (fun L => [])) := by
    intro k
    induction k with
    | zero => exact ⟨fun L σ r h => (by cases h), fun L σ r h => (by cases h)⟩
    | succ k ih =>
      refine ⟨?_, ?_⟩
      · intro L σ r h H locs ls hP hD hS hl
        rw [y_X3_letGo__z20] at h
        refine lv_iload_n hx hb dX3_letGo_0 rfl (lv_at hl 3 rfl) ?_
        refine lv_if_eq (tgt := 58) hx hb dX3_letGo_1 (by decide) (fun c1 => ?_) (fun c1 => ?_)
        · rw [if_pos c1] at h
          exact ih.2 L σ r h H locs ls hP hD hS (lv_sub hl [1, 2] rfl)
        · rw [if_neg c1] at h
          refine lv_aload_n hx hb dX3_letGo_4 rfl (lv_at hl 1 rfl) ?_
          refine lv_iload_n hx hb dX3_letGo_5 rfl (lv_at hl 2 rfl) ?_
          obtain ⟨q2, h⟩ := kb_ite1 h
          refine hl_20 hx hb hK hP q2 dX3_letGo_6 ?_
          refine lv_ldc (v := (-2147483648)) hx hb hown (hts _ (List.mem_cons_of_mem _ (List.mem_append_left _ (List.mem_append_left _ (List.mem_of_getElem? (i := 0) rfl))))) dX3_letGo_7 ?_
          refine lv_icmp_eq (tgt := 58) hx hb dX3_letGo_9 (by decide) (fun c3 => ?_) (fun c3 => ?_)
          · rw [if_pos c3] at h
            exact ih.2 L σ r h H locs ls hP hD hS (lv_sub hl [1, 2] rfl)
          · rw [if_neg c3] at h
            refine lv_aload_n hx hb dX3_letGo_12 rfl (lv_at hl 0 rfl) ?_
            refine hg_18_0 hx hb hts in_y_X3_letGo__z20_X3 hown hK hP (hts _ (List.mem_cons_of_mem _ (List.mem_append_left _ (List.mem_append_left _ (List.mem_of_getElem? (i := 1) rfl))))) dX3_letGo_13 ?_
            refine lv_aload_n hx hb dX3_letGo_16 rfl (lv_at hl 1 rfl) ?_
            refine lv_iload_n hx hb dX3_letGo_17 rfl (lv_at hl 2 rfl) ?_
            obtain ⟨q4, h⟩ := kb_ite1 h
            refine hl_20 hx hb hK hP q4 dX3_letGo_18 ?_
            obtain ⟨r5, hc5, h⟩ := oc_ex h
            refine kc_i (va_runV (As := [.int (σ.2.2.1 20 ((L.1 2)).toNatClampNeg)]) (rest := []) ⟨hx, hb, hml, hown, hts⟩ (c_y_X1_size l dC dI cy a z k (lI lZ 1 ((σ.2.2.1 20 ((L.1 2)).toNatClampNeg))) σ r5 hc5 H.size) (cwV 1 hts g_y_X3_letGo__z20_X1_size_V316 rfl rfl rfl hd_y_X1_size ⟨Nat.le_of_ble_eq_true rfl, Nat.le_of_ble_eq_true rfl⟩) ⟨nb_blind, va_recv hK hP (ci := 1) (q0 := 0) rfl rfl, (kb_pre hK hG hP hD)⟩ rfl rfl hl.1 rfl (lv_room (Nat.le_of_ble_eq_true rfl)) dX3_letGo_19 ⟨Nat.le_refl _, Nat.le_refl _⟩) hA hP hD hS (fun H locs hP hD hS => ?_)
            refine lv_istore (lv' := [(4, .int r5.1), (0, .ref (a 18)), (1, .ref (z 20)), (2, .int (L.1 2)), (3, .int (L.1 3))]) hx hb dX3_letGo_22 hl (by decide) rfl (fun ls hl => ?_)
            refine lv_aload_n hx hb dX3_letGo_24 rfl (lv_at hl 1 rfl) ?_
            refine hg_18_5 hx hb hts in_y_X3_letGo__z20_X3 hown hK hP (hts _ (List.mem_cons_of_mem _ (List.mem_append_left _ (List.mem_append_left _ (List.mem_of_getElem? (i := 6) rfl))))) dX3_letGo_25 ?_
            refine lv_aload_n hx hb dX3_letGo_28 rfl (lv_at hl 1 rfl) ?_
            refine hg_18_5 hx hb hts in_y_X3_letGo__z20_X3 hown hK hP (hts _ (List.mem_cons_of_mem _ (List.mem_append_left _ (List.mem_append_left _ (List.mem_of_getElem? (i := 6) rfl))))) dX3_letGo_29 ?_
            refine hg_19_9n hx hb hts in_y_X3_letGo__z20_X8 hown hK hP (va_Nw.use rfl (hG.1 _ (List.mem_of_getElem? (i := 25) rfl))) dX3_letGo_32 ?_
            refine lv_iload hx hb dX3_letGo_35 (lv_at hl 0 rfl) ?_
            refine lv_isub hx hb dX3_letGo_37 ?_
            refine hp_19_9n hx hb hts in_y_X3_letGo__z20_X8 hown hK hP hD hS (va_Nw.use rfl (hG.1 _ (List.mem_of_getElem? (i := 25) rfl))) dX3_letGo_38 (fun H locs hP hD hS => ?_)
            refine lv_aload_n hx hb dX3_letGo_41 rfl (lv_at hl 1 rfl) ?_
            refine hg_18_5 hx hb hts in_y_X3_letGo__z20_X3 hown hK hP (hts _ (List.mem_cons_of_mem _ (List.mem_append_left _ (List.mem_append_left _ (List.mem_of_getElem? (i := 6) rfl))))) dX3_letGo_42 ?_
            refine lv_aload_n hx hb dX3_letGo_45 rfl (lv_at hl 1 rfl) ?_
            refine hg_18_5 hx hb hts in_y_X3_letGo__z20_X3 hown hK hP (hts _ (List.mem_cons_of_mem _ (List.mem_append_left _ (List.mem_append_left _ (List.mem_of_getElem? (i := 6) rfl))))) dX3_letGo_46 ?_
            refine hg_19_10n hx hb hts in_y_X3_letGo__z20_X8 hown hK hP (va_Nw.use rfl (hG.1 _ (List.mem_of_getElem? (i := 28) rfl))) dX3_letGo_49 ?_
            refine lv_iload hx hb dX3_letGo_52 (lv_at hl 0 rfl) ?_
            refine lv_isub hx hb dX3_letGo_54 ?_
            refine hp_19_10n hx hb hts in_y_X3_letGo__z20_X8 hown hK hP hD hS (va_Nw.use rfl (hG.1 _ (List.mem_of_getElem? (i := 28) rfl))) dX3_letGo_55 (fun H locs hP hD hS => ?_)
            exact ih.2 L (uI (uI r5.2 1909 ((((r5.2.1 1909)) - r5.1))) 1910 (((((uI r5.2 1909 ((((r5.2.1 1909)) - r5.1))).1 1910)) - r5.1))) r h H locs ls hP hD hS (lv_sub hl [2, 3] rfl)
      · intro L σ r h H locs ls hP hD hS hl
        rw [y_X3_letGo__z20] at h
        refine lv_aload_n hx hb dX3_letGo_58 rfl (lv_at hl 0 rfl) ?_
        refine lv_iload_n hx hb dX3_letGo_59 rfl (lv_at hl 1 rfl) ?_
        refine lv_ldc (v := (-2147483648)) hx hb hown (hts _ (List.mem_cons_of_mem _ (List.mem_append_left _ (List.mem_append_left _ (List.mem_of_getElem? (i := 0) rfl))))) dX3_letGo_60 ?_
        obtain ⟨q1, h⟩ := kb_ite1 h
        refine hs_20 hx hb hK hP hD hS q1 dX3_letGo_62 (fun H locs hP hD hS => ?_)
        refine lv_aload_n hx hb dX3_letGo_63 rfl (lv_at hl 0 rfl) ?_
        refine lv_iload_n hx hb dX3_letGo_64 rfl (lv_at hl 1 rfl) ?_
        refine lv_iconst (v := 1) hx hb dX3_letGo_65 (by decide) ?_
        refine lv_iadd hx hb dX3_letGo_66 ?_
        refine lv_ldc (v := (-2147483648)) hx hb hown (hts _ (List.mem_cons_of_mem _ (List.mem_append_left _ (List.mem_append_left _ (List.mem_of_getElem? (i := 0) rfl))))) dX3_letGo_67 ?_
        obtain ⟨q2, h⟩ := kb_ite1 h
        refine hs_20 hx hb hK hP hD hS q2 dX3_letGo_69 (fun H locs hP hD hS => ?_)
        obtain rfl := Option.some.inj h
        exact W.vret hx hb hr (fun t ht hW => ⟨⟨(), rfl, trivial, by rw [ht]; exact hP, va_K.moved hW.alike hK, hD⟩, hS.F ht⟩) hS.2.2 dX3_letGo_70
  exact (blk k0).1 L0 σ0 r0 h0 s.heap [] ls hP hD hS hl
/-! X3_clearFor -/
def y_X3_clearFor : Nat → Nat → LV → CS → Option (Int32 × CS)
  | 0, _, _, _ => none
  | k + 1, 0, L, σ => oc (y_X3_letGo__z20 k 0 (lI (lI lZ 2 ((L.1 1))) 3 1) σ) (fun r1 => y_X3_clearFor k 1 (lI L 4 ((L.1 2))) r1.2)
  | k + 1, 1, L, σ => if ((((L.1 2)) + ((L.1 3)))) ≤ ((L.1 4)) then (y_X3_clearFor k 2 L σ) else (oc (y_X3_assign k 0 (lI (lI (lI lZ 1 ((L.1 4))) 2 ((-2147483648))) 3 1) σ) (fun r2 => y_X3_clearFor k 1 (lI L 4 ((((L.1 4)) + 1))) r2.2))
  | k + 1, 2, L, σ => some (0, σ)
  | _ + 1, _ + 3, _, _ => none
def o_y_X3_clearFor : List Cond := [.fieldLink RX3 18 "SetHouse$Machine" "stack" "[I", .methodLink RX3 513 yX3_letGo, .instanceMethod yX3_letGo, .selects RX3 yX3_letGo yX3_letGo, .initialized RX3, .constant RX3 136 (-2147483648), .methodLink RX3 504 yX3_assign, .instanceMethod yX3_assign, .selects RX3 yX3_assign yX3_assign]
theorem o_y_X3_clearFor_good : o_y_X3_clearFor.all goodWord = true := by decide +kernel
def p_y_X3_clearFor : List Cond := o_y_X3_clearFor ++ ((.code yX3_letGo cX3_letGo 5 none :: p_y_X3_letGo__z20) ++ ((.code yX3_assign cX3_assign 5 none :: p_y_X3_assign) ++ []))
theorem p_y_X3_clearFor_good : p_y_X3_clearFor.all goodWord = true := nb_all2 o_y_X3_clearFor_good (nb_all2 (nb_allc (by decide +kernel) p_y_X3_letGo__z20_good) (nb_all2 (nb_allc (by decide +kernel) p_y_X3_assign_good) rfl))
def w_y_X3_clearFor : List Cond := .code yX3_clearFor cX3_clearFor 5 none :: (p_y_X3_clearFor ++ fC)
theorem w_y_X3_clearFor_good : w_y_X3_clearFor.all goodWord = true := nb_allc (by decide +kernel) (nb_all2 p_y_X3_clearFor_good fC_good)
theorem in_y_X3_clearFor_X3 : ∀ w ∈ wsX30, w ∈ w_y_X3_clearFor := fun _ h => List.mem_cons_of_mem _ (List.mem_append_right _ (List.mem_append_right _ (List.mem_append_right _ (List.mem_append_right _ (List.mem_append_left _ h)))))
theorem hd_y_X3_clearFor : yX3_clearFor.cls = RX3 ∧ yX3_clearFor.cls ≠ "java/lang/invoke/MethodHandle" ∧ yX3_clearFor.cls ≠ "java/lang/invoke/VarHandle" ∧ (parseMethodDescriptor yX3_clearFor.desc).map (fun d => d.parameters.length) = some 3 := by decide +kernel
theorem gg_y_X3_clearFor_X3_assign : GoodIn w_y_X3_clearFor w_y_X3_assign := goodIn_sub (fun w h => (List.mem_cons.mp h).elim (fun e => (List.mem_cons_of_mem _ (List.mem_append_left _ (List.mem_append_right _ (List.mem_append_right _ (List.mem_append_left _ (List.mem_cons.mpr (Or.inl e)))))))) (fun h => (List.mem_append.mp h).elim (fun h => (List.mem_cons_of_mem _ (List.mem_append_left _ (List.mem_append_right _ (List.mem_append_right _ (List.mem_append_left _ (List.mem_cons_of_mem _ h))))))) (fun h => List.mem_cons_of_mem _ (List.mem_append_right _ h)))) w_y_X3_assign_good
theorem g_y_X3_clearFor_X3_assign_V504 : GoodIn w_y_X3_clearFor (wsV RX3 504 RX3 yX3_assign w_y_X3_assign) := goodIn_app (nb_g4 (List.mem_cons_of_mem _ (List.mem_append_left _ (List.mem_append_left _ (List.mem_of_getElem? (i := 6) rfl)))) (List.mem_cons_of_mem _ (List.mem_append_left _ (List.mem_append_left _ (List.mem_of_getElem? (i := 7) rfl)))) (List.mem_cons_of_mem _ (List.mem_append_left _ (List.mem_append_left _ (List.mem_of_getElem? (i := 8) rfl)))) (List.mem_cons_of_mem _ (List.mem_append_left _ (List.mem_append_left _ (List.mem_of_getElem? (i := 4) rfl)))) (by decide +kernel)) gg_y_X3_clearFor_X3_assign
theorem gg_y_X3_clearFor_X3_letGo__z20 : GoodIn w_y_X3_clearFor w_y_X3_letGo__z20 := goodIn_sub (fun w h => (List.mem_cons.mp h).elim (fun e => (List.mem_cons_of_mem _ (List.mem_append_left _ (List.mem_append_right _ (List.mem_append_left _ (List.mem_cons.mpr (Or.inl e))))))) (fun h => (List.mem_append.mp h).elim (fun h => (List.mem_cons_of_mem _ (List.mem_append_left _ (List.mem_append_right _ (List.mem_append_left _ (List.mem_cons_of_mem _ h)))))) (fun h => List.mem_cons_of_mem _ (List.mem_append_right _ h)))) w_y_X3_letGo__z20_good
theorem g_y_X3_clearFor_X3_letGo__z20_V513 : GoodIn w_y_X3_clearFor (wsV RX3 513 RX3 yX3_letGo w_y_X3_letGo__z20) := goodIn_app (nb_g4 (List.mem_cons_of_mem _ (List.mem_append_left _ (List.mem_append_left _ (List.mem_of_getElem? (i := 1) rfl)))) (List.mem_cons_of_mem _ (List.mem_append_left _ (List.mem_append_left _ (List.mem_of_getElem? (i := 2) rfl)))) (List.mem_cons_of_mem _ (List.mem_append_left _ (List.mem_append_left _ (List.mem_of_getElem? (i := 3) rfl)))) (List.mem_cons_of_mem _ (List.mem_append_left _ (List.mem_append_left _ (List.mem_of_getElem? (i := 4) rfl)))) (by decide +kernel)) gg_y_X3_clearFor_X3_letGo__z20
set_option maxHeartbeats 40000000 in
set_option maxRecDepth 100000 in
theorem c_y_X3_clearFor (l : Launch) (dC : Nat → ClassId) (dI : Nat → Nat → Nat) (cy : Nat → ClassId) (a z : Nat → Nat) (k0 : Nat) (L0 : LV) (σ0 : CS) (r0 : Int32 × CS) (h0 : y_X3_clearFor k0 0 L0 σ0 = some r0) (sz : Nat) : Met l yX3_clearFor w_y_X3_clearFor ({ frames := 2, cells := 0, slots := 0, locals := 46 }) (va_Pc [.ref (a 18), .int (L0.1 1), .int (L0.1 2), .int (L0.1 3)] (nIn (dC, dI) cy sz (vC cy a z σ0))) (va_Qv (fun _ : Unit => True) (fun _ t => nOut (dC, dI) cy (va_A (vC cy a z σ0) sz) (vC cy a z r0.2) t) (va_A (vC cy a z σ0) sz)) 0 0 (va_A (vC cy a z σ0) sz) := by
  refine Met.ofW (cc := cX3_clearFor) (maxL := 5) (ret := none) (by decide) rfl ?_
  intro p e s m args below meth c s₁ B hml hv
  obtain ⟨rfl, hsz, hP, hK, hD0, hG⟩ := hv
  have hx := B.exec
  have hb := B.bytes
  have hr := B.returns
  have hts := atoms_spec (ws := w_y_X3_clearFor) B.pre
  have hown : s.vm.findClass RX3 = some m.cls := findClass_of_methodNamed B.named
  have hlocks := B.notSynchronized
  subst hsz
  have hD := hD0.self (sz := s.heap.size)
  generalize hAe : va_A (vC cy a z σ0) s.heap.size = A at hD ⊢
  have hA : ∀ q : Nat, s.heap.size ≤ q → A q := fun q h => by rw [← hAe]; exact Or.inr h
  have hS : va_S A s.heap s.heap [] := va_S.rf
  have hl := lv_entry ([.ref (a 18), .int (L0.1 1), .int (L0.1 2), .int (L0.1 3)]) (n := 5) (Nat.le_of_ble_eq_true rfl)
  rw [lg_entry_eq]
  generalize (lg_sl ([.ref (a 18), .int (L0.1 1), .int (L0.1 2), .int (L0.1 3)]) ++ List.replicate (5 - (lg_sl ([.ref (a 18), .int (L0.1 1), .int (L0.1 2), .int (L0.1 3)])).length) Slot.unset).toArray = ls at hl ⊢
  have hl : lv_has ls 5 [(0, .ref (a 18)), (1, .int (L0.1 1)), (2, .int (L0.1 2)), (3, .int (L0.1 3))] := hl
  have blk : ∀ k : Nat, (bC p l e (headSpec w_y_X3_clearFor ({ frames := 2, cells := 0, slots := 0, locals := 46 })).room s m #[.ref (a 18), .int (L0.1 1), .int (L0.1 2), .int (L0.1 3)] below meth c dC dI cy a z A (kV dC dI cy a z A below #[.ref (a 18), .int (L0.1 1), .int (L0.1 2), .int (L0.1 3)] s) 5 (y_X3_clearFor k 0) (fun L => [(0, .ref (a 18)), (1, .int (L.1 1)), (2, .int (L.1 2)), (3, .int (L.1 3))]) 0 (fun L => [])) ∧ (bC p l e (headSpec w_y_X3_clearFor ({ frames := 2, cells := 0, slots := 0, locals := 46 })).room s m #[.ref (a 18), .int (L0.1 1), .int (L0.1 2), .int (L0.1 3)] below meth c dC dI cy a z A (kV dC dI cy a z A below #[.ref (a 18), .int (L0.1 1), .int (L0.1 2), .int (L0.1 3)] s) 5 (y_X3_clearFor k 1) (fun L => [(0, .ref (a 18)), (2, .int (L.1 2)), (3, .int (L.1 3)), (4, .int (L.1 4))]) 13 (fun L => [])) ∧ (bC p l e (headSpec w_y_X3_clearFor ({ frames := 2, cells := 0, slots := 0, locals := 46 })).room s m #[.ref (a 18), .int (L0.1 1), .int (L0.1 2), .int (L0.1 3)] below meth c dC dI cy a z A (kV dC dI cy a z A below #[.ref (a 18), .int (L0.1 1), .int (L0.1 2), .int (L0.1 3)] s) 5 (y_X3_clearFor k 2) (fun L => []) 36 (fun L => [])) := by
    intro k
    induction k with
    | zero => exact ⟨fun L σ r h => (by cases h), fun L σ r h => (by cases h), fun L σ r h => (by cases h)⟩
    | succ k ih =>
      refine ⟨?_, ?_, ?_⟩
      · intro L σ r h H locs ls hP hD hS hl
        rw [y_X3_clearFor] at h
        refine lv_aload_n hx hb dX3_clearFor_0 rfl (lv_at hl 0 rfl) ?_
        refine lv_aload_n hx hb dX3_clearFor_1 rfl (lv_at hl 0 rfl) ?_
        refine hg_18_7 hx hb hts in_y_X3_clearFor_X3 hown hK hP (hts _ (List.mem_cons_of_mem _ (List.mem_append_left _ (List.mem_append_left _ (List.mem_of_getElem? (i := 0) rfl))))) dX3_clearFor_2 ?_
        refine lv_iload_n hx hb dX3_clearFor_5 rfl (lv_at hl 1 rfl) ?_
        refine lv_iconst (v := 1) hx hb dX3_clearFor_6 (by decide) ?_
        obtain ⟨r1, hc1, h⟩ := oc_ex h
        refine kc_v (va_runV (As := [.ref (z 20), .int (L.1 1), .int 1]) (rest := []) ⟨hx, hb, hml, hown, hts⟩ (c_y_X3_letGo__z20 l dC dI cy a z k (lI (lI lZ 2 ((L.1 1))) 3 1) σ r1 hc1 H.size) (cwV 3 hts g_y_X3_clearFor_X3_letGo__z20_V513 rfl rfl rfl hd_y_X3_letGo__z20 ⟨Nat.le_of_ble_eq_true rfl, Nat.le_of_ble_eq_true rfl⟩) ⟨nb_blind, va_recv hK hP (ci := 3) (q0 := 18) rfl rfl, (kb_pre hK hG hP hD)⟩ rfl rfl hl.1 rfl (lv_room (Nat.le_of_ble_eq_true rfl)) dX3_clearFor_7 ⟨Nat.le_refl _, Nat.le_refl _⟩) hA hP hD hS (fun H locs hP hD hS => ?_)
        refine lv_iload_n hx hb dX3_clearFor_10 rfl (lv_at hl 2 rfl) ?_
        refine lv_istore (lv' := [(4, .int (L.1 2)), (0, .ref (a 18)), (1, .int (L.1 1)), (2, .int (L.1 2)), (3, .int (L.1 3))]) hx hb dX3_clearFor_11 hl (by decide) rfl (fun ls hl => ?_)
        exact ih.2.1 (lI L 4 ((L.1 2))) r1.2 r h H locs ls hP hD hS (lv_sub hl [1, 3, 4, 0] rfl)
      · intro L σ r h H locs ls hP hD hS hl
        rw [y_X3_clearFor] at h
        refine lv_iload hx hb dX3_clearFor_13 (lv_at hl 3 rfl) ?_
        refine lv_iload_n hx hb dX3_clearFor_15 rfl (lv_at hl 1 rfl) ?_
        refine lv_iload_n hx hb dX3_clearFor_16 rfl (lv_at hl 2 rfl) ?_
        refine lv_iadd hx hb dX3_clearFor_17 ?_
        refine lv_icmp_ge (tgt := 36) hx hb dX3_clearFor_18 (by decide) (fun c1 => ?_) (fun c1 => ?_)
        · rw [if_pos c1] at h
          exact ih.2.2 L σ r h H locs ls hP hD hS (lv_sub hl [] rfl)
        · rw [if_neg c1] at h
          refine lv_aload_n hx hb dX3_clearFor_21 rfl (lv_at hl 0 rfl) ?_
          refine lv_iload hx hb dX3_clearFor_22 (lv_at hl 3 rfl) ?_
          refine lv_ldc (v := (-2147483648)) hx hb hown (hts _ (List.mem_cons_of_mem _ (List.mem_append_left _ (List.mem_append_left _ (List.mem_of_getElem? (i := 5) rfl))))) dX3_clearFor_24 ?_
          refine lv_iconst (v := 1) hx hb dX3_clearFor_26 (by decide) ?_
          obtain ⟨r2, hc2, h⟩ := oc_ex h
          refine kc_v (va_runV (As := [.int (L.1 4), .int (-2147483648), .int 1]) (rest := []) ⟨hx, hb, hml, hown, hts⟩ (c_y_X3_assign l dC dI cy a z k (lI (lI (lI lZ 1 ((L.1 4))) 2 ((-2147483648))) 3 1) σ r2 hc2 H.size) (cwV 3 hts g_y_X3_clearFor_X3_assign_V504 rfl rfl rfl hd_y_X3_assign ⟨Nat.le_of_ble_eq_true rfl, Nat.le_of_ble_eq_true rfl⟩) ⟨nb_blind, va_recv hK hP (ci := 3) (q0 := 18) rfl rfl, (kb_pre hK hG hP hD)⟩ rfl rfl hl.1 rfl (lv_room (Nat.le_of_ble_eq_true rfl)) dX3_clearFor_27 ⟨Nat.le_refl _, Nat.le_refl _⟩) hA hP hD hS (fun H locs hP hD hS => ?_)
          refine lv_iinc (v := ((L.1 4)) + 1) (lv' := [(4, .int (((L.1 4)) + 1)), (0, .ref (a 18)), (2, .int (L.1 2)), (3, .int (L.1 3))]) hx hb dX3_clearFor_30 hl (k := 3) rfl rfl (by decide) rfl (fun ls hl => ?_)
          refine lv_goto (tgt := 13) hx hb dX3_clearFor_33 (by decide) ?_
          exact ih.2.1 (lI L 4 ((((L.1 4)) + 1))) r2.2 r h H locs ls hP hD hS (lv_sub hl [1, 2, 3, 0] rfl)
      · intro L σ r h H locs ls hP hD hS hl
        rw [y_X3_clearFor] at h
        obtain rfl := Option.some.inj h
        exact W.vret hx hb hr (fun t ht hW => ⟨⟨(), rfl, trivial, by rw [ht]; exact hP, va_K.moved hW.alike hK, hD⟩, hS.F ht⟩) hS.2.2 dX3_clearFor_36
  exact (blk k0).1 L0 σ0 r0 h0 s.heap [] ls hP hD hS hl
/-! X5_noteFault -/
def y_X5_noteFault : Nat → Nat → LV → CS → Option (Int32 × CS)
  | 0, _, _, _ => none
  | k + 1, 0, L, σ => if ((σ.1 4006)) = 0 then (y_X5_noteFault k 1 L (uI (uI σ 4006 1) 4007 (((uI σ 4006 1).1 3703)))) else (y_X5_noteFault k 1 L σ)
  | k + 1, 1, L, σ => some (0, σ)
  | _ + 1, _ + 2, _, _ => none
def o_y_X5_noteFault : List Cond := [.fieldLink RX5 75 "SetHouse$Parser" "faultCode" "I", .fieldLink RX5 18 "SetHouse$Parser" "lex" "LSetHouse$Lexer;", .fieldLink RX5 81 "SetHouse$Parser" "faultPlace" "I"]
theorem o_y_X5_noteFault_good : o_y_X5_noteFault.all goodWord = true := by decide +kernel
def p_y_X5_noteFault : List Cond := o_y_X5_noteFault ++ []
theorem p_y_X5_noteFault_good : p_y_X5_noteFault.all goodWord = true := nb_all2 o_y_X5_noteFault_good rfl
def w_y_X5_noteFault : List Cond := .code yX5_noteFault cX5_noteFault 1 none :: (p_y_X5_noteFault ++ fC)
theorem w_y_X5_noteFault_good : w_y_X5_noteFault.all goodWord = true := nb_allc (by decide +kernel) (nb_all2 p_y_X5_noteFault_good fC_good)
theorem in_y_X5_noteFault_X2 : ∀ w ∈ wsX20, w ∈ w_y_X5_noteFault := fun _ h => List.mem_cons_of_mem _ (List.mem_append_right _ (List.mem_append_right _ (List.mem_append_right _ (List.mem_append_left _ h))))
theorem in_y_X5_noteFault_X5 : ∀ w ∈ wsX50, w ∈ w_y_X5_noteFault := fun _ h => List.mem_cons_of_mem _ (List.mem_append_right _ (List.mem_append_right _ (List.mem_append_right _ (List.mem_append_right _ (List.mem_append_right _ (List.mem_append_left _ h))))))
theorem hd_y_X5_noteFault : yX5_noteFault.cls = RX5 ∧ yX5_noteFault.cls ≠ "java/lang/invoke/MethodHandle" ∧ yX5_noteFault.cls ≠ "java/lang/invoke/VarHandle" ∧ (parseMethodDescriptor yX5_noteFault.desc).map (fun d => d.parameters.length) = some 0 := by decide +kernel
set_option maxHeartbeats 40000000 in
set_option maxRecDepth 100000 in
theorem c_y_X5_noteFault (l : Launch) (dC : Nat → ClassId) (dI : Nat → Nat → Nat) (cy : Nat → ClassId) (a z : Nat → Nat) (k0 : Nat) (L0 : LV) (σ0 : CS) (r0 : Int32 × CS) (h0 : y_X5_noteFault k0 0 L0 σ0 = some r0) (sz : Nat) : Met l yX5_noteFault w_y_X5_noteFault ({ frames := 0, cells := 0, slots := 0, locals := 0 }) (va_Pc [.ref (a 40)] (nIn (dC, dI) cy sz (vC cy a z σ0))) (va_Qv (fun _ : Unit => True) (fun _ t => nOut (dC, dI) cy (va_A (vC cy a z σ0) sz) (vC cy a z r0.2) t) (va_A (vC cy a z σ0) sz)) 0 0 (va_A (vC cy a z σ0) sz) := by
  refine Met.ofW (cc := cX5_noteFault) (maxL := 1) (ret := none) (by decide) rfl ?_
  intro p e s m args below meth c s₁ B hml hv
  obtain ⟨rfl, hsz, hP, hK, hD0, hG⟩ := hv
  have hx := B.exec
  have hb := B.bytes
  have hr := B.returns
  have hts := atoms_spec (ws := w_y_X5_noteFault) B.pre
  have hown : s.vm.findClass RX5 = some m.cls := findClass_of_methodNamed B.named
  have hlocks := B.notSynchronized
  subst hsz
  have hD := hD0.self (sz := s.heap.size)
  generalize hAe : va_A (vC cy a z σ0) s.heap.size = A at hD ⊢
  have hA : ∀ q : Nat, s.heap.size ≤ q → A q := fun q h => by rw [← hAe]; exact Or.inr h
  have hS : va_S A s.heap s.heap [] := va_S.rf
  have hl := lv_entry ([.ref (a 40)]) (n := 1) (Nat.le_of_ble_eq_true rfl)
  rw [lg_entry_eq]
  generalize (lg_sl ([.ref (a 40)]) ++ List.replicate (1 - (lg_sl ([.ref (a 40)])).length) Slot.unset).toArray = ls at hl ⊢
  have hl : lv_has ls 1 [(0, .ref (a 40))] := hl
  have blk : ∀ k : Nat, (bC p l e (headSpec w_y_X5_noteFault ({ frames := 0, cells := 0, slots := 0, locals := 0 })).room s m #[.ref (a 40)] below meth c dC dI cy a z A (kV dC dI cy a z A below #[.ref (a 40)] s) 1 (y_X5_noteFault k 0) (fun L => [(0, .ref (a 40))]) 0 (fun L => [])) ∧ (bC p l e (headSpec w_y_X5_noteFault ({ frames := 0, cells := 0, slots := 0, locals := 0 })).room s m #[.ref (a 40)] below meth c dC dI cy a z A (kV dC dI cy a z A below #[.ref (a 40)] s) 1 (y_X5_noteFault k 1) (fun L => []) 23 (fun L => [])) := by
    intro k
    induction k with
    | zero => exact ⟨fun L σ r h => (by cases h), fun L σ r h => (by cases h)⟩
    | succ k ih =>
      refine ⟨?_, ?_⟩
      · intro L σ r h H locs ls hP hD hS hl
        rw [y_X5_noteFault] at h
        refine lv_aload_n hx hb dX5_noteFault_0 rfl (lv_at hl 0 rfl) ?_
        refine hg_40_6 hx hb hts in_y_X5_noteFault_X5 hown hK hP (hts _ (List.mem_cons_of_mem _ (List.mem_append_left _ (List.mem_append_left _ (List.mem_of_getElem? (i := 0) rfl))))) dX5_noteFault_1 ?_
        refine lv_if_ne (tgt := 23) hx hb dX5_noteFault_4 (by decide) (fun c1 => ?_) (fun c1 => ?_)
        · rw [if_neg c1] at h
          exact ih.2 L σ r h H locs ls hP hD hS (lv_sub hl [] rfl)
        · rw [if_pos c1] at h
          refine lv_aload_n hx hb dX5_noteFault_7 rfl (lv_at hl 0 rfl) ?_
          refine lv_iconst (v := 1) hx hb dX5_noteFault_8 (by decide) ?_
          refine hp_40_6 hx hb hts in_y_X5_noteFault_X5 hown hK hP hD hS (hts _ (List.mem_cons_of_mem _ (List.mem_append_left _ (List.mem_append_left _ (List.mem_of_getElem? (i := 0) rfl))))) dX5_noteFault_9 (fun H locs hP hD hS => ?_)
          refine lv_aload_n hx hb dX5_noteFault_12 rfl (lv_at hl 0 rfl) ?_
          refine lv_aload_n hx hb dX5_noteFault_13 rfl (lv_at hl 0 rfl) ?_
          refine hg_40_0 hx hb hts in_y_X5_noteFault_X5 hown hK hP (hts _ (List.mem_cons_of_mem _ (List.mem_append_left _ (List.mem_append_left _ (List.mem_of_getElem? (i := 1) rfl))))) dX5_noteFault_14 ?_
          refine hg_37_3n hx hb hts in_y_X5_noteFault_X2 hown hK hP (va_Nw.use rfl (hG.1 _ (List.mem_of_getElem? (i := 54) rfl))) dX5_noteFault_17 ?_
          refine hp_40_7 hx hb hts in_y_X5_noteFault_X5 hown hK hP hD hS (hts _ (List.mem_cons_of_mem _ (List.mem_append_left _ (List.mem_append_left _ (List.mem_of_getElem? (i := 2) rfl))))) dX5_noteFault_20 (fun H locs hP hD hS => ?_)
          exact ih.2 L (uI (uI σ 4006 1) 4007 (((uI σ 4006 1).1 3703))) r h H locs ls hP hD hS (lv_sub hl [] rfl)
      · intro L σ r h H locs ls hP hD hS hl
        rw [y_X5_noteFault] at h
        obtain rfl := Option.some.inj h
        exact W.vret hx hb hr (fun t ht hW => ⟨⟨(), rfl, trivial, by rw [ht]; exact hP, va_K.moved hW.alike hK, hD⟩, hS.F ht⟩) hS.2.2 dX5_noteFault_23
  exact (blk k0).1 L0 σ0 r0 h0 s.heap [] ls hP hD hS hl
/-! X5_closeUnit -/
def y_X5_closeUnit : Nat → Nat → LV → CS → Option (Int32 × CS)
  | 0, _, _, _ => none
  | k + 1, 0, L, σ => oB (sPp σ) (fun b1 => y_X5_closeUnit k 1 L (uI (uI (uI σ (fP b1 11) ((L.1 1))) 4003 0) 4004 2))
  | k + 1, 1, L, σ => some (0, σ)
  | _ + 1, _ + 2, _, _ => none
def o_y_X5_closeUnit : List Cond := [.fieldLink RX5 93 "SetHouse$Parser" "p" "LSetHouse$Program;", .fieldLink RX5 97 "SetHouse$Parser" "unit" "I", .fieldLink RX5 100 "SetHouse$Parser" "allowed" "I"]
theorem o_y_X5_closeUnit_good : o_y_X5_closeUnit.all goodWord = true := by decide +kernel
def p_y_X5_closeUnit : List Cond := o_y_X5_closeUnit ++ []
theorem p_y_X5_closeUnit_good : p_y_X5_closeUnit.all goodWord = true := nb_all2 o_y_X5_closeUnit_good rfl
def w_y_X5_closeUnit : List Cond := .code yX5_closeUnit cX5_closeUnit 2 none :: (p_y_X5_closeUnit ++ fC)
theorem w_y_X5_closeUnit_good : w_y_X5_closeUnit.all goodWord = true := nb_allc (by decide +kernel) (nb_all2 p_y_X5_closeUnit_good fC_good)
theorem in_y_X5_closeUnit_X5 : ∀ w ∈ wsX50, w ∈ w_y_X5_closeUnit := fun _ h => List.mem_cons_of_mem _ (List.mem_append_right _ (List.mem_append_right _ (List.mem_append_right _ (List.mem_append_right _ (List.mem_append_right _ (List.mem_append_left _ h))))))
theorem in_y_X5_closeUnit_X7 : ∀ w ∈ wsX70, w ∈ w_y_X5_closeUnit := fun _ h => List.mem_cons_of_mem _ (List.mem_append_right _ (List.mem_append_right _ (List.mem_append_right _ (List.mem_append_right _ (List.mem_append_right _ (List.mem_append_right _ (List.mem_append_right _ (List.mem_append_left _ h))))))))
theorem hd_y_X5_closeUnit : yX5_closeUnit.cls = RX5 ∧ yX5_closeUnit.cls ≠ "java/lang/invoke/MethodHandle" ∧ yX5_closeUnit.cls ≠ "java/lang/invoke/VarHandle" ∧ (parseMethodDescriptor yX5_closeUnit.desc).map (fun d => d.parameters.length) = some 1 := by decide +kernel
set_option maxHeartbeats 40000000 in
set_option maxRecDepth 100000 in
theorem c_y_X5_closeUnit (l : Launch) (dC : Nat → ClassId) (dI : Nat → Nat → Nat) (cy : Nat → ClassId) (a z : Nat → Nat) (k0 : Nat) (L0 : LV) (σ0 : CS) (r0 : Int32 × CS) (h0 : y_X5_closeUnit k0 0 L0 σ0 = some r0) (sz : Nat) : Met l yX5_closeUnit w_y_X5_closeUnit ({ frames := 0, cells := 0, slots := 0, locals := 0 }) (va_Pc [.ref (a 40), .int (L0.1 1)] (nIn (dC, dI) cy sz (vC cy a z σ0))) (va_Qv (fun _ : Unit => True) (fun _ t => nOut (dC, dI) cy (va_A (vC cy a z σ0) sz) (vC cy a z r0.2) t) (va_A (vC cy a z σ0) sz)) 0 0 (va_A (vC cy a z σ0) sz) := by
  refine Met.ofW (cc := cX5_closeUnit) (maxL := 2) (ret := none) (by decide) rfl ?_
  intro p e s m args below meth c s₁ B hml hv
  obtain ⟨rfl, hsz, hP, hK, hD0, hG⟩ := hv
  have hx := B.exec
  have hb := B.bytes
  have hr := B.returns
  have hts := atoms_spec (ws := w_y_X5_closeUnit) B.pre
  have hown : s.vm.findClass RX5 = some m.cls := findClass_of_methodNamed B.named
  have hlocks := B.notSynchronized
  subst hsz
  have hD := hD0.self (sz := s.heap.size)
  generalize hAe : va_A (vC cy a z σ0) s.heap.size = A at hD ⊢
  have hA : ∀ q : Nat, s.heap.size ≤ q → A q := fun q h => by rw [← hAe]; exact Or.inr h
  have hS : va_S A s.heap s.heap [] := va_S.rf
  have hl := lv_entry ([.ref (a 40), .int (L0.1 1)]) (n := 2) (Nat.le_of_ble_eq_true rfl)
  rw [lg_entry_eq]
  generalize (lg_sl ([.ref (a 40), .int (L0.1 1)]) ++ List.replicate (2 - (lg_sl ([.ref (a 40), .int (L0.1 1)])).length) Slot.unset).toArray = ls at hl ⊢
  have hl : lv_has ls 2 [(0, .ref (a 40)), (1, .int (L0.1 1))] := hl
  have blk : ∀ k : Nat, (bC p l e (headSpec w_y_X5_closeUnit ({ frames := 0, cells := 0, slots := 0, locals := 0 })).room s m #[.ref (a 40), .int (L0.1 1)] below meth c dC dI cy a z A (kV dC dI cy a z A below #[.ref (a 40), .int (L0.1 1)] s) 2 (y_X5_closeUnit k 0) (fun L => [(0, .ref (a 40)), (1, .int (L.1 1))]) 0 (fun L => [])) ∧ (bC p l e (headSpec w_y_X5_closeUnit ({ frames := 0, cells := 0, slots := 0, locals := 0 })).room s m #[.ref (a 40), .int (L0.1 1)] below meth c dC dI cy a z A (kV dC dI cy a z A below #[.ref (a 40), .int (L0.1 1)] s) 2 (y_X5_closeUnit k 1) (fun L => []) 18 (fun L => [])) := by
    intro k
    induction k with
    | zero => exact ⟨fun L σ r h => (by cases h), fun L σ r h => (by cases h)⟩
    | succ k ih =>
      refine ⟨?_, ?_⟩
      · intro L σ r h H locs ls hP hD hS hl
        rw [y_X5_closeUnit] at h
        refine lv_aload_n hx hb dX5_closeUnit_0 rfl (lv_at hl 0 rfl) ?_
        obtain ⟨b1, hb1, h⟩ := oB_ex h
        refine hgq_40_2 hx hb hts in_y_X5_closeUnit_X5 hown hK hP (hts _ (List.mem_cons_of_mem _ (List.mem_append_left _ (List.mem_append_left _ (List.mem_of_getElem? (i := 0) rfl))))) hb1 dX5_closeUnit_1 ?_
        refine lv_iload_n hx hb dX5_closeUnit_4 rfl (lv_at hl 1 rfl) ?_
        refine hp_P_11n b1 hx hb hts in_y_X5_closeUnit_X7 hown hK hP hD hS (va_Nw.use rfl (hG.1 _ (List.mem_of_getElem? (i := 82) rfl))) dX5_closeUnit_5 (fun H locs hP hD hS => ?_)
        refine lv_aload_n hx hb dX5_closeUnit_8 rfl (lv_at hl 0 rfl) ?_
        refine lv_iconst (v := 0) hx hb dX5_closeUnit_9 (by decide) ?_
        refine hp_40_3 hx hb hts in_y_X5_closeUnit_X5 hown hK hP hD hS (hts _ (List.mem_cons_of_mem _ (List.mem_append_left _ (List.mem_append_left _ (List.mem_of_getElem? (i := 1) rfl))))) dX5_closeUnit_10 (fun H locs hP hD hS => ?_)
        refine lv_aload_n hx hb dX5_closeUnit_13 rfl (lv_at hl 0 rfl) ?_
        refine lv_iconst (v := 2) hx hb dX5_closeUnit_14 (by decide) ?_
        refine hp_40_4 hx hb hts in_y_X5_closeUnit_X5 hown hK hP hD hS (hts _ (List.mem_cons_of_mem _ (List.mem_append_left _ (List.mem_append_left _ (List.mem_of_getElem? (i := 2) rfl))))) dX5_closeUnit_15 (fun H locs hP hD hS => ?_)
        exact ih.2 L (uI (uI (uI σ (fP b1 11) ((L.1 1))) 4003 0) 4004 2) r h H locs ls hP hD hS (lv_sub hl [] rfl)
      · intro L σ r h H locs ls hP hD hS hl
        rw [y_X5_closeUnit] at h
        obtain rfl := Option.some.inj h
        exact W.vret hx hb hr (fun t ht hW => ⟨⟨(), rfl, trivial, by rw [ht]; exact hP, va_K.moved hW.alike hK, hD⟩, hS.F ht⟩) hS.2.2 dX5_closeUnit_18
  exact (blk k0).1 L0 σ0 r0 h0 s.heap [] ls hP hD hS hl
/-! X5_beginsStatement -/
def y_X5_beginsStatement : Nat → Nat → LV → CS → Option (Int32 × CS)
  | 0, _, _, _ => none
  | k + 1, 0, L, σ => if ((σ.1 3702)) = (2 : Int32) then (y_X5_beginsStatement k 1 L σ) else (if ((σ.1 3702)) = (3 : Int32) then (y_X5_beginsStatement k 2 L σ) else (if ((σ.1 3702)) = (4 : Int32) then (y_X5_beginsStatement k 2 L σ) else (if ((σ.1 3702)) = (5 : Int32) then (y_X5_beginsStatement k 2 L σ) else (if ((σ.1 3702)) = (6 : Int32) then (y_X5_beginsStatement k 2 L σ) else (if ((σ.1 3702)) = (7 : Int32) then (y_X5_beginsStatement k 2 L σ) else (if ((σ.1 3702)) = (8 : Int32) then (y_X5_beginsStatement k 2 L σ) else (if ((σ.1 3702)) = (9 : Int32) then (y_X5_beginsStatement k 2 L σ) else (if ((σ.1 3702)) = (10 : Int32) then (y_X5_beginsStatement k 2 L σ) else (if ((σ.1 3702)) = (11 : Int32) then (y_X5_beginsStatement k 2 L σ) else (if ((σ.1 3702)) = (12 : Int32) then (y_X5_beginsStatement k 2 L σ) else (if ((σ.1 3702)) = (13 : Int32) then (y_X5_beginsStatement k 2 L σ) else (if ((σ.1 3702)) = (14 : Int32) then (y_X5_beginsStatement k 1 L σ) else (if ((σ.1 3702)) = (15 : Int32) then (y_X5_beginsStatement k 2 L σ) else (if ((σ.1 3702)) = (16 : Int32) then (y_X5_beginsStatement k 2 L σ) else (if ((σ.1 3702)) = (17 : Int32) then (y_X5_beginsStatement k 2 L σ) else (if ((σ.1 3702)) = (18 : Int32) then (y_X5_beginsStatement k 2 L σ) else (if ((σ.1 3702)) = (19 : Int32) then (y_X5_beginsStatement k 2 L σ) else (if ((σ.1 3702)) = (20 : Int32) then (y_X5_beginsStatement k 2 L σ) else (if ((σ.1 3702)) = (21 : Int32) then (y_X5_beginsStatement k 2 L σ) else (if ((σ.1 3702)) = (22 : Int32) then (y_X5_beginsStatement k 2 L σ) else (if ((σ.1 3702)) = (23 : Int32) then (y_X5_beginsStatement k 2 L σ) else (if ((σ.1 3702)) = (24 : Int32) then (y_X5_beginsStatement k 2 L σ) else (if ((σ.1 3702)) = (25 : Int32) then (y_X5_beginsStatement k 2 L σ) else (if ((σ.1 3702)) = (26 : Int32) then (y_X5_beginsStatement k 2 L σ) else (if ((σ.1 3702)) = (27 : Int32) then (y_X5_beginsStatement k 2 L σ) else (if ((σ.1 3702)) = (28 : Int32) then (y_X5_beginsStatement k 2 L σ) else (if ((σ.1 3702)) = (29 : Int32) then (y_X5_beginsStatement k 2 L σ) else (if ((σ.1 3702)) = (30 : Int32) then (y_X5_beginsStatement k 2 L σ) else (if ((σ.1 3702)) = (31 : Int32) then (y_X5_beginsStatement k 2 L σ) else (if ((σ.1 3702)) = (32 : Int32) then (y_X5_beginsStatement k 2 L σ) else (if ((σ.1 3702)) = (33 : Int32) then (y_X5_beginsStatement k 2 L σ) else (if ((σ.1 3702)) = (34 : Int32) then (y_X5_beginsStatement k 2 L σ) else (if ((σ.1 3702)) = (35 : Int32) then (y_X5_beginsStatement k 2 L σ) else (if ((σ.1 3702)) = (36 : Int32) then (y_X5_beginsStatement k 2 L σ) else (if ((σ.1 3702)) = (37 : Int32) then (y_X5_beginsStatement k 2 L σ) else (if ((σ.1 3702)) = (38 : Int32) then (y_X5_beginsStatement k 2 L σ) else (if ((σ.1 3702)) = (39 : Int32) then (y_X5_beginsStatement k 1 L σ) else (if ((σ.1 3702)) = (40 : Int32) then (y_X5_beginsStatement k 2 L σ) else (if ((σ.1 3702)) = (41 : Int32) then (y_X5_beginsStatement k 2 L σ) else (if ((σ.1 3702)) = (42 : Int32) then (y_X5_beginsStatement k 2 L σ) else (if ((σ.1 3702)) = (43 : Int32) then (y_X5_beginsStatement k 1 L σ) else (if ((σ.1 3702)) = (44 : Int32) then (y_X5_beginsStatement k 2 L σ) else (if ((σ.1 3702)) = (45 : Int32) then (y_X5_beginsStatement k 1 L σ) else (if ((σ.1 3702)) = (46 : Int32) then (y_X5_beginsStatement k 2 L σ) else (if ((σ.1 3702)) = (47 : Int32) then (y_X5_beginsStatement k 2 L σ) else (if ((σ.1 3702)) = (48 : Int32) then (y_X5_beginsStatement k 2 L σ) else (if ((σ.1 3702)) = (49 : Int32) then (y_X5_beginsStatement k 1 L σ) else (if ((σ.1 3702)) = (50 : Int32) then (y_X5_beginsStatement k 1 L σ) else (if ((σ.1 3702)) = (51 : Int32) then (y_X5_beginsStatement k 1 L σ) else (if ((σ.1 3702)) = (52 : Int32) then (y_X5_beginsStatement k 1 L σ) else (if ((σ.1 3702)) = (53 : Int32) then (y_X5_beginsStatement k 1 L σ) else (if ((σ.1 3702)) = (54 : Int32) then (y_X5_beginsStatement k 1 L σ) else (if ((σ.1 3702)) = (55 : Int32) then (y_X5_beginsStatement k 1 L σ) else (if ((σ.1 3702)) = (56 : Int32) then (y_X5_beginsStatement k 1 L σ) else (y_X5_beginsStatement k 2 L σ)))))))))))))))))))))))))))))))))))))))))))))))))))))))
  | k + 1, 1, L, σ => some (1, σ)
  | k + 1, 2, L, σ => some (0, σ)
  | _ + 1, _ + 3, _, _ => none
def o_y_X5_beginsStatement : List Cond := [.fieldLink RX5 18 "SetHouse$Parser" "lex" "LSetHouse$Lexer;"]
theorem o_y_X5_beginsStatement_good : o_y_X5_beginsStatement.all goodWord = true := by decide +kernel
def p_y_X5_beginsStatement : List Cond := o_y_X5_beginsStatement ++ []
theorem p_y_X5_beginsStatement_good : p_y_X5_beginsStatement.all goodWord = true := nb_all2 o_y_X5_beginsStatement_good rfl
def w_y_X5_beginsStatement : List Cond := .code yX5_beginsStatement cX5_beginsStatement 1 (some .boolean) :: (p_y_X5_beginsStatement ++ fC)
theorem w_y_X5_beginsStatement_good : w_y_X5_beginsStatement.all goodWord = true := nb_allc (by decide +kernel) (nb_all2 p_y_X5_beginsStatement_good fC_good)
theorem in_y_X5_beginsStatement_X2 : ∀ w ∈ wsX20, w ∈ w_y_X5_beginsStatement := fun _ h => List.mem_cons_of_mem _ (List.mem_append_right _ (List.mem_append_right _ (List.mem_append_right _ (List.mem_append_left _ h))))
theorem in_y_X5_beginsStatement_X5 : ∀ w ∈ wsX50, w ∈ w_y_X5_beginsStatement := fun _ h => List.mem_cons_of_mem _ (List.mem_append_right _ (List.mem_append_right _ (List.mem_append_right _ (List.mem_append_right _ (List.mem_append_right _ (List.mem_append_left _ h))))))
theorem hd_y_X5_beginsStatement : yX5_beginsStatement.cls = RX5 ∧ yX5_beginsStatement.cls ≠ "java/lang/invoke/MethodHandle" ∧ yX5_beginsStatement.cls ≠ "java/lang/invoke/VarHandle" ∧ (parseMethodDescriptor yX5_beginsStatement.desc).map (fun d => d.parameters.length) = some 0 := by decide +kernel
set_option maxHeartbeats 40000000 in
set_option maxRecDepth 100000 in
theorem c_y_X5_beginsStatement (l : Launch) (dC : Nat → ClassId) (dI : Nat → Nat → Nat) (cy : Nat → ClassId) (a z : Nat → Nat) (k0 : Nat) (L0 : LV) (σ0 : CS) (r0 : Int32 × CS) (h0 : y_X5_beginsStatement k0 0 L0 σ0 = some r0) (sz : Nat) : Met l yX5_beginsStatement w_y_X5_beginsStatement ({ frames := 0, cells := 0, slots := 0, locals := 0 }) (va_Pc [.ref (a 40)] (nIn (dC, dI) cy sz (vC cy a z σ0))) (va_Qi (fun (x : Int32) (_ : Unit) => x = r0.1) (fun _ t => nOut (dC, dI) cy (va_A (vC cy a z σ0) sz) (vC cy a z r0.2) t) (va_A (vC cy a z σ0) sz)) 0 0 (va_A (vC cy a z σ0) sz) := by
  refine Met.ofW (cc := cX5_beginsStatement) (maxL := 1) (ret := (some .boolean)) (by decide) rfl ?_
  intro p e s m args below meth c s₁ B hml hv
  obtain ⟨rfl, hsz, hP, hK, hD0, hG⟩ := hv
  have hx := B.exec
  have hb := B.bytes
  have hr := B.returns
  have hts := atoms_spec (ws := w_y_X5_beginsStatement) B.pre
  have hown : s.vm.findClass RX5 = some m.cls := findClass_of_methodNamed B.named
  have hlocks := B.notSynchronized
  subst hsz
  have hD := hD0.self (sz := s.heap.size)
  generalize hAe : va_A (vC cy a z σ0) s.heap.size = A at hD ⊢
  have hA : ∀ q : Nat, s.heap.size ≤ q → A q := fun q h => by rw [← hAe]; exact Or.inr h
  have hS : va_S A s.heap s.heap [] := va_S.rf
  have hl := lv_entry ([.ref (a 40)]) (n := 1) (Nat.le_of_ble_eq_true rfl)
  rw [lg_entry_eq]
  generalize (lg_sl ([.ref (a 40)]) ++ List.replicate (1 - (lg_sl ([.ref (a 40)])).length) Slot.unset).toArray = ls at hl ⊢
  have hl : lv_has ls 1 [(0, .ref (a 40))] := hl
  have blk : ∀ k : Nat, (bC p l e (headSpec w_y_X5_beginsStatement ({ frames := 0, cells := 0, slots := 0, locals := 0 })).room s m #[.ref (a 40)] below meth c dC dI cy a z A (kI dC dI cy a z A below #[.ref (a 40)] s) 1 (y_X5_beginsStatement k 0) (fun L => [(0, .ref (a 40))]) 0 (fun L => [])) ∧ (bC p l e (headSpec w_y_X5_beginsStatement ({ frames := 0, cells := 0, slots := 0, locals := 0 })).room s m #[.ref (a 40)] below meth c dC dI cy a z A (kI dC dI cy a z A below #[.ref (a 40)] s) 1 (y_X5_beginsStatement k 1) (fun L => []) 240 (fun L => [])) ∧ (bC p l e (headSpec w_y_X5_beginsStatement ({ frames := 0, cells := 0, slots := 0, locals := 0 })).room s m #[.ref (a 40)] below meth c dC dI cy a z A (kI dC dI cy a z A below #[.ref (a 40)] s) 1 (y_X5_beginsStatement k 2) (fun L => []) 242 (fun L => [])) := by
    intro k
    induction k with
    | zero => exact ⟨fun L σ r h => (by cases h), fun L σ r h => (by cases h), fun L σ r h => (by cases h)⟩
    | succ k ih =>
      refine ⟨?_, ?_, ?_⟩
      · intro L σ r h H locs ls hP hD hS hl
        rw [y_X5_beginsStatement] at h
        refine lv_aload_n hx hb dX5_beginsStatement_0 rfl (lv_at hl 0 rfl) ?_
        refine hg_40_0 hx hb hts in_y_X5_beginsStatement_X5 hown hK hP (hts _ (List.mem_cons_of_mem _ (List.mem_append_left _ (List.mem_append_left _ (List.mem_of_getElem? (i := 0) rfl))))) dX5_beginsStatement_1 ?_
        refine hg_37_2n hx hb hts in_y_X5_beginsStatement_X2 hown hK hP (va_Nw.use rfl (hG.1 _ (List.mem_of_getElem? (i := 52) rfl))) dX5_beginsStatement_4 ?_
        by_cases q1 : ((σ.1 3702)) = (2 : Int32)
        · rw [if_pos q1] at h
          refine lv_tableIn (off := 233) (tgt := 240) hx hb dX5_beginsStatement_7 (by rw [q1]; decide) (by rw [q1]; decide) (by rw [q1]; decide) (by decide) ?_
          exact ih.2.1 L σ r h H locs ls hP hD hS (lv_sub hl [] rfl)
        · rw [if_neg q1] at h
          by_cases q2 : ((σ.1 3702)) = (3 : Int32)
          · rw [if_pos q2] at h
            refine lv_tableIn (off := 235) (tgt := 242) hx hb dX5_beginsStatement_7 (by rw [q2]; decide) (by rw [q2]; decide) (by rw [q2]; decide) (by decide) ?_
            exact ih.2.2 L σ r h H locs ls hP hD hS (lv_sub hl [] rfl)
          · rw [if_neg q2] at h
            by_cases q3 : ((σ.1 3702)) = (4 : Int32)
            · rw [if_pos q3] at h
              refine lv_tableIn (off := 235) (tgt := 242) hx hb dX5_beginsStatement_7 (by rw [q3]; decide) (by rw [q3]; decide) (by rw [q3]; decide) (by decide) ?_
              exact ih.2.2 L σ r h H locs ls hP hD hS (lv_sub hl [] rfl)
            · rw [if_neg q3] at h
              by_cases q4 : ((σ.1 3702)) = (5 : Int32)
              · rw [if_pos q4] at h
                refine lv_tableIn (off := 235) (tgt := 242) hx hb dX5_beginsStatement_7 (by rw [q4]; decide) (by rw [q4]; decide) (by rw [q4]; decide) (by decide) ?_
                exact ih.2.2 L σ r h H locs ls hP hD hS (lv_sub hl [] rfl)
              · rw [if_neg q4] at h
                by_cases q5 : ((σ.1 3702)) = (6 : Int32)
                · rw [if_pos q5] at h
                  refine lv_tableIn (off := 235) (tgt := 242) hx hb dX5_beginsStatement_7 (by rw [q5]; decide) (by rw [q5]; decide) (by rw [q5]; decide) (by decide) ?_
                  exact ih.2.2 L σ r h H locs ls hP hD hS (lv_sub hl [] rfl)
                · rw [if_neg q5] at h
                  by_cases q6 : ((σ.1 3702)) = (7 : Int32)
                  · rw [if_pos q6] at h
                    refine lv_tableIn (off := 235) (tgt := 242) hx hb dX5_beginsStatement_7 (by rw [q6]; decide) (by rw [q6]; decide) (by rw [q6]; decide) (by decide) ?_
                    exact ih.2.2 L σ r h H locs ls hP hD hS (lv_sub hl [] rfl)
                  · rw [if_neg q6] at h
                    by_cases q7 : ((σ.1 3702)) = (8 : Int32)
                    · rw [if_pos q7] at h
                      refine lv_tableIn (off := 235) (tgt := 242) hx hb dX5_beginsStatement_7 (by rw [q7]; decide) (by rw [q7]; decide) (by rw [q7]; decide) (by decide) ?_
                      exact ih.2.2 L σ r h H locs ls hP hD hS (lv_sub hl [] rfl)
                    · rw [if_neg q7] at h
                      by_cases q8 : ((σ.1 3702)) = (9 : Int32)
                      · rw [if_pos q8] at h
                        refine lv_tableIn (off := 235) (tgt := 242) hx hb dX5_beginsStatement_7 (by rw [q8]; decide) (by rw [q8]; decide) (by rw [q8]; decide) (by decide) ?_
                        exact ih.2.2 L σ r h H locs ls hP hD hS (lv_sub hl [] rfl)
                      · rw [if_neg q8] at h
                        by_cases q9 : ((σ.1 3702)) = (10 : Int32)
                        · rw [if_pos q9] at h
                          refine lv_tableIn (off := 235) (tgt := 242) hx hb dX5_beginsStatement_7 (by rw [q9]; decide) (by rw [q9]; decide) (by rw [q9]; decide) (by decide) ?_
                          exact ih.2.2 L σ r h H locs ls hP hD hS (lv_sub hl [] rfl)
                        · rw [if_neg q9] at h
                          by_cases q10 : ((σ.1 3702)) = (11 : Int32)
                          · rw [if_pos q10] at h
                            refine lv_tableIn (off := 235) (tgt := 242) hx hb dX5_beginsStatement_7 (by rw [q10]; decide) (by rw [q10]; decide) (by rw [q10]; decide) (by decide) ?_
                            exact ih.2.2 L σ r h H locs ls hP hD hS (lv_sub hl [] rfl)
                          · rw [if_neg q10] at h
                            by_cases q11 : ((σ.1 3702)) = (12 : Int32)
                            · rw [if_pos q11] at h
                              refine lv_tableIn (off := 235) (tgt := 242) hx hb dX5_beginsStatement_7 (by rw [q11]; decide) (by rw [q11]; decide) (by rw [q11]; decide) (by decide) ?_
                              exact ih.2.2 L σ r h H locs ls hP hD hS (lv_sub hl [] rfl)
                            · rw [if_neg q11] at h
                              by_cases q12 : ((σ.1 3702)) = (13 : Int32)
                              · rw [if_pos q12] at h
                                refine lv_tableIn (off := 235) (tgt := 242) hx hb dX5_beginsStatement_7 (by rw [q12]; decide) (by rw [q12]; decide) (by rw [q12]; decide) (by decide) ?_
                                exact ih.2.2 L σ r h H locs ls hP hD hS (lv_sub hl [] rfl)
                              · rw [if_neg q12] at h
                                by_cases q13 : ((σ.1 3702)) = (14 : Int32)
                                · rw [if_pos q13] at h
                                  refine lv_tableIn (off := 233) (tgt := 240) hx hb dX5_beginsStatement_7 (by rw [q13]; decide) (by rw [q13]; decide) (by rw [q13]; decide) (by decide) ?_
                                  exact ih.2.1 L σ r h H locs ls hP hD hS (lv_sub hl [] rfl)
                                · rw [if_neg q13] at h
                                  by_cases q14 : ((σ.1 3702)) = (15 : Int32)
                                  · rw [if_pos q14] at h
                                    refine lv_tableIn (off := 235) (tgt := 242) hx hb dX5_beginsStatement_7 (by rw [q14]; decide) (by rw [q14]; decide) (by rw [q14]; decide) (by decide) ?_
                                    exact ih.2.2 L σ r h H locs ls hP hD hS (lv_sub hl [] rfl)
                                  · rw [if_neg q14] at h
                                    by_cases q15 : ((σ.1 3702)) = (16 : Int32)
                                    · rw [if_pos q15] at h
                                      refine lv_tableIn (off := 235) (tgt := 242) hx hb dX5_beginsStatement_7 (by rw [q15]; decide) (by rw [q15]; decide) (by rw [q15]; decide) (by decide) ?_
                                      exact ih.2.2 L σ r h H locs ls hP hD hS (lv_sub hl [] rfl)
                                    · rw [if_neg q15] at h
                                      by_cases q16 : ((σ.1 3702)) = (17 : Int32)
                                      · rw [if_pos q16] at h
                                        refine lv_tableIn (off := 235) (tgt := 242) hx hb dX5_beginsStatement_7 (by rw [q16]; decide) (by rw [q16]; decide) (by rw [q16]; decide) (by decide) ?_
                                        exact ih.2.2 L σ r h H locs ls hP hD hS (lv_sub hl [] rfl)
                                      · rw [if_neg q16] at h
                                        by_cases q17 : ((σ.1 3702)) = (18 : Int32)
                                        · rw [if_pos q17] at h
                                          refine lv_tableIn (off := 235) (tgt := 242) hx hb dX5_beginsStatement_7 (by rw [q17]; decide) (by rw [q17]; decide) (by rw [q17]; decide) (by decide) ?_
                                          exact ih.2.2 L σ r h H locs ls hP hD hS (lv_sub hl [] rfl)
                                        · rw [if_neg q17] at h
                                          by_cases q18 : ((σ.1 3702)) = (19 : Int32)
                                          · rw [if_pos q18] at h
                                            refine lv_tableIn (off := 235) (tgt := 242) hx hb dX5_beginsStatement_7 (by rw [q18]; decide) (by rw [q18]; decide) (by rw [q18]; decide) (by decide) ?_
                                            exact ih.2.2 L σ r h H locs ls hP hD hS (lv_sub hl [] rfl)
                                          · rw [if_neg q18] at h
                                            by_cases q19 : ((σ.1 3702)) = (20 : Int32)
                                            · rw [if_pos q19] at h
                                              refine lv_tableIn (off := 235) (tgt := 242) hx hb dX5_beginsStatement_7 (by rw [q19]; decide) (by rw [q19]; decide) (by rw [q19]; decide) (by decide) ?_
                                              exact ih.2.2 L σ r h H locs ls hP hD hS (lv_sub hl [] rfl)
                                            · rw [if_neg q19] at h
                                              by_cases q20 : ((σ.1 3702)) = (21 : Int32)
                                              · rw [if_pos q20] at h
                                                refine lv_tableIn (off := 235) (tgt := 242) hx hb dX5_beginsStatement_7 (by rw [q20]; decide) (by rw [q20]; decide) (by rw [q20]; decide) (by decide) ?_
                                                exact ih.2.2 L σ r h H locs ls hP hD hS (lv_sub hl [] rfl)
                                              · rw [if_neg q20] at h
                                                by_cases q21 : ((σ.1 3702)) = (22 : Int32)
                                                · rw [if_pos q21] at h
                                                  refine lv_tableIn (off := 235) (tgt := 242) hx hb dX5_beginsStatement_7 (by rw [q21]; decide) (by rw [q21]; decide) (by rw [q21]; decide) (by decide) ?_
                                                  exact ih.2.2 L σ r h H locs ls hP hD hS (lv_sub hl [] rfl)
                                                · rw [if_neg q21] at h
                                                  by_cases q22 : ((σ.1 3702)) = (23 : Int32)
                                                  · rw [if_pos q22] at h
                                                    refine lv_tableIn (off := 235) (tgt := 242) hx hb dX5_beginsStatement_7 (by rw [q22]; decide) (by rw [q22]; decide) (by rw [q22]; decide) (by decide) ?_
                                                    exact ih.2.2 L σ r h H locs ls hP hD hS (lv_sub hl [] rfl)
                                                  · rw [if_neg q22] at h
                                                    by_cases q23 : ((σ.1 3702)) = (24 : Int32)
                                                    · rw [if_pos q23] at h
                                                      refine lv_tableIn (off := 235) (tgt := 242) hx hb dX5_beginsStatement_7 (by rw [q23]; decide) (by rw [q23]; decide) (by rw [q23]; decide) (by decide) ?_
                                                      exact ih.2.2 L σ r h H locs ls hP hD hS (lv_sub hl [] rfl)
                                                    · rw [if_neg q23] at h
                                                      by_cases q24 : ((σ.1 3702)) = (25 : Int32)
                                                      · rw [if_pos q24] at h
                                                        refine lv_tableIn (off := 235) (tgt := 242) hx hb dX5_beginsStatement_7 (by rw [q24]; decide) (by rw [q24]; decide) (by rw [q24]; decide) (by decide) ?_
                                                        exact ih.2.2 L σ r h H locs ls hP hD hS (lv_sub hl [] rfl)
                                                      · rw [if_neg q24] at h
                                                        by_cases q25 : ((σ.1 3702)) = (26 : Int32)
                                                        · rw [if_pos q25] at h
                                                          refine lv_tableIn (off := 235) (tgt := 242) hx hb dX5_beginsStatement_7 (by rw [q25]; decide) (by rw [q25]; decide) (by rw [q25]; decide) (by decide) ?_
                                                          exact ih.2.2 L σ r h H locs ls hP hD hS (lv_sub hl [] rfl)
                                                        · rw [if_neg q25] at h
                                                          by_cases q26 : ((σ.1 3702)) = (27 : Int32)
                                                          · rw [if_pos q26] at h
                                                            refine lv_tableIn (off := 235) (tgt := 242) hx hb dX5_beginsStatement_7 (by rw [q26]; decide) (by rw [q26]; decide) (by rw [q26]; decide) (by decide) ?_
                                                            exact ih.2.2 L σ r h H locs ls hP hD hS (lv_sub hl [] rfl)
                                                          · rw [if_neg q26] at h
                                                            by_cases q27 : ((σ.1 3702)) = (28 : Int32)
                                                            · rw [if_pos q27] at h
                                                              refine lv_tableIn (off := 235) (tgt := 242) hx hb dX5_beginsStatement_7 (by rw [q27]; decide) (by rw [q27]; decide) (by rw [q27]; decide) (by decide) ?_
                                                              exact ih.2.2 L σ r h H locs ls hP hD hS (lv_sub hl [] rfl)
                                                            · rw [if_neg q27] at h
                                                              by_cases q28 : ((σ.1 3702)) = (29 : Int32)
                                                              · rw [if_pos q28] at h
                                                                refine lv_tableIn (off := 235) (tgt := 242) hx hb dX5_beginsStatement_7 (by rw [q28]; decide) (by rw [q28]; decide) (by rw [q28]; decide) (by decide) ?_
                                                                exact ih.2.2 L σ r h H locs ls hP hD hS (lv_sub hl [] rfl)
                                                              · rw [if_neg q28] at h
                                                                by_cases q29 : ((σ.1 3702)) = (30 : Int32)
                                                                · rw [if_pos q29] at h
                                                                  refine lv_tableIn (off := 235) (tgt := 242) hx hb dX5_beginsStatement_7 (by rw [q29]; decide) (by rw [q29]; decide) (by rw [q29]; decide) (by decide) ?_
                                                                  exact ih.2.2 L σ r h H locs ls hP hD hS (lv_sub hl [] rfl)
                                                                · rw [if_neg q29] at h
                                                                  by_cases q30 : ((σ.1 3702)) = (31 : Int32)
                                                                  · rw [if_pos q30] at h
                                                                    refine lv_tableIn (off := 235) (tgt := 242) hx hb dX5_beginsStatement_7 (by rw [q30]; decide) (by rw [q30]; decide) (by rw [q30]; decide) (by decide) ?_
                                                                    exact ih.2.2 L σ r h H locs ls hP hD hS (lv_sub hl [] rfl)
                                                                  · rw [if_neg q30] at h
                                                                    by_cases q31 : ((σ.1 3702)) = (32 : Int32)
                                                                    · rw [if_pos q31] at h
                                                                      refine lv_tableIn (off := 235) (tgt := 242) hx hb dX5_beginsStatement_7 (by rw [q31]; decide) (by rw [q31]; decide) (by rw [q31]; decide) (by decide) ?_
                                                                      exact ih.2.2 L σ r h H locs ls hP hD hS (lv_sub hl [] rfl)
                                                                    · rw [if_neg q31] at h
                                                                      by_cases q32 : ((σ.1 3702)) = (33 : Int32)
                                                                      · rw [if_pos q32] at h
                                                                        refine lv_tableIn (off := 235) (tgt := 242) hx hb dX5_beginsStatement_7 (by rw [q32]; decide) (by rw [q32]; decide) (by rw [q32]; decide) (by decide) ?_
                                                                        exact ih.2.2 L σ r h H locs ls hP hD hS (lv_sub hl [] rfl)
                                                                      · rw [if_neg q32] at h
                                                                        by_cases q33 : ((σ.1 3702)) = (34 : Int32)
                                                                        · rw [if_pos q33] at h
                                                                          refine lv_tableIn (off := 235) (tgt := 242) hx hb dX5_beginsStatement_7 (by rw [q33]; decide) (by rw [q33]; decide) (by rw [q33]; decide) (by decide) ?_
                                                                          exact ih.2.2 L σ r h H locs ls hP hD hS (lv_sub hl [] rfl)
                                                                        · rw [if_neg q33] at h
                                                                          by_cases q34 : ((σ.1 3702)) = (35 : Int32)
                                                                          · rw [if_pos q34] at h
                                                                            refine lv_tableIn (off := 235) (tgt := 242) hx hb dX5_beginsStatement_7 (by rw [q34]; decide) (by rw [q34]; decide) (by rw [q34]; decide) (by decide) ?_
                                                                            exact ih.2.2 L σ r h H locs ls hP hD hS (lv_sub hl [] rfl)
                                                                          · rw [if_neg q34] at h
                                                                            by_cases q35 : ((σ.1 3702)) = (36 : Int32)
                                                                            · rw [if_pos q35] at h
                                                                              refine lv_tableIn (off := 235) (tgt := 242) hx hb dX5_beginsStatement_7 (by rw [q35]; decide) (by rw [q35]; decide) (by rw [q35]; decide) (by decide) ?_
                                                                              exact ih.2.2 L σ r h H locs ls hP hD hS (lv_sub hl [] rfl)
                                                                            · rw [if_neg q35] at h
                                                                              by_cases q36 : ((σ.1 3702)) = (37 : Int32)
                                                                              · rw [if_pos q36] at h
                                                                                refine lv_tableIn (off := 235) (tgt := 242) hx hb dX5_beginsStatement_7 (by rw [q36]; decide) (by rw [q36]; decide) (by rw [q36]; decide) (by decide) ?_
                                                                                exact ih.2.2 L σ r h H locs ls hP hD hS (lv_sub hl [] rfl)
                                                                              · rw [if_neg q36] at h
                                                                                by_cases q37 : ((σ.1 3702)) = (38 : Int32)
                                                                                · rw [if_pos q37] at h
                                                                                  refine lv_tableIn (off := 235) (tgt := 242) hx hb dX5_beginsStatement_7 (by rw [q37]; decide) (by rw [q37]; decide) (by rw [q37]; decide) (by decide) ?_
                                                                                  exact ih.2.2 L σ r h H locs ls hP hD hS (lv_sub hl [] rfl)
                                                                                · rw [if_neg q37] at h
                                                                                  by_cases q38 : ((σ.1 3702)) = (39 : Int32)
                                                                                  · rw [if_pos q38] at h
                                                                                    refine lv_tableIn (off := 233) (tgt := 240) hx hb dX5_beginsStatement_7 (by rw [q38]; decide) (by rw [q38]; decide) (by rw [q38]; decide) (by decide) ?_
                                                                                    exact ih.2.1 L σ r h H locs ls hP hD hS (lv_sub hl [] rfl)
                                                                                  · rw [if_neg q38] at h
                                                                                    by_cases q39 : ((σ.1 3702)) = (40 : Int32)
                                                                                    · rw [if_pos q39] at h
                                                                                      refine lv_tableIn (off := 235) (tgt := 242) hx hb dX5_beginsStatement_7 (by rw [q39]; decide) (by rw [q39]; decide) (by rw [q39]; decide) (by decide) ?_
                                                                                      exact ih.2.2 L σ r h H locs ls hP hD hS (lv_sub hl [] rfl)
                                                                                    · rw [if_neg q39] at h
                                                                                      by_cases q40 : ((σ.1 3702)) = (41 : Int32)
                                                                                      · rw [if_pos q40] at h
                                                                                        refine lv_tableIn (off := 235) (tgt := 242) hx hb dX5_beginsStatement_7 (by rw [q40]; decide) (by rw [q40]; decide) (by rw [q40]; decide) (by decide) ?_
                                                                                        exact ih.2.2 L σ r h H locs ls hP hD hS (lv_sub hl [] rfl)
                                                                                      · rw [if_neg q40] at h
                                                                                        by_cases q41 : ((σ.1 3702)) = (42 : Int32)
                                                                                        · rw [if_pos q41] at h
                                                                                          refine lv_tableIn (off := 235) (tgt := 242) hx hb dX5_beginsStatement_7 (by rw [q41]; decide) (by rw [q41]; decide) (by rw [q41]; decide) (by decide) ?_
                                                                                          exact ih.2.2 L σ r h H locs ls hP hD hS (lv_sub hl [] rfl)
                                                                                        · rw [if_neg q41] at h
                                                                                          by_cases q42 : ((σ.1 3702)) = (43 : Int32)
                                                                                          · rw [if_pos q42] at h
                                                                                            refine lv_tableIn (off := 233) (tgt := 240) hx hb dX5_beginsStatement_7 (by rw [q42]; decide) (by rw [q42]; decide) (by rw [q42]; decide) (by decide) ?_
                                                                                            exact ih.2.1 L σ r h H locs ls hP hD hS (lv_sub hl [] rfl)
                                                                                          · rw [if_neg q42] at h
                                                                                            by_cases q43 : ((σ.1 3702)) = (44 : Int32)
                                                                                            · rw [if_pos q43] at h
                                                                                              refine lv_tableIn (off := 235) (tgt := 242) hx hb dX5_beginsStatement_7 (by rw [q43]; decide) (by rw [q43]; decide) (by rw [q43]; decide) (by decide) ?_
                                                                                              exact ih.2.2 L σ r h H locs ls hP hD hS (lv_sub hl [] rfl)
                                                                                            · rw [if_neg q43] at h
                                                                                              by_cases q44 : ((σ.1 3702)) = (45 : Int32)
                                                                                              · rw [if_pos q44] at h
                                                                                                refine lv_tableIn (off := 233) (tgt := 240) hx hb dX5_beginsStatement_7 (by rw [q44]; decide) (by rw [q44]; decide) (by rw [q44]; decide) (by decide) ?_
                                                                                                exact ih.2.1 L σ r h H locs ls hP hD hS (lv_sub hl [] rfl)
                                                                                              · rw [if_neg q44] at h
                                                                                                by_cases q45 : ((σ.1 3702)) = (46 : Int32)
                                                                                                · rw [if_pos q45] at h
                                                                                                  refine lv_tableIn (off := 235) (tgt := 242) hx hb dX5_beginsStatement_7 (by rw [q45]; decide) (by rw [q45]; decide) (by rw [q45]; decide) (by decide) ?_
                                                                                                  exact ih.2.2 L σ r h H locs ls hP hD hS (lv_sub hl [] rfl)
                                                                                                · rw [if_neg q45] at h
                                                                                                  by_cases q46 : ((σ.1 3702)) = (47 : Int32)
                                                                                                  · rw [if_pos q46] at h
                                                                                                    refine lv_tableIn (off := 235) (tgt := 242) hx hb dX5_beginsStatement_7 (by rw [q46]; decide) (by rw [q46]; decide) (by rw [q46]; decide) (by decide) ?_
                                                                                                    exact ih.2.2 L σ r h H locs ls hP hD hS (lv_sub hl [] rfl)
                                                                                                  · rw [if_neg q46] at h
                                                                                                    by_cases q47 : ((σ.1 3702)) = (48 : Int32)
                                                                                                    · rw [if_pos q47] at h
                                                                                                      refine lv_tableIn (off := 235) (tgt := 242) hx hb dX5_beginsStatement_7 (by rw [q47]; decide) (by rw [q47]; decide) (by rw [q47]; decide) (by decide) ?_
                                                                                                      exact ih.2.2 L σ r h H locs ls hP hD hS (lv_sub hl [] rfl)
                                                                                                    · rw [if_neg q47] at h
                                                                                                      by_cases q48 : ((σ.1 3702)) = (49 : Int32)
                                                                                                      · rw [if_pos q48] at h
                                                                                                        refine lv_tableIn (off := 233) (tgt := 240) hx hb dX5_beginsStatement_7 (by rw [q48]; decide) (by rw [q48]; decide) (by rw [q48]; decide) (by decide) ?_
                                                                                                        exact ih.2.1 L σ r h H locs ls hP hD hS (lv_sub hl [] rfl)
                                                                                                      · rw [if_neg q48] at h
                                                                                                        by_cases q49 : ((σ.1 3702)) = (50 : Int32)
                                                                                                        · rw [if_pos q49] at h
                                                                                                          refine lv_tableIn (off := 233) (tgt := 240) hx hb dX5_beginsStatement_7 (by rw [q49]; decide) (by rw [q49]; decide) (by rw [q49]; decide) (by decide) ?_
                                                                                                          exact ih.2.1 L σ r h H locs ls hP hD hS (lv_sub hl [] rfl)
                                                                                                        · rw [if_neg q49] at h
                                                                                                          by_cases q50 : ((σ.1 3702)) = (51 : Int32)
                                                                                                          · rw [if_pos q50] at h
                                                                                                            refine lv_tableIn (off := 233) (tgt := 240) hx hb dX5_beginsStatement_7 (by rw [q50]; decide) (by rw [q50]; decide) (by rw [q50]; decide) (by decide) ?_
                                                                                                            exact ih.2.1 L σ r h H locs ls hP hD hS (lv_sub hl [] rfl)
                                                                                                          · rw [if_neg q50] at h
                                                                                                            by_cases q51 : ((σ.1 3702)) = (52 : Int32)
                                                                                                            · rw [if_pos q51] at h
                                                                                                              refine lv_tableIn (off := 233) (tgt := 240) hx hb dX5_beginsStatement_7 (by rw [q51]; decide) (by rw [q51]; decide) (by rw [q51]; decide) (by decide) ?_
                                                                                                              exact ih.2.1 L σ r h H locs ls hP hD hS (lv_sub hl [] rfl)
                                                                                                            · rw [if_neg q51] at h
                                                                                                              by_cases q52 : ((σ.1 3702)) = (53 : Int32)
                                                                                                              · rw [if_pos q52] at h
                                                                                                                refine lv_tableIn (off := 233) (tgt := 240) hx hb dX5_beginsStatement_7 (by rw [q52]; decide) (by rw [q52]; decide) (by rw [q52]; decide) (by decide) ?_
                                                                                                                exact ih.2.1 L σ r h H locs ls hP hD hS (lv_sub hl [] rfl)
                                                                                                              · rw [if_neg q52] at h
                                                                                                                by_cases q53 : ((σ.1 3702)) = (54 : Int32)
                                                                                                                · rw [if_pos q53] at h
                                                                                                                  refine lv_tableIn (off := 233) (tgt := 240) hx hb dX5_beginsStatement_7 (by rw [q53]; decide) (by rw [q53]; decide) (by rw [q53]; decide) (by decide) ?_
                                                                                                                  exact ih.2.1 L σ r h H locs ls hP hD hS (lv_sub hl [] rfl)
                                                                                                                · rw [if_neg q53] at h
                                                                                                                  by_cases q54 : ((σ.1 3702)) = (55 : Int32)
                                                                                                                  · rw [if_pos q54] at h
                                                                                                                    refine lv_tableIn (off := 233) (tgt := 240) hx hb dX5_beginsStatement_7 (by rw [q54]; decide) (by rw [q54]; decide) (by rw [q54]; decide) (by decide) ?_
                                                                                                                    exact ih.2.1 L σ r h H locs ls hP hD hS (lv_sub hl [] rfl)
                                                                                                                  · rw [if_neg q54] at h
                                                                                                                    by_cases q55 : ((σ.1 3702)) = (56 : Int32)
                                                                                                                    · rw [if_pos q55] at h
                                                                                                                      refine lv_tableIn (off := 233) (tgt := 240) hx hb dX5_beginsStatement_7 (by rw [q55]; decide) (by rw [q55]; decide) (by rw [q55]; decide) (by decide) ?_
                                                                                                                      exact ih.2.1 L σ r h H locs ls hP hD hS (lv_sub hl [] rfl)
                                                                                                                    · rw [if_neg q55] at h
                                                                                                                      have nq1 : ¬ ((σ.1 3702)).toInt = 2 := nb_ti q1 rfl
                                                                                                                      have nq2 : ¬ ((σ.1 3702)).toInt = 3 := nb_ti q2 rfl
                                                                                                                      have nq3 : ¬ ((σ.1 3702)).toInt = 4 := nb_ti q3 rfl
                                                                                                                      have nq4 : ¬ ((σ.1 3702)).toInt = 5 := nb_ti q4 rfl
                                                                                                                      have nq5 : ¬ ((σ.1 3702)).toInt = 6 := nb_ti q5 rfl
                                                                                                                      have nq6 : ¬ ((σ.1 3702)).toInt = 7 := nb_ti q6 rfl
                                                                                                                      have nq7 : ¬ ((σ.1 3702)).toInt = 8 := nb_ti q7 rfl
                                                                                                                      have nq8 : ¬ ((σ.1 3702)).toInt = 9 := nb_ti q8 rfl
                                                                                                                      have nq9 : ¬ ((σ.1 3702)).toInt = 10 := nb_ti q9 rfl
                                                                                                                      have nq10 : ¬ ((σ.1 3702)).toInt = 11 := nb_ti q10 rfl
                                                                                                                      have nq11 : ¬ ((σ.1 3702)).toInt = 12 := nb_ti q11 rfl
                                                                                                                      have nq12 : ¬ ((σ.1 3702)).toInt = 13 := nb_ti q12 rfl
                                                                                                                      have nq13 : ¬ ((σ.1 3702)).toInt = 14 := nb_ti q13 rfl
                                                                                                                      have nq14 : ¬ ((σ.1 3702)).toInt = 15 := nb_ti q14 rfl
                                                                                                                      have nq15 : ¬ ((σ.1 3702)).toInt = 16 := nb_ti q15 rfl
                                                                                                                      have nq16 : ¬ ((σ.1 3702)).toInt = 17 := nb_ti q16 rfl
                                                                                                                      have nq17 : ¬ ((σ.1 3702)).toInt = 18 := nb_ti q17 rfl
                                                                                                                      have nq18 : ¬ ((σ.1 3702)).toInt = 19 := nb_ti q18 rfl
                                                                                                                      have nq19 : ¬ ((σ.1 3702)).toInt = 20 := nb_ti q19 rfl
                                                                                                                      have nq20 : ¬ ((σ.1 3702)).toInt = 21 := nb_ti q20 rfl
                                                                                                                      have nq21 : ¬ ((σ.1 3702)).toInt = 22 := nb_ti q21 rfl
                                                                                                                      have nq22 : ¬ ((σ.1 3702)).toInt = 23 := nb_ti q22 rfl
                                                                                                                      have nq23 : ¬ ((σ.1 3702)).toInt = 24 := nb_ti q23 rfl
                                                                                                                      have nq24 : ¬ ((σ.1 3702)).toInt = 25 := nb_ti q24 rfl
                                                                                                                      have nq25 : ¬ ((σ.1 3702)).toInt = 26 := nb_ti q25 rfl
                                                                                                                      have nq26 : ¬ ((σ.1 3702)).toInt = 27 := nb_ti q26 rfl
                                                                                                                      have nq27 : ¬ ((σ.1 3702)).toInt = 28 := nb_ti q27 rfl
                                                                                                                      have nq28 : ¬ ((σ.1 3702)).toInt = 29 := nb_ti q28 rfl
                                                                                                                      have nq29 : ¬ ((σ.1 3702)).toInt = 30 := nb_ti q29 rfl
                                                                                                                      have nq30 : ¬ ((σ.1 3702)).toInt = 31 := nb_ti q30 rfl
                                                                                                                      have nq31 : ¬ ((σ.1 3702)).toInt = 32 := nb_ti q31 rfl
                                                                                                                      have nq32 : ¬ ((σ.1 3702)).toInt = 33 := nb_ti q32 rfl
                                                                                                                      have nq33 : ¬ ((σ.1 3702)).toInt = 34 := nb_ti q33 rfl
                                                                                                                      have nq34 : ¬ ((σ.1 3702)).toInt = 35 := nb_ti q34 rfl
                                                                                                                      have nq35 : ¬ ((σ.1 3702)).toInt = 36 := nb_ti q35 rfl
                                                                                                                      have nq36 : ¬ ((σ.1 3702)).toInt = 37 := nb_ti q36 rfl
                                                                                                                      have nq37 : ¬ ((σ.1 3702)).toInt = 38 := nb_ti q37 rfl
                                                                                                                      have nq38 : ¬ ((σ.1 3702)).toInt = 39 := nb_ti q38 rfl
                                                                                                                      have nq39 : ¬ ((σ.1 3702)).toInt = 40 := nb_ti q39 rfl
                                                                                                                      have nq40 : ¬ ((σ.1 3702)).toInt = 41 := nb_ti q40 rfl
                                                                                                                      have nq41 : ¬ ((σ.1 3702)).toInt = 42 := nb_ti q41 rfl
                                                                                                                      have nq42 : ¬ ((σ.1 3702)).toInt = 43 := nb_ti q42 rfl
                                                                                                                      have nq43 : ¬ ((σ.1 3702)).toInt = 44 := nb_ti q43 rfl
                                                                                                                      have nq44 : ¬ ((σ.1 3702)).toInt = 45 := nb_ti q44 rfl
                                                                                                                      have nq45 : ¬ ((σ.1 3702)).toInt = 46 := nb_ti q45 rfl
                                                                                                                      have nq46 : ¬ ((σ.1 3702)).toInt = 47 := nb_ti q46 rfl
                                                                                                                      have nq47 : ¬ ((σ.1 3702)).toInt = 48 := nb_ti q47 rfl
                                                                                                                      have nq48 : ¬ ((σ.1 3702)).toInt = 49 := nb_ti q48 rfl
                                                                                                                      have nq49 : ¬ ((σ.1 3702)).toInt = 50 := nb_ti q49 rfl
                                                                                                                      have nq50 : ¬ ((σ.1 3702)).toInt = 51 := nb_ti q50 rfl
                                                                                                                      have nq51 : ¬ ((σ.1 3702)).toInt = 52 := nb_ti q51 rfl
                                                                                                                      have nq52 : ¬ ((σ.1 3702)).toInt = 53 := nb_ti q52 rfl
                                                                                                                      have nq53 : ¬ ((σ.1 3702)).toInt = 54 := nb_ti q53 rfl
                                                                                                                      have nq54 : ¬ ((σ.1 3702)).toInt = 55 := nb_ti q54 rfl
                                                                                                                      have nq55 : ¬ ((σ.1 3702)).toInt = 56 := nb_ti q55 rfl
                                                                                                                      refine lv_tableOut (tgt := 242) hx hb dX5_beginsStatement_7 (by omega) (by decide) ?_
                                                                                                                      exact ih.2.2 L σ r h H locs ls hP hD hS (lv_sub hl [] rfl)
      · intro L σ r h H locs ls hP hD hS hl
        rw [y_X5_beginsStatement] at h
        refine lv_iconst (v := 1) hx hb dX5_beginsStatement_240 (by decide) ?_
        obtain rfl := Option.some.inj h
        exact W.zret (v := 1) hx hb hr rfl (fun t ht hW => ⟨⟨1, (), rfl, rfl, by rw [ht]; exact hP, va_K.moved hW.alike hK, hD⟩, hS.F ht⟩) hS.2.2 dX5_beginsStatement_241
      · intro L σ r h H locs ls hP hD hS hl
        rw [y_X5_beginsStatement] at h
        refine lv_iconst (v := 0) hx hb dX5_beginsStatement_242 (by decide) ?_
        obtain rfl := Option.some.inj h
        exact W.zret (v := 0) hx hb hr rfl (fun t ht hW => ⟨⟨0, (), rfl, rfl, by rw [ht]; exact hP, va_K.moved hW.alike hK, hD⟩, hS.F ht⟩) hS.2.2 dX5_beginsStatement_243
  exact (blk k0).1 L0 σ0 r0 h0 s.heap [] ls hP hD hS hl
/-! X7_aim__P -/
def y_X7_aim__P : Nat → Nat → LV → CS → Option (Int32 × CS)
  | 0, _, _, _ => none
  | k + 1, 0, L, σ => if ¬ (((L.1 1)) < 0 ∨ (sN σ (pR0 ((sKd σ ((L.2.2.1 0)))))) ≤ ((L.1 1)).toNatClampNeg) then (if ¬ (((L.1 1)) < 0 ∨ (sN σ (pR0 ((sKd σ ((L.2.2.1 0)))))) ≤ ((L.1 1)).toNatClampNeg) then (some (0, (uA σ (pR0 ((sKd σ ((L.2.2.1 0))))) ((L.1 1)).toNatClampNeg ((((((σ.2.2.1 (pR0 ((sKd σ ((L.2.2.1 0))))) ((L.1 1)).toNatClampNeg)) &&& 255)) ||| ((((((L.1 2)) - ((L.1 1)))) <<< ((8 : Int32) &&& 31)))))))) else none) else none
  | _ + 1, _ + 1, _, _ => none
def o_y_X7_aim__P : List Cond := [.fieldLink RX7 9 "SetHouse$Program" "code" "[I"]
theorem o_y_X7_aim__P_good : o_y_X7_aim__P.all goodWord = true := by decide +kernel
def p_y_X7_aim__P : List Cond := o_y_X7_aim__P ++ []
theorem p_y_X7_aim__P_good : p_y_X7_aim__P.all goodWord = true := nb_all2 o_y_X7_aim__P_good rfl
def w_y_X7_aim__P : List Cond := .code yX7_aim cX7_aim 3 none :: (p_y_X7_aim__P ++ fC)
theorem w_y_X7_aim__P_good : w_y_X7_aim__P.all goodWord = true := nb_allc (by decide +kernel) (nb_all2 p_y_X7_aim__P_good fC_good)
theorem in_y_X7_aim__P_X7 : ∀ w ∈ wsX70, w ∈ w_y_X7_aim__P := fun _ h => List.mem_cons_of_mem _ (List.mem_append_right _ (List.mem_append_right _ (List.mem_append_right _ (List.mem_append_right _ (List.mem_append_right _ (List.mem_append_right _ (List.mem_append_right _ (List.mem_append_left _ h))))))))
theorem hd_y_X7_aim__P : yX7_aim.cls = RX7 ∧ yX7_aim.cls ≠ "java/lang/invoke/MethodHandle" ∧ yX7_aim.cls ≠ "java/lang/invoke/VarHandle" ∧ (parseMethodDescriptor yX7_aim.desc).map (fun d => d.parameters.length) = some 2 := by decide +kernel
set_option maxHeartbeats 40000000 in
set_option maxRecDepth 100000 in
theorem c_y_X7_aim__P (l : Launch) (dC : Nat → ClassId) (dI : Nat → Nat → Nat) (cy : Nat → ClassId) (a z : Nat → Nat) (k0 : Nat) (L0 : LV) (σ0 : CS) (r0 : Int32 × CS) (h0 : y_X7_aim__P k0 0 L0 σ0 = some r0) (sz : Nat) : Met l yX7_aim w_y_X7_aim__P ({ frames := 0, cells := 0, slots := 0, locals := 0 }) (va_Pc [.ref (a (pA (L0.2.2.1 0))), .int (L0.1 1), .int (L0.1 2)] (nIn (dC, dI) cy sz (vC cy a z σ0))) (va_Qv (fun _ : Unit => True) (fun _ t => nOut (dC, dI) cy (va_A (vC cy a z σ0) sz) (vC cy a z r0.2) t) (va_A (vC cy a z σ0) sz)) 0 0 (va_A (vC cy a z σ0) sz) := by
  refine Met.ofW (cc := cX7_aim) (maxL := 3) (ret := none) (by decide) rfl ?_
  intro p e s m args below meth c s₁ B hml hv
  obtain ⟨rfl, hsz, hP, hK, hD0, hG⟩ := hv
  have hx := B.exec
  have hb := B.bytes
  have hr := B.returns
  have hts := atoms_spec (ws := w_y_X7_aim__P) B.pre
  have hown : s.vm.findClass RX7 = some m.cls := findClass_of_methodNamed B.named
  have hlocks := B.notSynchronized
  subst hsz
  have hD := hD0.self (sz := s.heap.size)
  generalize hAe : va_A (vC cy a z σ0) s.heap.size = A at hD ⊢
  have hA : ∀ q : Nat, s.heap.size ≤ q → A q := fun q h => by rw [← hAe]; exact Or.inr h
  have hS : va_S A s.heap s.heap [] := va_S.rf
  have hl := lv_entry ([.ref (a (pA (L0.2.2.1 0))), .int (L0.1 1), .int (L0.1 2)]) (n := 3) (Nat.le_of_ble_eq_true rfl)
  rw [lg_entry_eq]
  generalize (lg_sl ([.ref (a (pA (L0.2.2.1 0))), .int (L0.1 1), .int (L0.1 2)]) ++ List.replicate (3 - (lg_sl ([.ref (a (pA (L0.2.2.1 0))), .int (L0.1 1), .int (L0.1 2)])).length) Slot.unset).toArray = ls at hl ⊢
  have hl : lv_has ls 3 [(0, .ref (a (pA (L0.2.2.1 0)))), (1, .int (L0.1 1)), (2, .int (L0.1 2))] := hl
  have blk : ∀ k : Nat, (bC p l e (headSpec w_y_X7_aim__P ({ frames := 0, cells := 0, slots := 0, locals := 0 })).room s m #[.ref (a (pA (L0.2.2.1 0))), .int (L0.1 1), .int (L0.1 2)] below meth c dC dI cy a z A (kV dC dI cy a z A below #[.ref (a (pA (L0.2.2.1 0))), .int (L0.1 1), .int (L0.1 2)] s) 3 (y_X7_aim__P k 0) (fun L => [(0, .ref (a (pA (L.2.2.1 0)))), (1, .int (L.1 1)), (2, .int (L.1 2))]) 0 (fun L => [])) := by
    intro k
    induction k with
    | zero => exact fun L σ r h => (by cases h)
    | succ k ih =>
      skip
      · intro L σ r h H locs ls hP hD hS hl
        rw [y_X7_aim__P] at h
        refine lv_aload_n hx hb dX7_aim_0 rfl (lv_at hl 0 rfl) ?_
        refine hg_P_0 ((L.2.2.1 0)) hx hb hts in_y_X7_aim__P_X7 hown hK hP (hts _ (List.mem_cons_of_mem _ (List.mem_append_left _ (List.mem_append_left _ (List.mem_of_getElem? (i := 0) rfl))))) dX7_aim_1 ?_
        refine lv_iload_n hx hb dX7_aim_4 rfl (lv_at hl 1 rfl) ?_
        refine lv_aload_n hx hb dX7_aim_5 rfl (lv_at hl 0 rfl) ?_
        refine hg_P_0 ((L.2.2.1 0)) hx hb hts in_y_X7_aim__P_X7 hown hK hP (hts _ (List.mem_cons_of_mem _ (List.mem_append_left _ (List.mem_append_left _ (List.mem_of_getElem? (i := 0) rfl))))) dX7_aim_6 ?_
        refine lv_iload_n hx hb dX7_aim_9 rfl (lv_at hl 1 rfl) ?_
        obtain ⟨q1, h⟩ := kb_ite1 h
        refine hl_P0 ((sKd σ ((L.2.2.1 0)))) hx hb hK hP q1 dX7_aim_10 ?_
        refine lv_sipush (v := 255) hx hb dX7_aim_11 (by decide) ?_
        refine lv_iand hx hb dX7_aim_14 ?_
        refine lv_iload_n hx hb dX7_aim_15 rfl (lv_at hl 2 rfl) ?_
        refine lv_iload_n hx hb dX7_aim_16 rfl (lv_at hl 1 rfl) ?_
        refine lv_isub hx hb dX7_aim_17 ?_
        refine lv_bipush (v := 8) hx hb dX7_aim_18 (by decide) ?_
        refine lv_ishl hx hb dX7_aim_20 ?_
        refine lv_ior hx hb dX7_aim_21 ?_
        obtain ⟨q2, h⟩ := kb_ite1 h
        refine hs_P0 ((sKd σ ((L.2.2.1 0)))) hx hb hK hP hD hS q2 dX7_aim_22 (fun H locs hP hD hS => ?_)
        obtain rfl := Option.some.inj h
        exact W.vret hx hb hr (fun t ht hW => ⟨⟨(), rfl, trivial, by rw [ht]; exact hP, va_K.moved hW.alike hK, hD⟩, hS.F ht⟩) hS.2.2 dX7_aim_23
  exact (blk k0) L0 σ0 r0 h0 s.heap [] ls hP hD hS hl
/-! X5_aimAll -/
def y_X5_aimAll : Nat → Nat → LV → CS → Option (Int32 × CS)
  | 0, _, _, _ => none
  | k + 1, 0, L, σ => y_X5_aimAll k 1 (lI (lI L 2 ((L.1 1))) 3 0) σ
  | k + 1, 1, L, σ => if 32768 < ((L.1 3)) then (y_X5_aimAll k 2 L σ) else (if ((L.1 2)) = 0 then (y_X5_aimAll k 2 L σ) else (oB (sPp σ) (fun b3 => if ¬ (((L.1 2)) < 0 ∨ (sN σ (pR0 ((sKd σ b3)))) ≤ ((L.1 2)).toNatClampNeg) then (oB (sPp σ) (fun b5 => oB (sPp σ) (fun b6 => oc (y_X7_aim__P k 0 (lI (lI (lB lZ 0 b5) 1 ((L.1 2))) 2 ((σ.1 (fP b6 1)))) σ) (fun r7 => y_X5_aimAll k 1 (lI (lI L 2 ((((σ.2.2.1 (pR0 ((sKd σ b3))) ((L.1 2)).toNatClampNeg)) >>> ((8 : Int32) &&& 31)))) 3 ((((L.1 3)) + 1))) r7.2)))) else none)))
  | k + 1, 2, L, σ => some (0, σ)
  | _ + 1, _ + 3, _, _ => none
def o_y_X5_aimAll : List Cond := [.constant RX5 35 (32768), .fieldLink RX5 93 "SetHouse$Parser" "p" "LSetHouse$Program;", .methodLink RX5 240 yX7_aim, .instanceMethod yX7_aim, .selects RX7 yX7_aim yX7_aim, .initialized RX7]
theorem o_y_X5_aimAll_good : o_y_X5_aimAll.all goodWord = true := by decide +kernel
def p_y_X5_aimAll : List Cond := o_y_X5_aimAll ++ ((.code yX7_aim cX7_aim 3 none :: p_y_X7_aim__P) ++ [])
theorem p_y_X5_aimAll_good : p_y_X5_aimAll.all goodWord = true := nb_all2 o_y_X5_aimAll_good (nb_all2 (nb_allc (by decide +kernel) p_y_X7_aim__P_good) rfl)
def w_y_X5_aimAll : List Cond := .code yX5_aimAll cX5_aimAll 5 none :: (p_y_X5_aimAll ++ fC)
theorem w_y_X5_aimAll_good : w_y_X5_aimAll.all goodWord = true := nb_allc (by decide +kernel) (nb_all2 p_y_X5_aimAll_good fC_good)
theorem in_y_X5_aimAll_X5 : ∀ w ∈ wsX50, w ∈ w_y_X5_aimAll := fun _ h => List.mem_cons_of_mem _ (List.mem_append_right _ (List.mem_append_right _ (List.mem_append_right _ (List.mem_append_right _ (List.mem_append_right _ (List.mem_append_left _ h))))))
theorem in_y_X5_aimAll_X7 : ∀ w ∈ wsX70, w ∈ w_y_X5_aimAll := fun _ h => List.mem_cons_of_mem _ (List.mem_append_right _ (List.mem_append_right _ (List.mem_append_right _ (List.mem_append_right _ (List.mem_append_right _ (List.mem_append_right _ (List.mem_append_right _ (List.mem_append_left _ h))))))))
theorem hd_y_X5_aimAll : yX5_aimAll.cls = RX5 ∧ yX5_aimAll.cls ≠ "java/lang/invoke/MethodHandle" ∧ yX5_aimAll.cls ≠ "java/lang/invoke/VarHandle" ∧ (parseMethodDescriptor yX5_aimAll.desc).map (fun d => d.parameters.length) = some 1 := by decide +kernel
theorem gg_y_X5_aimAll_X7_aim__P : GoodIn w_y_X5_aimAll w_y_X7_aim__P := goodIn_sub (fun w h => (List.mem_cons.mp h).elim (fun e => (List.mem_cons_of_mem _ (List.mem_append_left _ (List.mem_append_right _ (List.mem_append_left _ (List.mem_cons.mpr (Or.inl e))))))) (fun h => (List.mem_append.mp h).elim (fun h => (List.mem_cons_of_mem _ (List.mem_append_left _ (List.mem_append_right _ (List.mem_append_left _ (List.mem_cons_of_mem _ h)))))) (fun h => List.mem_cons_of_mem _ (List.mem_append_right _ h)))) w_y_X7_aim__P_good
theorem g_y_X5_aimAll_X7_aim__P_V240 : GoodIn w_y_X5_aimAll (wsV RX5 240 RX7 yX7_aim w_y_X7_aim__P) := goodIn_app (nb_g4 (List.mem_cons_of_mem _ (List.mem_append_left _ (List.mem_append_left _ (List.mem_of_getElem? (i := 2) rfl)))) (List.mem_cons_of_mem _ (List.mem_append_left _ (List.mem_append_left _ (List.mem_of_getElem? (i := 3) rfl)))) (List.mem_cons_of_mem _ (List.mem_append_left _ (List.mem_append_left _ (List.mem_of_getElem? (i := 4) rfl)))) (List.mem_cons_of_mem _ (List.mem_append_left _ (List.mem_append_left _ (List.mem_of_getElem? (i := 5) rfl)))) (by decide +kernel)) gg_y_X5_aimAll_X7_aim__P
set_option maxHeartbeats 40000000 in
set_option maxRecDepth 100000 in
theorem c_y_X5_aimAll (l : Launch) (dC : Nat → ClassId) (dI : Nat → Nat → Nat) (cy : Nat → ClassId) (a z : Nat → Nat) (k0 : Nat) (L0 : LV) (σ0 : CS) (r0 : Int32 × CS) (h0 : y_X5_aimAll k0 0 L0 σ0 = some r0) (sz : Nat) : Met l yX5_aimAll w_y_X5_aimAll ({ frames := 1, cells := 0, slots := 0, locals := 22 }) (va_Pc [.ref (a 40), .int (L0.1 1)] (nIn (dC, dI) cy sz (vC cy a z σ0))) (va_Qv (fun _ : Unit => True) (fun _ t => nOut (dC, dI) cy (va_A (vC cy a z σ0) sz) (vC cy a z r0.2) t) (va_A (vC cy a z σ0) sz)) 0 0 (va_A (vC cy a z σ0) sz) := by
  refine Met.ofW (cc := cX5_aimAll) (maxL := 5) (ret := none) (by decide) rfl ?_
  intro p e s m args below meth c s₁ B hml hv
  obtain ⟨rfl, hsz, hP, hK, hD0, hG⟩ := hv
  have hx := B.exec
  have hb := B.bytes
  have hr := B.returns
  have hts := atoms_spec (ws := w_y_X5_aimAll) B.pre
  have hown : s.vm.findClass RX5 = some m.cls := findClass_of_methodNamed B.named
  have hlocks := B.notSynchronized
  subst hsz
  have hD := hD0.self (sz := s.heap.size)
  generalize hAe : va_A (vC cy a z σ0) s.heap.size = A at hD ⊢
  have hA : ∀ q : Nat, s.heap.size ≤ q → A q := fun q h => by rw [← hAe]; exact Or.inr h
  have hS : va_S A s.heap s.heap [] := va_S.rf
  have hl := lv_entry ([.ref (a 40), .int (L0.1 1)]) (n := 5) (Nat.le_of_ble_eq_true rfl)
  rw [lg_entry_eq]
  generalize (lg_sl ([.ref (a 40), .int (L0.1 1)]) ++ List.replicate (5 - (lg_sl ([.ref (a 40), .int (L0.1 1)])).length) Slot.unset).toArray = ls at hl ⊢
  have hl : lv_has ls 5 [(0, .ref (a 40)), (1, .int (L0.1 1))] := hl
  have blk : ∀ k : Nat, (bC p l e (headSpec w_y_X5_aimAll ({ frames := 1, cells := 0, slots := 0, locals := 22 })).room s m #[.ref (a 40), .int (L0.1 1)] below meth c dC dI cy a z A (kV dC dI cy a z A below #[.ref (a 40), .int (L0.1 1)] s) 5 (y_X5_aimAll k 0) (fun L => [(0, .ref (a 40)), (1, .int (L.1 1))]) 0 (fun L => [])) ∧ (bC p l e (headSpec w_y_X5_aimAll ({ frames := 1, cells := 0, slots := 0, locals := 22 })).room s m #[.ref (a 40), .int (L0.1 1)] below meth c dC dI cy a z A (kV dC dI cy a z A below #[.ref (a 40), .int (L0.1 1)] s) 5 (y_X5_aimAll k 1) (fun L => [(0, .ref (a 40)), (2, .int (L.1 2)), (3, .int (L.1 3))]) 4 (fun L => [])) ∧ (bC p l e (headSpec w_y_X5_aimAll ({ frames := 1, cells := 0, slots := 0, locals := 22 })).room s m #[.ref (a 40), .int (L0.1 1)] below meth c dC dI cy a z A (kV dC dI cy a z A below #[.ref (a 40), .int (L0.1 1)] s) 5 (y_X5_aimAll k 2) (fun L => []) 52 (fun L => [])) := by
    intro k
    induction k with
    | zero => exact ⟨fun L σ r h => (by cases h), fun L σ r h => (by cases h), fun L σ r h => (by cases h)⟩
    | succ k ih =>
      refine ⟨?_, ?_, ?_⟩
      · intro L σ r h H locs ls hP hD hS hl
        rw [y_X5_aimAll] at h
        refine lv_iload_n hx hb dX5_aimAll_0 rfl (lv_at hl 1 rfl) ?_
        refine lv_istore_n (lv' := [(2, .int (L.1 1)), (0, .ref (a 40)), (1, .int (L.1 1))]) hx hb dX5_aimAll_1 rfl hl (by decide) rfl (fun ls hl => ?_)
        refine lv_iconst (v := 0) hx hb dX5_aimAll_2 (by decide) ?_
        refine lv_istore_n (lv' := [(3, .int 0), (2, .int (L.1 1)), (0, .ref (a 40)), (1, .int (L.1 1))]) hx hb dX5_aimAll_3 rfl hl (by decide) rfl (fun ls hl => ?_)
        exact ih.2.1 (lI (lI L 2 ((L.1 1))) 3 0) σ r h H locs ls hP hD hS (lv_sub hl [2, 1, 0] rfl)
      · intro L σ r h H locs ls hP hD hS hl
        rw [y_X5_aimAll] at h
        refine lv_iload_n hx hb dX5_aimAll_4 rfl (lv_at hl 2 rfl) ?_
        refine lv_ldc (v := 32768) hx hb hown (hts _ (List.mem_cons_of_mem _ (List.mem_append_left _ (List.mem_append_left _ (List.mem_of_getElem? (i := 0) rfl))))) dX5_aimAll_5 ?_
        refine lv_icmp_gt (tgt := 52) hx hb dX5_aimAll_7 (by decide) (fun c1 => ?_) (fun c1 => ?_)
        · rw [if_pos c1] at h
          exact ih.2.2 L σ r h H locs ls hP hD hS (lv_sub hl [] rfl)
        · rw [if_neg c1] at h
          refine lv_iload_n hx hb dX5_aimAll_10 rfl (lv_at hl 1 rfl) ?_
          refine lv_if_eq (tgt := 52) hx hb dX5_aimAll_11 (by decide) (fun c2 => ?_) (fun c2 => ?_)
          · rw [if_pos c2] at h
            exact ih.2.2 L σ r h H locs ls hP hD hS (lv_sub hl [] rfl)
          · rw [if_neg c2] at h
            refine lv_aload_n hx hb dX5_aimAll_14 rfl (lv_at hl 0 rfl) ?_
            obtain ⟨b3, hb3, h⟩ := oB_ex h
            refine hgq_40_2 hx hb hts in_y_X5_aimAll_X5 hown hK hP (hts _ (List.mem_cons_of_mem _ (List.mem_append_left _ (List.mem_append_left _ (List.mem_of_getElem? (i := 1) rfl))))) hb3 dX5_aimAll_15 ?_
            refine hg_P_0n b3 hx hb hts in_y_X5_aimAll_X7 hown hK hP (va_Nw.use rfl (hG.1 _ (List.mem_of_getElem? (i := 67) rfl))) dX5_aimAll_18 ?_
            refine lv_iload_n hx hb dX5_aimAll_21 rfl (lv_at hl 1 rfl) ?_
            obtain ⟨q4, h⟩ := kb_ite1 h
            refine hl_P0 ((sKd σ b3)) hx hb hK hP q4 dX5_aimAll_22 ?_
            refine lv_bipush (v := 8) hx hb dX5_aimAll_23 (by decide) ?_
            refine lv_ishr hx hb dX5_aimAll_25 ?_
            refine lv_istore (lv' := [(4, .int (((σ.2.2.1 (pR0 ((sKd σ b3))) ((L.1 2)).toNatClampNeg)) >>> ((8 : Int32) &&& 31))), (0, .ref (a 40)), (2, .int (L.1 2)), (3, .int (L.1 3))]) hx hb dX5_aimAll_26 hl (by decide) rfl (fun ls hl => ?_)
            refine lv_aload_n hx hb dX5_aimAll_28 rfl (lv_at hl 1 rfl) ?_
            obtain ⟨b5, hb5, h⟩ := oB_ex h
            refine hgq_40_2 hx hb hts in_y_X5_aimAll_X5 hown hK hP (hts _ (List.mem_cons_of_mem _ (List.mem_append_left _ (List.mem_append_left _ (List.mem_of_getElem? (i := 1) rfl))))) hb5 dX5_aimAll_29 ?_
            refine lv_iload_n hx hb dX5_aimAll_32 rfl (lv_at hl 2 rfl) ?_
            refine lv_aload_n hx hb dX5_aimAll_33 rfl (lv_at hl 1 rfl) ?_
            obtain ⟨b6, hb6, h⟩ := oB_ex h
            refine hgq_40_2 hx hb hts in_y_X5_aimAll_X5 hown hK hP (hts _ (List.mem_cons_of_mem _ (List.mem_append_left _ (List.mem_append_left _ (List.mem_of_getElem? (i := 1) rfl))))) hb6 dX5_aimAll_34 ?_
            refine hg_P_1n b6 hx hb hts in_y_X5_aimAll_X7 hown hK hP (va_Nw.use rfl (hG.1 _ (List.mem_of_getElem? (i := 68) rfl))) dX5_aimAll_37 ?_
            obtain ⟨r7, hc7, h⟩ := oc_ex h
            refine kc_v (va_runV (As := [.int (L.1 2), .int (σ.1 (fP b6 1))]) (rest := []) ⟨hx, hb, hml, hown, hts⟩ (c_y_X7_aim__P l dC dI cy a z k (lI (lI (lB lZ 0 b5) 1 ((L.1 2))) 2 ((σ.1 (fP b6 1)))) σ r7 hc7 H.size) (cwV 2 hts g_y_X5_aimAll_X7_aim__P_V240 rfl rfl rfl hd_y_X7_aim__P ⟨Nat.le_of_ble_eq_true rfl, Nat.le_of_ble_eq_true rfl⟩) ⟨nb_blind, recvP b5 hK hP, (kb_pre hK hG hP hD)⟩ rfl rfl hl.1 rfl (lv_room (Nat.le_of_ble_eq_true rfl)) dX5_aimAll_40 ⟨Nat.le_refl _, Nat.le_refl _⟩) hA hP hD hS (fun H locs hP hD hS => ?_)
            refine lv_iload hx hb dX5_aimAll_43 (lv_at hl 0 rfl) ?_
            refine lv_istore_n (lv' := [(2, .int (((σ.2.2.1 (pR0 ((sKd σ b3))) ((L.1 2)).toNatClampNeg)) >>> ((8 : Int32) &&& 31))), (4, .int (((σ.2.2.1 (pR0 ((sKd σ b3))) ((L.1 2)).toNatClampNeg)) >>> ((8 : Int32) &&& 31))), (0, .ref (a 40)), (3, .int (L.1 3))]) hx hb dX5_aimAll_45 rfl hl (by decide) rfl (fun ls hl => ?_)
            refine lv_iinc (v := ((L.1 3)) + 1) (lv' := [(3, .int (((L.1 3)) + 1)), (2, .int (((σ.2.2.1 (pR0 ((sKd σ b3))) ((L.1 2)).toNatClampNeg)) >>> ((8 : Int32) &&& 31))), (4, .int (((σ.2.2.1 (pR0 ((sKd σ b3))) ((L.1 2)).toNatClampNeg)) >>> ((8 : Int32) &&& 31))), (0, .ref (a 40))]) hx hb dX5_aimAll_46 hl (k := 3) rfl rfl (by decide) rfl (fun ls hl => ?_)
            refine lv_goto (tgt := 4) hx hb dX5_aimAll_49 (by decide) ?_
            exact ih.2.1 (lI (lI L 2 ((((σ.2.2.1 (pR0 ((sKd σ b3))) ((L.1 2)).toNatClampNeg)) >>> ((8 : Int32) &&& 31)))) 3 ((((L.1 3)) + 1))) r7.2 r h H locs ls hP hD hS (lv_sub hl [3, 1, 0] rfl)
      · intro L σ r h H locs ls hP hD hS hl
        rw [y_X5_aimAll] at h
        obtain rfl := Option.some.inj h
        exact W.vret hx hb hr (fun t ht hW => ⟨⟨(), rfl, trivial, by rw [ht]; exact hP, va_K.moved hW.alike hK, hD⟩, hS.F ht⟩) hS.2.2 dX5_aimAll_52
  exact (blk k0).1 L0 σ0 r0 h0 s.heap [] ls hP hD hS hl
/-! X5_level -/
def y_X5_level : Nat → Nat → LV → CS → Option (Int32 × CS)
  | 0, _, _, _ => none
  | k + 1, 0, L, σ => if ((L.1 0)) = (6 : Int32) then (y_X5_level k 1 L σ) else (if ((L.1 0)) = (7 : Int32) then (y_X5_level k 1 L σ) else (if ((L.1 0)) = (8 : Int32) then (y_X5_level k 2 L σ) else (if ((L.1 0)) = (9 : Int32) then (y_X5_level k 3 L σ) else (if ((L.1 0)) = (10 : Int32) then (y_X5_level k 4 L σ) else (if ((L.1 0)) = (11 : Int32) then (y_X5_level k 4 L σ) else (if ((L.1 0)) = (12 : Int32) then (y_X5_level k 4 L σ) else (if ((L.1 0)) = (13 : Int32) then (y_X5_level k 4 L σ) else (if ((L.1 0)) = (14 : Int32) then (y_X5_level k 4 L σ) else (if ((L.1 0)) = (15 : Int32) then (y_X5_level k 4 L σ) else (if ((L.1 0)) = (16 : Int32) then (y_X5_level k 4 L σ) else (if ((L.1 0)) = (17 : Int32) then (y_X5_level k 4 L σ) else (if ((L.1 0)) = (18 : Int32) then (y_X5_level k 4 L σ) else (if ((L.1 0)) = (19 : Int32) then (y_X5_level k 4 L σ) else (if ((L.1 0)) = (20 : Int32) then (y_X5_level k 5 L σ) else (if ((L.1 0)) = (21 : Int32) then (y_X5_level k 5 L σ) else (if ((L.1 0)) = (22 : Int32) then (y_X5_level k 5 L σ) else (if ((L.1 0)) = (23 : Int32) then (y_X5_level k 5 L σ) else (if ((L.1 0)) = (24 : Int32) then (y_X5_level k 5 L σ) else (if ((L.1 0)) = (25 : Int32) then (y_X5_level k 5 L σ) else (if ((L.1 0)) = (26 : Int32) then (y_X5_level k 4 L σ) else (if ((L.1 0)) = (27 : Int32) then (y_X5_level k 4 L σ) else (if ((L.1 0)) = (28 : Int32) then (y_X5_level k 4 L σ) else (if ((L.1 0)) = (29 : Int32) then (y_X5_level k 4 L σ) else (if ((L.1 0)) = (30 : Int32) then (y_X5_level k 4 L σ) else (if ((L.1 0)) = (31 : Int32) then (y_X5_level k 4 L σ) else (if ((L.1 0)) = (32 : Int32) then (y_X5_level k 4 L σ) else (if ((L.1 0)) = (33 : Int32) then (y_X5_level k 4 L σ) else (if ((L.1 0)) = (34 : Int32) then (y_X5_level k 4 L σ) else (if ((L.1 0)) = (35 : Int32) then (y_X5_level k 4 L σ) else (if ((L.1 0)) = (36 : Int32) then (y_X5_level k 4 L σ) else (if ((L.1 0)) = (37 : Int32) then (y_X5_level k 4 L σ) else (if ((L.1 0)) = (38 : Int32) then (y_X5_level k 4 L σ) else (if ((L.1 0)) = (39 : Int32) then (y_X5_level k 4 L σ) else (if ((L.1 0)) = (40 : Int32) then (y_X5_level k 4 L σ) else (if ((L.1 0)) = (41 : Int32) then (y_X5_level k 4 L σ) else (if ((L.1 0)) = (42 : Int32) then (y_X5_level k 4 L σ) else (if ((L.1 0)) = (43 : Int32) then (y_X5_level k 4 L σ) else (if ((L.1 0)) = (44 : Int32) then (y_X5_level k 4 L σ) else (if ((L.1 0)) = (45 : Int32) then (y_X5_level k 4 L σ) else (if ((L.1 0)) = (46 : Int32) then (y_X5_level k 5 L σ) else (if ((L.1 0)) = (47 : Int32) then (y_X5_level k 5 L σ) else (if ((L.1 0)) = (48 : Int32) then (y_X5_level k 5 L σ) else (if ((L.1 0)) = (49 : Int32) then (y_X5_level k 4 L σ) else (if ((L.1 0)) = (50 : Int32) then (y_X5_level k 4 L σ) else (if ((L.1 0)) = (51 : Int32) then (y_X5_level k 4 L σ) else (if ((L.1 0)) = (52 : Int32) then (y_X5_level k 4 L σ) else (if ((L.1 0)) = (53 : Int32) then (y_X5_level k 4 L σ) else (if ((L.1 0)) = (54 : Int32) then (y_X5_level k 4 L σ) else (if ((L.1 0)) = (55 : Int32) then (y_X5_level k 4 L σ) else (if ((L.1 0)) = (56 : Int32) then (y_X5_level k 4 L σ) else (if ((L.1 0)) = (57 : Int32) then (y_X5_level k 4 L σ) else (if ((L.1 0)) = (58 : Int32) then (y_X5_level k 4 L σ) else (if ((L.1 0)) = (59 : Int32) then (y_X5_level k 4 L σ) else (if ((L.1 0)) = (60 : Int32) then (y_X5_level k 4 L σ) else (if ((L.1 0)) = (61 : Int32) then (y_X5_level k 4 L σ) else (if ((L.1 0)) = (62 : Int32) then (y_X5_level k 4 L σ) else (if ((L.1 0)) = (63 : Int32) then (y_X5_level k 4 L σ) else (if ((L.1 0)) = (64 : Int32) then (y_X5_level k 6 L σ) else (if ((L.1 0)) = (65 : Int32) then (y_X5_level k 7 L σ) else (if ((L.1 0)) = (66 : Int32) then (y_X5_level k 4 L σ) else (if ((L.1 0)) = (67 : Int32) then (y_X5_level k 2 L σ) else (if ((L.1 0)) = (68 : Int32) then (y_X5_level k 2 L σ) else (y_X5_level k 4 L σ)))))))))))))))))))))))))))))))))))))))))))))))))))))))))))))))
  | k + 1, 1, L, σ => some (4, σ)
  | k + 1, 2, L, σ => some (5, σ)
  | k + 1, 3, L, σ => some (6, σ)
  | k + 1, 4, L, σ => some ((-1), σ)
  | k + 1, 5, L, σ => some (3, σ)
  | k + 1, 6, L, σ => some (1, σ)
  | k + 1, 7, L, σ => some (0, σ)
  | _ + 1, _ + 8, _, _ => none
def o_y_X5_level : List Cond := []
theorem o_y_X5_level_good : o_y_X5_level.all goodWord = true := by decide +kernel
def p_y_X5_level : List Cond := o_y_X5_level ++ []
theorem p_y_X5_level_good : p_y_X5_level.all goodWord = true := nb_all2 o_y_X5_level_good rfl
def w_y_X5_level : List Cond := .code yX5_level cX5_level 1 (some .int) :: (p_y_X5_level ++ fC)
theorem w_y_X5_level_good : w_y_X5_level.all goodWord = true := nb_allc (by decide +kernel) (nb_all2 p_y_X5_level_good fC_good)
theorem hd_y_X5_level : yX5_level.cls ≠ "java/lang/invoke/MethodHandle" ∧ yX5_level.cls ≠ "java/lang/invoke/VarHandle" ∧ (parseMethodDescriptor yX5_level.desc).map (fun d => d.parameters.length) = some 1 := by decide +kernel
set_option maxHeartbeats 40000000 in
set_option maxRecDepth 100000 in
theorem c_y_X5_level (l : Launch) (dC : Nat → ClassId) (dI : Nat → Nat → Nat) (cy : Nat → ClassId) (a z : Nat → Nat) (k0 : Nat) (L0 : LV) (σ0 : CS) (r0 : Int32 × CS) (h0 : y_X5_level k0 0 L0 σ0 = some r0) (sz : Nat) : Met l yX5_level w_y_X5_level ({ frames := 0, cells := 0, slots := 0, locals := 0 }) (va_Pc [.int (L0.1 0)] (nIn (dC, dI) cy sz (vC cy a z σ0))) (va_Qi (fun (x : Int32) (_ : Unit) => x = r0.1) (fun _ t => nOut (dC, dI) cy (va_A (vC cy a z σ0) sz) (vC cy a z r0.2) t) (va_A (vC cy a z σ0) sz)) 0 0 (va_A (vC cy a z σ0) sz) := by
  refine Met.ofW (cc := cX5_level) (maxL := 1) (ret := (some .int)) (by decide) rfl ?_
  intro p e s m args below meth c s₁ B hml hv
  obtain ⟨rfl, hsz, hP, hK, hD0, hG⟩ := hv
  have hx := B.exec
  have hb := B.bytes
  have hr := B.returns
  have hts := atoms_spec (ws := w_y_X5_level) B.pre
  have hown : s.vm.findClass RX5 = some m.cls := findClass_of_methodNamed B.named
  have hlocks := B.notSynchronized
  subst hsz
  have hD := hD0.self (sz := s.heap.size)
  generalize hAe : va_A (vC cy a z σ0) s.heap.size = A at hD ⊢
  have hA : ∀ q : Nat, s.heap.size ≤ q → A q := fun q h => by rw [← hAe]; exact Or.inr h
  have hS : va_S A s.heap s.heap [] := va_S.rf
  have hl := lv_entry ([.int (L0.1 0)]) (n := 1) (Nat.le_of_ble_eq_true rfl)
  rw [lg_entry_eq]
  generalize (lg_sl ([.int (L0.1 0)]) ++ List.replicate (1 - (lg_sl ([.int (L0.1 0)])).length) Slot.unset).toArray = ls at hl ⊢
  have hl : lv_has ls 1 [(0, .int (L0.1 0))] := hl
  have blk : ∀ k : Nat, (bC p l e (headSpec w_y_X5_level ({ frames := 0, cells := 0, slots := 0, locals := 0 })).room s m #[.int (L0.1 0)] below meth c dC dI cy a z A (kI dC dI cy a z A below #[.int (L0.1 0)] s) 1 (y_X5_level k 0) (fun L => [(0, .int (L.1 0))]) 0 (fun L => [])) ∧ (bC p l e (headSpec w_y_X5_level ({ frames := 0, cells := 0, slots := 0, locals := 0 })).room s m #[.int (L0.1 0)] below meth c dC dI cy a z A (kI dC dI cy a z A below #[.int (L0.1 0)] s) 1 (y_X5_level k 1) (fun L => []) 274 (fun L => [])) ∧ (bC p l e (headSpec w_y_X5_level ({ frames := 0, cells := 0, slots := 0, locals := 0 })).room s m #[.int (L0.1 0)] below meth c dC dI cy a z A (kI dC dI cy a z A below #[.int (L0.1 0)] s) 1 (y_X5_level k 2) (fun L => []) 276 (fun L => [])) ∧ (bC p l e (headSpec w_y_X5_level ({ frames := 0, cells := 0, slots := 0, locals := 0 })).room s m #[.int (L0.1 0)] below meth c dC dI cy a z A (kI dC dI cy a z A below #[.int (L0.1 0)] s) 1 (y_X5_level k 3) (fun L => []) 278 (fun L => [])) ∧ (bC p l e (headSpec w_y_X5_level ({ frames := 0, cells := 0, slots := 0, locals := 0 })).room s m #[.int (L0.1 0)] below meth c dC dI cy a z A (kI dC dI cy a z A below #[.int (L0.1 0)] s) 1 (y_X5_level k 4) (fun L => []) 281 (fun L => [])) ∧ (bC p l e (headSpec w_y_X5_level ({ frames := 0, cells := 0, slots := 0, locals := 0 })).room s m #[.int (L0.1 0)] below meth c dC dI cy a z A (kI dC dI cy a z A below #[.int (L0.1 0)] s) 1 (y_X5_level k 5) (fun L => []) 272 (fun L => [])) ∧ (bC p l e (headSpec w_y_X5_level ({ frames := 0, cells := 0, slots := 0, locals := 0 })).room s m #[.int (L0.1 0)] below meth c dC dI cy a z A (kI dC dI cy a z A below #[.int (L0.1 0)] s) 1 (y_X5_level k 6) (fun L => []) 270 (fun L => [])) ∧ (bC p l e (headSpec w_y_X5_level ({ frames := 0, cells := 0, slots := 0, locals := 0 })).room s m #[.int (L0.1 0)] below meth c dC dI cy a z A (kI dC dI cy a z A below #[.int (L0.1 0)] s) 1 (y_X5_level k 7) (fun L => []) 268 (fun L => [])) := by
    intro k
    induction k with
    | zero => exact ⟨fun L σ r h => (by cases h), fun L σ r h => (by cases h), fun L σ r h => (by cases h), fun L σ r h => (by cases h), fun L σ r h => (by cases h), fun L σ r h => (by cases h), fun L σ r h => (by cases h), fun L σ r h => (by cases h)⟩
    | succ k ih =>
      refine ⟨?_, ?_, ?_, ?_, ?_, ?_, ?_, ?_⟩
      · intro L σ r h H locs ls hP hD hS hl
        rw [y_X5_level] at h
        refine lv_iload_n hx hb dX5_level_0 rfl (lv_at hl 0 rfl) ?_
        by_cases q1 : ((L.1 0)) = (6 : Int32)
        · rw [if_pos q1] at h
          refine lv_tableIn (off := 273) (tgt := 274) hx hb dX5_level_1 (by rw [q1]; decide) (by rw [q1]; decide) (by rw [q1]; decide) (by decide) ?_
          exact ih.2.1 L σ r h H locs ls hP hD hS (lv_sub hl [] rfl)
        · rw [if_neg q1] at h
          by_cases q2 : ((L.1 0)) = (7 : Int32)
          · rw [if_pos q2] at h
            refine lv_tableIn (off := 273) (tgt := 274) hx hb dX5_level_1 (by rw [q2]; decide) (by rw [q2]; decide) (by rw [q2]; decide) (by decide) ?_
            exact ih.2.1 L σ r h H locs ls hP hD hS (lv_sub hl [] rfl)
          · rw [if_neg q2] at h
            by_cases q3 : ((L.1 0)) = (8 : Int32)
            · rw [if_pos q3] at h
              refine lv_tableIn (off := 275) (tgt := 276) hx hb dX5_level_1 (by rw [q3]; decide) (by rw [q3]; decide) (by rw [q3]; decide) (by decide) ?_
              exact ih.2.2.1 L σ r h H locs ls hP hD hS (lv_sub hl [] rfl)
            · rw [if_neg q3] at h
              by_cases q4 : ((L.1 0)) = (9 : Int32)
              · rw [if_pos q4] at h
                refine lv_tableIn (off := 277) (tgt := 278) hx hb dX5_level_1 (by rw [q4]; decide) (by rw [q4]; decide) (by rw [q4]; decide) (by decide) ?_
                exact ih.2.2.2.1 L σ r h H locs ls hP hD hS (lv_sub hl [] rfl)
              · rw [if_neg q4] at h
                by_cases q5 : ((L.1 0)) = (10 : Int32)
                · rw [if_pos q5] at h
                  refine lv_tableIn (off := 280) (tgt := 281) hx hb dX5_level_1 (by rw [q5]; decide) (by rw [q5]; decide) (by rw [q5]; decide) (by decide) ?_
                  exact ih.2.2.2.2.1 L σ r h H locs ls hP hD hS (lv_sub hl [] rfl)
                · rw [if_neg q5] at h
                  by_cases q6 : ((L.1 0)) = (11 : Int32)
                  · rw [if_pos q6] at h
                    refine lv_tableIn (off := 280) (tgt := 281) hx hb dX5_level_1 (by rw [q6]; decide) (by rw [q6]; decide) (by rw [q6]; decide) (by decide) ?_
                    exact ih.2.2.2.2.1 L σ r h H locs ls hP hD hS (lv_sub hl [] rfl)
                  · rw [if_neg q6] at h
                    by_cases q7 : ((L.1 0)) = (12 : Int32)
                    · rw [if_pos q7] at h
                      refine lv_tableIn (off := 280) (tgt := 281) hx hb dX5_level_1 (by rw [q7]; decide) (by rw [q7]; decide) (by rw [q7]; decide) (by decide) ?_
                      exact ih.2.2.2.2.1 L σ r h H locs ls hP hD hS (lv_sub hl [] rfl)
                    · rw [if_neg q7] at h
                      by_cases q8 : ((L.1 0)) = (13 : Int32)
                      · rw [if_pos q8] at h
                        refine lv_tableIn (off := 280) (tgt := 281) hx hb dX5_level_1 (by rw [q8]; decide) (by rw [q8]; decide) (by rw [q8]; decide) (by decide) ?_
                        exact ih.2.2.2.2.1 L σ r h H locs ls hP hD hS (lv_sub hl [] rfl)
                      · rw [if_neg q8] at h
                        by_cases q9 : ((L.1 0)) = (14 : Int32)
                        · rw [if_pos q9] at h
                          refine lv_tableIn (off := 280) (tgt := 281) hx hb dX5_level_1 (by rw [q9]; decide) (by rw [q9]; decide) (by rw [q9]; decide) (by decide) ?_
                          exact ih.2.2.2.2.1 L σ r h H locs ls hP hD hS (lv_sub hl [] rfl)
                        · rw [if_neg q9] at h
                          by_cases q10 : ((L.1 0)) = (15 : Int32)
                          · rw [if_pos q10] at h
                            refine lv_tableIn (off := 280) (tgt := 281) hx hb dX5_level_1 (by rw [q10]; decide) (by rw [q10]; decide) (by rw [q10]; decide) (by decide) ?_
                            exact ih.2.2.2.2.1 L σ r h H locs ls hP hD hS (lv_sub hl [] rfl)
                          · rw [if_neg q10] at h
                            by_cases q11 : ((L.1 0)) = (16 : Int32)
                            · rw [if_pos q11] at h
                              refine lv_tableIn (off := 280) (tgt := 281) hx hb dX5_level_1 (by rw [q11]; decide) (by rw [q11]; decide) (by rw [q11]; decide) (by decide) ?_
                              exact ih.2.2.2.2.1 L σ r h H locs ls hP hD hS (lv_sub hl [] rfl)
                            · rw [if_neg q11] at h
                              by_cases q12 : ((L.1 0)) = (17 : Int32)
                              · rw [if_pos q12] at h
                                refine lv_tableIn (off := 280) (tgt := 281) hx hb dX5_level_1 (by rw [q12]; decide) (by rw [q12]; decide) (by rw [q12]; decide) (by decide) ?_
                                exact ih.2.2.2.2.1 L σ r h H locs ls hP hD hS (lv_sub hl [] rfl)
                              · rw [if_neg q12] at h
                                by_cases q13 : ((L.1 0)) = (18 : Int32)
                                · rw [if_pos q13] at h
                                  refine lv_tableIn (off := 280) (tgt := 281) hx hb dX5_level_1 (by rw [q13]; decide) (by rw [q13]; decide) (by rw [q13]; decide) (by decide) ?_
                                  exact ih.2.2.2.2.1 L σ r h H locs ls hP hD hS (lv_sub hl [] rfl)
                                · rw [if_neg q13] at h
                                  by_cases q14 : ((L.1 0)) = (19 : Int32)
                                  · rw [if_pos q14] at h
                                    refine lv_tableIn (off := 280) (tgt := 281) hx hb dX5_level_1 (by rw [q14]; decide) (by rw [q14]; decide) (by rw [q14]; decide) (by decide) ?_
                                    exact ih.2.2.2.2.1 L σ r h H locs ls hP hD hS (lv_sub hl [] rfl)
                                  · rw [if_neg q14] at h
                                    by_cases q15 : ((L.1 0)) = (20 : Int32)
                                    · rw [if_pos q15] at h
                                      refine lv_tableIn (off := 271) (tgt := 272) hx hb dX5_level_1 (by rw [q15]; decide) (by rw [q15]; decide) (by rw [q15]; decide) (by decide) ?_
                                      exact ih.2.2.2.2.2.1 L σ r h H locs ls hP hD hS (lv_sub hl [] rfl)
                                    · rw [if_neg q15] at h
                                      by_cases q16 : ((L.1 0)) = (21 : Int32)
                                      · rw [if_pos q16] at h
                                        refine lv_tableIn (off := 271) (tgt := 272) hx hb dX5_level_1 (by rw [q16]; decide) (by rw [q16]; decide) (by rw [q16]; decide) (by decide) ?_
                                        exact ih.2.2.2.2.2.1 L σ r h H locs ls hP hD hS (lv_sub hl [] rfl)
                                      · rw [if_neg q16] at h
                                        by_cases q17 : ((L.1 0)) = (22 : Int32)
                                        · rw [if_pos q17] at h
                                          refine lv_tableIn (off := 271) (tgt := 272) hx hb dX5_level_1 (by rw [q17]; decide) (by rw [q17]; decide) (by rw [q17]; decide) (by decide) ?_
                                          exact ih.2.2.2.2.2.1 L σ r h H locs ls hP hD hS (lv_sub hl [] rfl)
                                        · rw [if_neg q17] at h
                                          by_cases q18 : ((L.1 0)) = (23 : Int32)
                                          · rw [if_pos q18] at h
                                            refine lv_tableIn (off := 271) (tgt := 272) hx hb dX5_level_1 (by rw [q18]; decide) (by rw [q18]; decide) (by rw [q18]; decide) (by decide) ?_
                                            exact ih.2.2.2.2.2.1 L σ r h H locs ls hP hD hS (lv_sub hl [] rfl)
                                          · rw [if_neg q18] at h
                                            by_cases q19 : ((L.1 0)) = (24 : Int32)
                                            · rw [if_pos q19] at h
                                              refine lv_tableIn (off := 271) (tgt := 272) hx hb dX5_level_1 (by rw [q19]; decide) (by rw [q19]; decide) (by rw [q19]; decide) (by decide) ?_
                                              exact ih.2.2.2.2.2.1 L σ r h H locs ls hP hD hS (lv_sub hl [] rfl)
                                            · rw [if_neg q19] at h
                                              by_cases q20 : ((L.1 0)) = (25 : Int32)
                                              · rw [if_pos q20] at h
                                                refine lv_tableIn (off := 271) (tgt := 272) hx hb dX5_level_1 (by rw [q20]; decide) (by rw [q20]; decide) (by rw [q20]; decide) (by decide) ?_
                                                exact ih.2.2.2.2.2.1 L σ r h H locs ls hP hD hS (lv_sub hl [] rfl)
                                              · rw [if_neg q20] at h
                                                by_cases q21 : ((L.1 0)) = (26 : Int32)
                                                · rw [if_pos q21] at h
                                                  refine lv_tableIn (off := 280) (tgt := 281) hx hb dX5_level_1 (by rw [q21]; decide) (by rw [q21]; decide) (by rw [q21]; decide) (by decide) ?_
                                                  exact ih.2.2.2.2.1 L σ r h H locs ls hP hD hS (lv_sub hl [] rfl)
                                                · rw [if_neg q21] at h
                                                  by_cases q22 : ((L.1 0)) = (27 : Int32)
                                                  · rw [if_pos q22] at h
                                                    refine lv_tableIn (off := 280) (tgt := 281) hx hb dX5_level_1 (by rw [q22]; decide) (by rw [q22]; decide) (by rw [q22]; decide) (by decide) ?_
                                                    exact ih.2.2.2.2.1 L σ r h H locs ls hP hD hS (lv_sub hl [] rfl)
                                                  · rw [if_neg q22] at h
                                                    by_cases q23 : ((L.1 0)) = (28 : Int32)
                                                    · rw [if_pos q23] at h
                                                      refine lv_tableIn (off := 280) (tgt := 281) hx hb dX5_level_1 (by rw [q23]; decide) (by rw [q23]; decide) (by rw [q23]; decide) (by decide) ?_
                                                      exact ih.2.2.2.2.1 L σ r h H locs ls hP hD hS (lv_sub hl [] rfl)
                                                    · rw [if_neg q23] at h
                                                      by_cases q24 : ((L.1 0)) = (29 : Int32)
                                                      · rw [if_pos q24] at h
                                                        refine lv_tableIn (off := 280) (tgt := 281) hx hb dX5_level_1 (by rw [q24]; decide) (by rw [q24]; decide) (by rw [q24]; decide) (by decide) ?_
                                                        exact ih.2.2.2.2.1 L σ r h H locs ls hP hD hS (lv_sub hl [] rfl)
                                                      · rw [if_neg q24] at h
                                                        by_cases q25 : ((L.1 0)) = (30 : Int32)
                                                        · rw [if_pos q25] at h
                                                          refine lv_tableIn (off := 280) (tgt := 281) hx hb dX5_level_1 (by rw [q25]; decide) (by rw [q25]; decide) (by rw [q25]; decide) (by decide) ?_
                                                          exact ih.2.2.2.2.1 L σ r h H locs ls hP hD hS (lv_sub hl [] rfl)
                                                        · rw [if_neg q25] at h
                                                          by_cases q26 : ((L.1 0)) = (31 : Int32)
                                                          · rw [if_pos q26] at h
                                                            refine lv_tableIn (off := 280) (tgt := 281) hx hb dX5_level_1 (by rw [q26]; decide) (by rw [q26]; decide) (by rw [q26]; decide) (by decide) ?_
                                                            exact ih.2.2.2.2.1 L σ r h H locs ls hP hD hS (lv_sub hl [] rfl)
                                                          · rw [if_neg q26] at h
                                                            by_cases q27 : ((L.1 0)) = (32 : Int32)
                                                            · rw [if_pos q27] at h
                                                              refine lv_tableIn (off := 280) (tgt := 281) hx hb dX5_level_1 (by rw [q27]; decide) (by rw [q27]; decide) (by rw [q27]; decide) (by decide) ?_
                                                              exact ih.2.2.2.2.1 L σ r h H locs ls hP hD hS (lv_sub hl [] rfl)
                                                            · rw [if_neg q27] at h
                                                              by_cases q28 : ((L.1 0)) = (33 : Int32)
                                                              · rw [if_pos q28] at h
                                                                refine lv_tableIn (off := 280) (tgt := 281) hx hb dX5_level_1 (by rw [q28]; decide) (by rw [q28]; decide) (by rw [q28]; decide) (by decide) ?_
                                                                exact ih.2.2.2.2.1 L σ r h H locs ls hP hD hS (lv_sub hl [] rfl)
                                                              · rw [if_neg q28] at h
                                                                by_cases q29 : ((L.1 0)) = (34 : Int32)
                                                                · rw [if_pos q29] at h
                                                                  refine lv_tableIn (off := 280) (tgt := 281) hx hb dX5_level_1 (by rw [q29]; decide) (by rw [q29]; decide) (by rw [q29]; decide) (by decide) ?_
                                                                  exact ih.2.2.2.2.1 L σ r h H locs ls hP hD hS (lv_sub hl [] rfl)
                                                                · rw [if_neg q29] at h
                                                                  by_cases q30 : ((L.1 0)) = (35 : Int32)
                                                                  · rw [if_pos q30] at h
                                                                    refine lv_tableIn (off := 280) (tgt := 281) hx hb dX5_level_1 (by rw [q30]; decide) (by rw [q30]; decide) (by rw [q30]; decide) (by decide) ?_
                                                                    exact ih.2.2.2.2.1 L σ r h H locs ls hP hD hS (lv_sub hl [] rfl)
                                                                  · rw [if_neg q30] at h
                                                                    by_cases q31 : ((L.1 0)) = (36 : Int32)
                                                                    · rw [if_pos q31] at h
                                                                      refine lv_tableIn (off := 280) (tgt := 281) hx hb dX5_level_1 (by rw [q31]; decide) (by rw [q31]; decide) (by rw [q31]; decide) (by decide) ?_
                                                                      exact ih.2.2.2.2.1 L σ r h H locs ls hP hD hS (lv_sub hl [] rfl)
                                                                    · rw [if_neg q31] at h
                                                                      by_cases q32 : ((L.1 0)) = (37 : Int32)
                                                                      · rw [if_pos q32] at h
                                                                        refine lv_tableIn (off := 280) (tgt := 281) hx hb dX5_level_1 (by rw [q32]; decide) (by rw [q32]; decide) (by rw [q32]; decide) (by decide) ?_
                                                                        exact ih.2.2.2.2.1 L σ r h H locs ls hP hD hS (lv_sub hl [] rfl)
                                                                      · rw [if_neg q32] at h
                                                                        by_cases q33 : ((L.1 0)) = (38 : Int32)
                                                                        · rw [if_pos q33] at h
                                                                          refine lv_tableIn (off := 280) (tgt := 281) hx hb dX5_level_1 (by rw [q33]; decide) (by rw [q33]; decide) (by rw [q33]; decide) (by decide) ?_
                                                                          exact ih.2.2.2.2.1 L σ r h H locs ls hP hD hS (lv_sub hl [] rfl)
                                                                        · rw [if_neg q33] at h
                                                                          by_cases q34 : ((L.1 0)) = (39 : Int32)
                                                                          · rw [if_pos q34] at h
                                                                            refine lv_tableIn (off := 280) (tgt := 281) hx hb dX5_level_1 (by rw [q34]; decide) (by rw [q34]; decide) (by rw [q34]; decide) (by decide) ?_
                                                                            exact ih.2.2.2.2.1 L σ r h H locs ls hP hD hS (lv_sub hl [] rfl)
                                                                          · rw [if_neg q34] at h
                                                                            by_cases q35 : ((L.1 0)) = (40 : Int32)
                                                                            · rw [if_pos q35] at h
                                                                              refine lv_tableIn (off := 280) (tgt := 281) hx hb dX5_level_1 (by rw [q35]; decide) (by rw [q35]; decide) (by rw [q35]; decide) (by decide) ?_
                                                                              exact ih.2.2.2.2.1 L σ r h H locs ls hP hD hS (lv_sub hl [] rfl)
                                                                            · rw [if_neg q35] at h
                                                                              by_cases q36 : ((L.1 0)) = (41 : Int32)
                                                                              · rw [if_pos q36] at h
                                                                                refine lv_tableIn (off := 280) (tgt := 281) hx hb dX5_level_1 (by rw [q36]; decide) (by rw [q36]; decide) (by rw [q36]; decide) (by decide) ?_
                                                                                exact ih.2.2.2.2.1 L σ r h H locs ls hP hD hS (lv_sub hl [] rfl)
                                                                              · rw [if_neg q36] at h
                                                                                by_cases q37 : ((L.1 0)) = (42 : Int32)
                                                                                · rw [if_pos q37] at h
                                                                                  refine lv_tableIn (off := 280) (tgt := 281) hx hb dX5_level_1 (by rw [q37]; decide) (by rw [q37]; decide) (by rw [q37]; decide) (by decide) ?_
                                                                                  exact ih.2.2.2.2.1 L σ r h H locs ls hP hD hS (lv_sub hl [] rfl)
                                                                                · rw [if_neg q37] at h
                                                                                  by_cases q38 : ((L.1 0)) = (43 : Int32)
                                                                                  · rw [if_pos q38] at h
                                                                                    refine lv_tableIn (off := 280) (tgt := 281) hx hb dX5_level_1 (by rw [q38]; decide) (by rw [q38]; decide) (by rw [q38]; decide) (by decide) ?_
                                                                                    exact ih.2.2.2.2.1 L σ r h H locs ls hP hD hS (lv_sub hl [] rfl)
                                                                                  · rw [if_neg q38] at h
                                                                                    by_cases q39 : ((L.1 0)) = (44 : Int32)
                                                                                    · rw [if_pos q39] at h
                                                                                      refine lv_tableIn (off := 280) (tgt := 281) hx hb dX5_level_1 (by rw [q39]; decide) (by rw [q39]; decide) (by rw [q39]; decide) (by decide) ?_
                                                                                      exact ih.2.2.2.2.1 L σ r h H locs ls hP hD hS (lv_sub hl [] rfl)
                                                                                    · rw [if_neg q39] at h
                                                                                      by_cases q40 : ((L.1 0)) = (45 : Int32)
                                                                                      · rw [if_pos q40] at h
                                                                                        refine lv_tableIn (off := 280) (tgt := 281) hx hb dX5_level_1 (by rw [q40]; decide) (by rw [q40]; decide) (by rw [q40]; decide) (by decide) ?_
                                                                                        exact ih.2.2.2.2.1 L σ r h H locs ls hP hD hS (lv_sub hl [] rfl)
                                                                                      · rw [if_neg q40] at h
                                                                                        by_cases q41 : ((L.1 0)) = (46 : Int32)
                                                                                        · rw [if_pos q41] at h
                                                                                          refine lv_tableIn (off := 271) (tgt := 272) hx hb dX5_level_1 (by rw [q41]; decide) (by rw [q41]; decide) (by rw [q41]; decide) (by decide) ?_
                                                                                          exact ih.2.2.2.2.2.1 L σ r h H locs ls hP hD hS (lv_sub hl [] rfl)
                                                                                        · rw [if_neg q41] at h
                                                                                          by_cases q42 : ((L.1 0)) = (47 : Int32)
                                                                                          · rw [if_pos q42] at h
                                                                                            refine lv_tableIn (off := 271) (tgt := 272) hx hb dX5_level_1 (by rw [q42]; decide) (by rw [q42]; decide) (by rw [q42]; decide) (by decide) ?_
                                                                                            exact ih.2.2.2.2.2.1 L σ r h H locs ls hP hD hS (lv_sub hl [] rfl)
                                                                                          · rw [if_neg q42] at h
                                                                                            by_cases q43 : ((L.1 0)) = (48 : Int32)
                                                                                            · rw [if_pos q43] at h
                                                                                              refine lv_tableIn (off := 271) (tgt := 272) hx hb dX5_level_1 (by rw [q43]; decide) (by rw [q43]; decide) (by rw [q43]; decide) (by decide) ?_
                                                                                              exact ih.2.2.2.2.2.1 L σ r h H locs ls hP hD hS (lv_sub hl [] rfl)
                                                                                            · rw [if_neg q43] at h
                                                                                              by_cases q44 : ((L.1 0)) = (49 : Int32)
                                                                                              · rw [if_pos q44] at h
                                                                                                refine lv_tableIn (off := 280) (tgt := 281) hx hb dX5_level_1 (by rw [q44]; decide) (by rw [q44]; decide) (by rw [q44]; decide) (by decide) ?_
                                                                                                exact ih.2.2.2.2.1 L σ r h H locs ls hP hD hS (lv_sub hl [] rfl)
                                                                                              · rw [if_neg q44] at h
                                                                                                by_cases q45 : ((L.1 0)) = (50 : Int32)
                                                                                                · rw [if_pos q45] at h
                                                                                                  refine lv_tableIn (off := 280) (tgt := 281) hx hb dX5_level_1 (by rw [q45]; decide) (by rw [q45]; decide) (by rw [q45]; decide) (by decide) ?_
                                                                                                  exact ih.2.2.2.2.1 L σ r h H locs ls hP hD hS (lv_sub hl [] rfl)
                                                                                                · rw [if_neg q45] at h
                                                                                                  by_cases q46 : ((L.1 0)) = (51 : Int32)
                                                                                                  · rw [if_pos q46] at h
                                                                                                    refine lv_tableIn (off := 280) (tgt := 281) hx hb dX5_level_1 (by rw [q46]; decide) (by rw [q46]; decide) (by rw [q46]; decide) (by decide) ?_
                                                                                                    exact ih.2.2.2.2.1 L σ r h H locs ls hP hD hS (lv_sub hl [] rfl)
                                                                                                  · rw [if_neg q46] at h
                                                                                                    by_cases q47 : ((L.1 0)) = (52 : Int32)
                                                                                                    · rw [if_pos q47] at h
                                                                                                      refine lv_tableIn (off := 280) (tgt := 281) hx hb dX5_level_1 (by rw [q47]; decide) (by rw [q47]; decide) (by rw [q47]; decide) (by decide) ?_
                                                                                                      exact ih.2.2.2.2.1 L σ r h H locs ls hP hD hS (lv_sub hl [] rfl)
                                                                                                    · rw [if_neg q47] at h
                                                                                                      by_cases q48 : ((L.1 0)) = (53 : Int32)
                                                                                                      · rw [if_pos q48] at h
                                                                                                        refine lv_tableIn (off := 280) (tgt := 281) hx hb dX5_level_1 (by rw [q48]; decide) (by rw [q48]; decide) (by rw [q48]; decide) (by decide) ?_
                                                                                                        exact ih.2.2.2.2.1 L σ r h H locs ls hP hD hS (lv_sub hl [] rfl)
                                                                                                      · rw [if_neg q48] at h
                                                                                                        by_cases q49 : ((L.1 0)) = (54 : Int32)
                                                                                                        · rw [if_pos q49] at h
                                                                                                          refine lv_tableIn (off := 280) (tgt := 281) hx hb dX5_level_1 (by rw [q49]; decide) (by rw [q49]; decide) (by rw [q49]; decide) (by decide) ?_
                                                                                                          exact ih.2.2.2.2.1 L σ r h H locs ls hP hD hS (lv_sub hl [] rfl)
                                                                                                        · rw [if_neg q49] at h
                                                                                                          by_cases q50 : ((L.1 0)) = (55 : Int32)
                                                                                                          · rw [if_pos q50] at h
                                                                                                            refine lv_tableIn (off := 280) (tgt := 281) hx hb dX5_level_1 (by rw [q50]; decide) (by rw [q50]; decide) (by rw [q50]; decide) (by decide) ?_
                                                                                                            exact ih.2.2.2.2.1 L σ r h H locs ls hP hD hS (lv_sub hl [] rfl)
                                                                                                          · rw [if_neg q50] at h
                                                                                                            by_cases q51 : ((L.1 0)) = (56 : Int32)
                                                                                                            · rw [if_pos q51] at h
                                                                                                              refine lv_tableIn (off := 280) (tgt := 281) hx hb dX5_level_1 (by rw [q51]; decide) (by rw [q51]; decide) (by rw [q51]; decide) (by decide) ?_
                                                                                                              exact ih.2.2.2.2.1 L σ r h H locs ls hP hD hS (lv_sub hl [] rfl)
                                                                                                            · rw [if_neg q51] at h
                                                                                                              by_cases q52 : ((L.1 0)) = (57 : Int32)
                                                                                                              · rw [if_pos q52] at h
                                                                                                                refine lv_tableIn (off := 280) (tgt := 281) hx hb dX5_level_1 (by rw [q52]; decide) (by rw [q52]; decide) (by rw [q52]; decide) (by decide) ?_
                                                                                                                exact ih.2.2.2.2.1 L σ r h H locs ls hP hD hS (lv_sub hl [] rfl)
                                                                                                              · rw [if_neg q52] at h
                                                                                                                by_cases q53 : ((L.1 0)) = (58 : Int32)
                                                                                                                · rw [if_pos q53] at h
                                                                                                                  refine lv_tableIn (off := 280) (tgt := 281) hx hb dX5_level_1 (by rw [q53]; decide) (by rw [q53]; decide) (by rw [q53]; decide) (by decide) ?_
                                                                                                                  exact ih.2.2.2.2.1 L σ r h H locs ls hP hD hS (lv_sub hl [] rfl)
                                                                                                                · rw [if_neg q53] at h
                                                                                                                  by_cases q54 : ((L.1 0)) = (59 : Int32)
                                                                                                                  · rw [if_pos q54] at h
                                                                                                                    refine lv_tableIn (off := 280) (tgt := 281) hx hb dX5_level_1 (by rw [q54]; decide) (by rw [q54]; decide) (by rw [q54]; decide) (by decide) ?_
                                                                                                                    exact ih.2.2.2.2.1 L σ r h H locs ls hP hD hS (lv_sub hl [] rfl)
                                                                                                                  · rw [if_neg q54] at h
                                                                                                                    by_cases q55 : ((L.1 0)) = (60 : Int32)
                                                                                                                    · rw [if_pos q55] at h
                                                                                                                      refine lv_tableIn (off := 280) (tgt := 281) hx hb dX5_level_1 (by rw [q55]; decide) (by rw [q55]; decide) (by rw [q55]; decide) (by decide) ?_
                                                                                                                      exact ih.2.2.2.2.1 L σ r h H locs ls hP hD hS (lv_sub hl [] rfl)
                                                                                                                    · rw [if_neg q55] at h
                                                                                                                      by_cases q56 : ((L.1 0)) = (61 : Int32)
                                                                                                                      · rw [if_pos q56] at h
                                                                                                                        refine lv_tableIn (off := 280) (tgt := 281) hx hb dX5_level_1 (by rw [q56]; decide) (by rw [q56]; decide) (by rw [q56]; decide) (by decide) ?_
                                                                                                                        exact ih.2.2.2.2.1 L σ r h H locs ls hP hD hS (lv_sub hl [] rfl)
                                                                                                                      · rw [if_neg q56] at h
                                                                                                                        by_cases q57 : ((L.1 0)) = (62 : Int32)
                                                                                                                        · rw [if_pos q57] at h
                                                                                                                          refine lv_tableIn (off := 280) (tgt := 281) hx hb dX5_level_1 (by rw [q57]; decide) (by rw [q57]; decide) (by rw [q57]; decide) (by decide) ?_
                                                                                                                          exact ih.2.2.2.2.1 L σ r h H locs ls hP hD hS (lv_sub hl [] rfl)
                                                                                                                        · rw [if_neg q57] at h
                                                                                                                          by_cases q58 : ((L.1 0)) = (63 : Int32)
                                                                                                                          · rw [if_pos q58] at h
                                                                                                                            refine lv_tableIn (off := 280) (tgt := 281) hx hb dX5_level_1 (by rw [q58]; decide) (by rw [q58]; decide) (by rw [q58]; decide) (by decide) ?_
                                                                                                                            exact ih.2.2.2.2.1 L σ r h H locs ls hP hD hS (lv_sub hl [] rfl)
                                                                                                                          · rw [if_neg q58] at h
                                                                                                                            by_cases q59 : ((L.1 0)) = (64 : Int32)
                                                                                                                            · rw [if_pos q59] at h
                                                                                                                              refine lv_tableIn (off := 269) (tgt := 270) hx hb dX5_level_1 (by rw [q59]; decide) (by rw [q59]; decide) (by rw [q59]; decide) (by decide) ?_
                                                                                                                              exact ih.2.2.2.2.2.2.1 L σ r h H locs ls hP hD hS (lv_sub hl [] rfl)
                                                                                                                            · rw [if_neg q59] at h
                                                                                                                              by_cases q60 : ((L.1 0)) = (65 : Int32)
                                                                                                                              · rw [if_pos q60] at h
                                                                                                                                refine lv_tableIn (off := 267) (tgt := 268) hx hb dX5_level_1 (by rw [q60]; decide) (by rw [q60]; decide) (by rw [q60]; decide) (by decide) ?_
                                                                                                                                exact ih.2.2.2.2.2.2.2 L σ r h H locs ls hP hD hS (lv_sub hl [] rfl)
                                                                                                                              · rw [if_neg q60] at h
                                                                                                                                by_cases q61 : ((L.1 0)) = (66 : Int32)
                                                                                                                                · rw [if_pos q61] at h
                                                                                                                                  refine lv_tableIn (off := 280) (tgt := 281) hx hb dX5_level_1 (by rw [q61]; decide) (by rw [q61]; decide) (by rw [q61]; decide) (by decide) ?_
                                                                                                                                  exact ih.2.2.2.2.1 L σ r h H locs ls hP hD hS (lv_sub hl [] rfl)
                                                                                                                                · rw [if_neg q61] at h
                                                                                                                                  by_cases q62 : ((L.1 0)) = (67 : Int32)
                                                                                                                                  · rw [if_pos q62] at h
                                                                                                                                    refine lv_tableIn (off := 275) (tgt := 276) hx hb dX5_level_1 (by rw [q62]; decide) (by rw [q62]; decide) (by rw [q62]; decide) (by decide) ?_
                                                                                                                                    exact ih.2.2.1 L σ r h H locs ls hP hD hS (lv_sub hl [] rfl)
                                                                                                                                  · rw [if_neg q62] at h
                                                                                                                                    by_cases q63 : ((L.1 0)) = (68 : Int32)
                                                                                                                                    · rw [if_pos q63] at h
                                                                                                                                      refine lv_tableIn (off := 275) (tgt := 276) hx hb dX5_level_1 (by rw [q63]; decide) (by rw [q63]; decide) (by rw [q63]; decide) (by decide) ?_
                                                                                                                                      exact ih.2.2.1 L σ r h H locs ls hP hD hS (lv_sub hl [] rfl)
                                                                                                                                    · rw [if_neg q63] at h
                                                                                                                                      have nq1 : ¬ ((L.1 0)).toInt = 6 := nb_ti q1 rfl
                                                                                                                                      have nq2 : ¬ ((L.1 0)).toInt = 7 := nb_ti q2 rfl
                                                                                                                                      have nq3 : ¬ ((L.1 0)).toInt = 8 := nb_ti q3 rfl
                                                                                                                                      have nq4 : ¬ ((L.1 0)).toInt = 9 := nb_ti q4 rfl
                                                                                                                                      have nq5 : ¬ ((L.1 0)).toInt = 10 := nb_ti q5 rfl
                                                                                                                                      have nq6 : ¬ ((L.1 0)).toInt = 11 := nb_ti q6 rfl
                                                                                                                                      have nq7 : ¬ ((L.1 0)).toInt = 12 := nb_ti q7 rfl
                                                                                                                                      have nq8 : ¬ ((L.1 0)).toInt = 13 := nb_ti q8 rfl
                                                                                                                                      have nq9 : ¬ ((L.1 0)).toInt = 14 := nb_ti q9 rfl
                                                                                                                                      have nq10 : ¬ ((L.1 0)).toInt = 15 := nb_ti q10 rfl
                                                                                                                                      have nq11 : ¬ ((L.1 0)).toInt = 16 := nb_ti q11 rfl
                                                                                                                                      have nq12 : ¬ ((L.1 0)).toInt = 17 := nb_ti q12 rfl
                                                                                                                                      have nq13 : ¬ ((L.1 0)).toInt = 18 := nb_ti q13 rfl
                                                                                                                                      have nq14 : ¬ ((L.1 0)).toInt = 19 := nb_ti q14 rfl
                                                                                                                                      have nq15 : ¬ ((L.1 0)).toInt = 20 := nb_ti q15 rfl
                                                                                                                                      have nq16 : ¬ ((L.1 0)).toInt = 21 := nb_ti q16 rfl
                                                                                                                                      have nq17 : ¬ ((L.1 0)).toInt = 22 := nb_ti q17 rfl
                                                                                                                                      have nq18 : ¬ ((L.1 0)).toInt = 23 := nb_ti q18 rfl
                                                                                                                                      have nq19 : ¬ ((L.1 0)).toInt = 24 := nb_ti q19 rfl
                                                                                                                                      have nq20 : ¬ ((L.1 0)).toInt = 25 := nb_ti q20 rfl
                                                                                                                                      have nq21 : ¬ ((L.1 0)).toInt = 26 := nb_ti q21 rfl
                                                                                                                                      have nq22 : ¬ ((L.1 0)).toInt = 27 := nb_ti q22 rfl
                                                                                                                                      have nq23 : ¬ ((L.1 0)).toInt = 28 := nb_ti q23 rfl
                                                                                                                                      have nq24 : ¬ ((L.1 0)).toInt = 29 := nb_ti q24 rfl
                                                                                                                                      have nq25 : ¬ ((L.1 0)).toInt = 30 := nb_ti q25 rfl
                                                                                                                                      have nq26 : ¬ ((L.1 0)).toInt = 31 := nb_ti q26 rfl
                                                                                                                                      have nq27 : ¬ ((L.1 0)).toInt = 32 := nb_ti q27 rfl
                                                                                                                                      have nq28 : ¬ ((L.1 0)).toInt = 33 := nb_ti q28 rfl
                                                                                                                                      have nq29 : ¬ ((L.1 0)).toInt = 34 := nb_ti q29 rfl
                                                                                                                                      have nq30 : ¬ ((L.1 0)).toInt = 35 := nb_ti q30 rfl
                                                                                                                                      have nq31 : ¬ ((L.1 0)).toInt = 36 := nb_ti q31 rfl
                                                                                                                                      have nq32 : ¬ ((L.1 0)).toInt = 37 := nb_ti q32 rfl
                                                                                                                                      have nq33 : ¬ ((L.1 0)).toInt = 38 := nb_ti q33 rfl
                                                                                                                                      have nq34 : ¬ ((L.1 0)).toInt = 39 := nb_ti q34 rfl
                                                                                                                                      have nq35 : ¬ ((L.1 0)).toInt = 40 := nb_ti q35 rfl
                                                                                                                                      have nq36 : ¬ ((L.1 0)).toInt = 41 := nb_ti q36 rfl
                                                                                                                                      have nq37 : ¬ ((L.1 0)).toInt = 42 := nb_ti q37 rfl
                                                                                                                                      have nq38 : ¬ ((L.1 0)).toInt = 43 := nb_ti q38 rfl
                                                                                                                                      have nq39 : ¬ ((L.1 0)).toInt = 44 := nb_ti q39 rfl
                                                                                                                                      have nq40 : ¬ ((L.1 0)).toInt = 45 := nb_ti q40 rfl
                                                                                                                                      have nq41 : ¬ ((L.1 0)).toInt = 46 := nb_ti q41 rfl
                                                                                                                                      have nq42 : ¬ ((L.1 0)).toInt = 47 := nb_ti q42 rfl
                                                                                                                                      have nq43 : ¬ ((L.1 0)).toInt = 48 := nb_ti q43 rfl
                                                                                                                                      have nq44 : ¬ ((L.1 0)).toInt = 49 := nb_ti q44 rfl
                                                                                                                                      have nq45 : ¬ ((L.1 0)).toInt = 50 := nb_ti q45 rfl
                                                                                                                                      have nq46 : ¬ ((L.1 0)).toInt = 51 := nb_ti q46 rfl
                                                                                                                                      have nq47 : ¬ ((L.1 0)).toInt = 52 := nb_ti q47 rfl
                                                                                                                                      have nq48 : ¬ ((L.1 0)).toInt = 53 := nb_ti q48 rfl
                                                                                                                                      have nq49 : ¬ ((L.1 0)).toInt = 54 := nb_ti q49 rfl
                                                                                                                                      have nq50 : ¬ ((L.1 0)).toInt = 55 := nb_ti q50 rfl
                                                                                                                                      have nq51 : ¬ ((L.1 0)).toInt = 56 := nb_ti q51 rfl
                                                                                                                                      have nq52 : ¬ ((L.1 0)).toInt = 57 := nb_ti q52 rfl
                                                                                                                                      have nq53 : ¬ ((L.1 0)).toInt = 58 := nb_ti q53 rfl
                                                                                                                                      have nq54 : ¬ ((L.1 0)).toInt = 59 := nb_ti q54 rfl
                                                                                                                                      have nq55 : ¬ ((L.1 0)).toInt = 60 := nb_ti q55 rfl
                                                                                                                                      have nq56 : ¬ ((L.1 0)).toInt = 61 := nb_ti q56 rfl
                                                                                                                                      have nq57 : ¬ ((L.1 0)).toInt = 62 := nb_ti q57 rfl
                                                                                                                                      have nq58 : ¬ ((L.1 0)).toInt = 63 := nb_ti q58 rfl
                                                                                                                                      have nq59 : ¬ ((L.1 0)).toInt = 64 := nb_ti q59 rfl
                                                                                                                                      have nq60 : ¬ ((L.1 0)).toInt = 65 := nb_ti q60 rfl
                                                                                                                                      have nq61 : ¬ ((L.1 0)).toInt = 66 := nb_ti q61 rfl
                                                                                                                                      have nq62 : ¬ ((L.1 0)).toInt = 67 := nb_ti q62 rfl
                                                                                                                                      have nq63 : ¬ ((L.1 0)).toInt = 68 := nb_ti q63 rfl
                                                                                                                                      refine lv_tableOut (tgt := 281) hx hb dX5_level_1 (by omega) (by decide) ?_
                                                                                                                                      exact ih.2.2.2.2.1 L σ r h H locs ls hP hD hS (lv_sub hl [] rfl)
      · intro L σ r h H locs ls hP hD hS hl
        rw [y_X5_level] at h
        refine lv_iconst (v := 4) hx hb dX5_level_274 (by decide) ?_
        obtain rfl := Option.some.inj h
        exact W.iret (v := 4) hx hb hr (fun t ht hW => ⟨⟨4, (), rfl, rfl, by rw [ht]; exact hP, va_K.moved hW.alike hK, hD⟩, hS.F ht⟩) hS.2.2 dX5_level_275
      · intro L σ r h H locs ls hP hD hS hl
        rw [y_X5_level] at h
        refine lv_iconst (v := 5) hx hb dX5_level_276 (by decide) ?_
        obtain rfl := Option.some.inj h
        exact W.iret (v := 5) hx hb hr (fun t ht hW => ⟨⟨5, (), rfl, rfl, by rw [ht]; exact hP, va_K.moved hW.alike hK, hD⟩, hS.F ht⟩) hS.2.2 dX5_level_277
      · intro L σ r h H locs ls hP hD hS hl
        rw [y_X5_level] at h
        refine lv_bipush (v := 6) hx hb dX5_level_278 (by decide) ?_
        obtain rfl := Option.some.inj h
        exact W.iret (v := 6) hx hb hr (fun t ht hW => ⟨⟨6, (), rfl, rfl, by rw [ht]; exact hP, va_K.moved hW.alike hK, hD⟩, hS.F ht⟩) hS.2.2 dX5_level_280
      · intro L σ r h H locs ls hP hD hS hl
        rw [y_X5_level] at h
        refine lv_iconst (v := (-1)) hx hb dX5_level_281 (by decide) ?_
        obtain rfl := Option.some.inj h
        exact W.iret (v := (-1)) hx hb hr (fun t ht hW => ⟨⟨(-1), (), rfl, rfl, by rw [ht]; exact hP, va_K.moved hW.alike hK, hD⟩, hS.F ht⟩) hS.2.2 dX5_level_282
      · intro L σ r h H locs ls hP hD hS hl
        rw [y_X5_level] at h
        refine lv_iconst (v := 3) hx hb dX5_level_272 (by decide) ?_
        obtain rfl := Option.some.inj h
        exact W.iret (v := 3) hx hb hr (fun t ht hW => ⟨⟨3, (), rfl, rfl, by rw [ht]; exact hP, va_K.moved hW.alike hK, hD⟩, hS.F ht⟩) hS.2.2 dX5_level_273
      · intro L σ r h H locs ls hP hD hS hl
        rw [y_X5_level] at h
        refine lv_iconst (v := 1) hx hb dX5_level_270 (by decide) ?_
        obtain rfl := Option.some.inj h
        exact W.iret (v := 1) hx hb hr (fun t ht hW => ⟨⟨1, (), rfl, rfl, by rw [ht]; exact hP, va_K.moved hW.alike hK, hD⟩, hS.F ht⟩) hS.2.2 dX5_level_271
      · intro L σ r h H locs ls hP hD hS hl
        rw [y_X5_level] at h
        refine lv_iconst (v := 0) hx hb dX5_level_268 (by decide) ?_
        obtain rfl := Option.some.inj h
        exact W.iret (v := 0) hx hb hr (fun t ht hW => ⟨⟨0, (), rfl, rfl, by rw [ht]; exact hP, va_K.moved hW.alike hK, hD⟩, hS.F ht⟩) hS.2.2 dX5_level_269
  exact (blk k0).1 L0 σ0 r0 h0 s.heap [] ls hP hD hS hl

/-! X3_enter -/
def f_X3_enter : Nat → Nat → LV → CS → Option RS
  | 0, _, _, _ => none
  | k + 1, 0, L, σ => oP (sPr σ) (fun b1 => if ¬ (((L.1 1)) < 0 ∨ 42 ≤ ((L.1 1)).toNatClampNeg) then (op (y_X11_raw k 0 (lI lZ 0 ((L.1 2))) σ) (fun r3 => if ¬ (((((((σ.1 1902)) - ((σ.2.2.1 (pR14 b1) ((L.1 1)).toNatClampNeg)))) - 4)) < 0 ∨ (sN r3.2 20) ≤ ((((((σ.1 1902)) - ((σ.2.2.1 (pR14 b1) ((L.1 1)).toNatClampNeg)))) - 4)).toNatClampNeg) then (op (y_X11_raw k 0 (lI lZ 0 (((uA r3.2 20 ((((((σ.1 1902)) - ((σ.2.2.1 (pR14 b1) ((L.1 1)).toNatClampNeg)))) - 4)).toNatClampNeg r3.1).1 1901))) (uA r3.2 20 ((((((σ.1 1902)) - ((σ.2.2.1 (pR14 b1) ((L.1 1)).toNatClampNeg)))) - 4)).toNatClampNeg r3.1)) (fun r5 => f_X3_enter k 1 (lI (lI (lI L 5 ((((((σ.1 1902)) - ((σ.2.2.1 (pR14 b1) ((L.1 1)).toNatClampNeg)))) - 4))) 100 r5.1) 101 ((((((((σ.1 1902)) - ((σ.2.2.1 (pR14 b1) ((L.1 1)).toNatClampNeg)))) - 4)) + 1))) r5.2)) else none)) else none)
  | k + 1, 1, L, σ => if ¬ (((L.1 101)) < 0 ∨ (sN σ 20) ≤ ((L.1 101)).toNatClampNeg) then (op (y_X11_raw k 0 (lI lZ 0 ((L.1 3))) (uA σ 20 ((L.1 101)).toNatClampNeg ((L.1 100)))) (fun r2 => if ¬ (((((L.1 5)) + 2)) < 0 ∨ (sN r2.2 20) ≤ ((((L.1 5)) + 2)).toNatClampNeg) then (f_X3_enter k 2 L (uA r2.2 20 ((((L.1 5)) + 2)).toNatClampNeg r2.1)) else none)) else none
  | k + 1, 2, L, σ => op (y_X11_raw k 0 (lI lZ 0 ((L.1 4))) σ) (fun r1 => if ¬ (((((L.1 5)) + 3)) < 0 ∨ (sN r1.2 20) ≤ ((((L.1 5)) + 3)).toNatClampNeg) then (f_X3_enter k 3 L (uI (uA r1.2 20 ((((L.1 5)) + 3)).toNatClampNeg r1.1) 1901 ((L.1 5)))) else none)
  | k + 1, 3, L, σ => oP (sPr σ) (fun b1 => if ¬ (((L.1 1)) < 0 ∨ 42 ≤ ((L.1 1)).toNatClampNeg) then (oP (sPr σ) (fun b3 => if ¬ (((L.1 1)) < 0 ∨ 42 ≤ ((L.1 1)).toNatClampNeg) then (ox (f_X3_pushAll k 0 (lI (lI lZ 1 ((-2147483648))) 2 ((((σ.2.2.1 (pR18 b1) ((L.1 1)).toNatClampNeg)) - ((σ.2.2.1 (pR14 b3) ((L.1 1)).toNatClampNeg))))) σ) (fun r5 => oP (sPr r5.2.1) (fun b6 => if ¬ (((L.1 1)) < 0 ∨ 42 ≤ ((L.1 1)).toNatClampNeg) then (some ((0, 0), (uI r5.2.1 1900 ((r5.2.1.2.2.1 (pR13 b6) ((L.1 1)).toNatClampNeg))), (0, 0))) else none))) else none)) else none)
  | _ + 1, _ + 4, _, _ => none
def o_f_X3_enter : List Cond := [.fieldLink RX3 14 "SetHouse$Machine" "run" "LSetHouse$Run;", .fieldLink RX3 58 "SetHouse$Machine" "program" "LSetHouse$Program;", .fieldLink RX3 18 "SetHouse$Machine" "stack" "[I", .initialized RX11, .static yX11_raw, .constant RX3 136 (-2147483648), .methodLink RX3 132 yX3_pushAll, .instanceMethod yX3_pushAll, .selects RX3 yX3_pushAll yX3_pushAll, .initialized RX3]
theorem o_f_X3_enter_good : o_f_X3_enter.all goodWord = true := by decide +kernel
def p_f_X3_enter : List Cond := o_f_X3_enter ++ ((.code yX11_raw cX11_raw 1 (some .int) :: p_y_X11_raw) ++ ((.code yX3_pushAll cX3_pushAll 4 none :: p_f_X3_pushAll) ++ []))
theorem p_f_X3_enter_good : p_f_X3_enter.all goodWord = true := nb_all2 o_f_X3_enter_good (nb_all2 (nb_allc (by decide +kernel) p_y_X11_raw_good) (nb_all2 (nb_allc (by decide +kernel) p_f_X3_pushAll_good) rfl))
def w_f_X3_enter : List Cond := .code yX3_enter cX3_enter 6 none :: (p_f_X3_enter ++ fC)
theorem w_f_X3_enter_good : w_f_X3_enter.all goodWord = true := nb_allc (by decide +kernel) (nb_all2 p_f_X3_enter_good fC_good)
theorem in_f_X3_enter_X3 : ∀ w ∈ wsX30, w ∈ w_f_X3_enter := fun _ h => List.mem_cons_of_mem _ (List.mem_append_right _ (List.mem_append_right _ (List.mem_append_right _ (List.mem_append_right _ (List.mem_append_left _ h)))))
theorem in_f_X3_enter_X7 : ∀ w ∈ wsX70, w ∈ w_f_X3_enter := fun _ h => List.mem_cons_of_mem _ (List.mem_append_right _ (List.mem_append_right _ (List.mem_append_right _ (List.mem_append_right _ (List.mem_append_right _ (List.mem_append_right _ (List.mem_append_right _ (List.mem_append_left _ h))))))))
theorem in_f_X3_enter_X8 : ∀ w ∈ wsX80, w ∈ w_f_X3_enter := fun _ h => List.mem_cons_of_mem _ (List.mem_append_right _ (List.mem_append_right _ (List.mem_append_right _ (List.mem_append_right _ (List.mem_append_right _ (List.mem_append_right _ (List.mem_append_right _ (List.mem_append_right _ (List.mem_append_left _ h)))))))))
theorem hd_f_X3_enter : yX3_enter.cls = RX3 ∧ yX3_enter.cls ≠ "java/lang/invoke/MethodHandle" ∧ yX3_enter.cls ≠ "java/lang/invoke/VarHandle" ∧ (parseMethodDescriptor yX3_enter.desc).map (fun d => d.parameters.length) = some 4 := by decide +kernel
theorem gg_f_X3_enter_X3_pushAll : GoodIn w_f_X3_enter w_f_X3_pushAll := goodIn_sub (fun w h => (List.mem_cons.mp h).elim (fun e => (List.mem_cons_of_mem _ (List.mem_append_left _ (List.mem_append_right _ (List.mem_append_right _ (List.mem_append_left _ (List.mem_cons.mpr (Or.inl e)))))))) (fun h => (List.mem_append.mp h).elim (fun h => (List.mem_cons_of_mem _ (List.mem_append_left _ (List.mem_append_right _ (List.mem_append_right _ (List.mem_append_left _ (List.mem_cons_of_mem _ h))))))) (fun h => List.mem_cons_of_mem _ (List.mem_append_right _ h)))) w_f_X3_pushAll_good
theorem g_f_X3_enter_X3_pushAll_V132 : GoodIn w_f_X3_enter (wsV RX3 132 RX3 yX3_pushAll w_f_X3_pushAll) := goodIn_app (nb_g4 (List.mem_cons_of_mem _ (List.mem_append_left _ (List.mem_append_left _ (List.mem_of_getElem? (i := 6) rfl)))) (List.mem_cons_of_mem _ (List.mem_append_left _ (List.mem_append_left _ (List.mem_of_getElem? (i := 7) rfl)))) (List.mem_cons_of_mem _ (List.mem_append_left _ (List.mem_append_left _ (List.mem_of_getElem? (i := 8) rfl)))) (List.mem_cons_of_mem _ (List.mem_append_left _ (List.mem_append_left _ (List.mem_of_getElem? (i := 9) rfl)))) (by decide +kernel)) gg_f_X3_enter_X3_pushAll
theorem gg_f_X3_enter_X11_raw : GoodIn w_f_X3_enter w_y_X11_raw := goodIn_sub (fun w h => (List.mem_cons.mp h).elim (fun e => (List.mem_cons_of_mem _ (List.mem_append_left _ (List.mem_append_right _ (List.mem_append_left _ (List.mem_cons.mpr (Or.inl e))))))) (fun h => (List.mem_append.mp h).elim (fun h => (List.mem_cons_of_mem _ (List.mem_append_left _ (List.mem_append_right _ (List.mem_append_left _ (List.mem_cons_of_mem _ h)))))) (fun h => List.mem_cons_of_mem _ (List.mem_append_right _ h)))) w_y_X11_raw_good
theorem g_y_X3_enter_X11_raw_SN182 : GoodIn w_f_X3_enter w_y_X11_raw := gg_f_X3_enter_X11_raw
set_option maxHeartbeats 40000000 in
set_option maxRecDepth 100000 in
theorem c_f_X3_enter (l : Launch) (hl0 : l.stackTraces = false) (dC : Nat → ClassId) (dI : Nat → Nat → Nat) (cy : Nat → ClassId) (ek a : Nat → Nat) (k0 : Nat) (L0 : LV) (σ0 : CS) (r0 : RS) (h0 : f_X3_enter k0 0 L0 σ0 = some r0) (z : Nat → Nat) (sz : Nat) : vx_Met l yX3_enter w_f_X3_enter ({ frames := 5, cells := r0.2.2.1, slots := r0.2.2.2, locals := 158 }) (va_Pc [.ref (a 18), .int (L0.1 1), .int (L0.1 2), .int (L0.1 3), .int (L0.1 4)] (nInF (dC, dI) cy ek sz (vC cy a z σ0))) (xV dC dI cy a (va_A (vC cy a z σ0) sz) [20] z r0) (xX dC dI cy a (va_A (vC cy a z σ0) sz) [20] z r0) r0.2.2.1 r0.2.2.2 (va_A (vC cy a z σ0) sz) := by
  refine vx_ofW (cc := cX3_enter) (maxL := 6) (ret := none) (by decide) rfl ?_
  intro p e s m args below meth c s₁ B hml hno hv
  obtain ⟨rfl, ⟨⟨hsz, hP, hK, hD0, hG⟩, hE⟩, hT⟩ := hv
  have hx := B.exec
  have hb := B.bytes
  have hr := B.returns
  have hts := atoms_spec (ws := w_f_X3_enter) B.pre
  have hown : s.vm.findClass RX3 = some m.cls := findClass_of_methodNamed B.named
  have hlocks := B.notSynchronized
  subst hsz
  have hD := hD0.self (sz := s.heap.size)
  generalize hAe : va_A (vC cy a z σ0) s.heap.size = A at hD hE hT ⊢
  have hA : ∀ q : Nat, s.heap.size ≤ q → A q := fun q h => by rw [← hAe]; exact Or.inr h
  have hS : va_S A s.heap s.heap [] := va_S.rf
  have hl := lv_entry ([.ref (a 18), .int (L0.1 1), .int (L0.1 2), .int (L0.1 3), .int (L0.1 4)]) (n := 6) (Nat.le_of_ble_eq_true rfl)
  rw [lg_entry_eq]
  generalize (lg_sl ([.ref (a 18), .int (L0.1 1), .int (L0.1 2), .int (L0.1 3), .int (L0.1 4)]) ++ List.replicate (6 - (lg_sl ([.ref (a 18), .int (L0.1 1), .int (L0.1 2), .int (L0.1 3), .int (L0.1 4)])).length) Slot.unset).toArray = ls at hl ⊢
  have hl : lv_has ls 6 [(0, .ref (a 18)), (1, .int (L0.1 1)), (2, .int (L0.1 2)), (3, .int (L0.1 3)), (4, .int (L0.1 4))] := hl
  generalize hmc : r0.2.2.1 = mc
  generalize hms : r0.2.2.2 = ms
  have blk : ∀ k : Nat, (bX p l e (headSpec w_f_X3_enter ({ frames := 5, cells := mc, slots := ms, locals := 158 })).room s m #[.ref (a 18), .int (L0.1 1), .int (L0.1 2), .int (L0.1 3), .int (L0.1 4)] below meth c dC dI cy a A (fun r => vx_MQ below (xV dC dI cy a A [20] z r) (xX dC dI cy a A [20] z r) #[.ref (a 18), .int (L0.1 1), .int (L0.1 2), .int (L0.1 3), .int (L0.1 4)] s mc ms A) [20] z mc ms 6 (f_X3_enter k 0) (fun z L => [(0, .ref (a 18)), (1, .int (L.1 1)), (2, .int (L.1 2)), (3, .int (L.1 3)), (4, .int (L.1 4))]) 0 (fun z L => [])) ∧ (bX p l e (headSpec w_f_X3_enter ({ frames := 5, cells := mc, slots := ms, locals := 158 })).room s m #[.ref (a 18), .int (L0.1 1), .int (L0.1 2), .int (L0.1 3), .int (L0.1 4)] below meth c dC dI cy a A (fun r => vx_MQ below (xV dC dI cy a A [20] z r) (xX dC dI cy a A [20] z r) #[.ref (a 18), .int (L0.1 1), .int (L0.1 2), .int (L0.1 3), .int (L0.1 4)] s mc ms A) [20] z mc ms 6 (f_X3_enter k 1) (fun z L => [(0, .ref (a 18)), (1, .int (L.1 1)), (3, .int (L.1 3)), (4, .int (L.1 4)), (5, .int (L.1 5))]) 50 (fun z L => [.int (L.1 100), .int (L.1 101), .ref (z 20)])) ∧ (bX p l e (headSpec w_f_X3_enter ({ frames := 5, cells := mc, slots := ms, locals := 158 })).room s m #[.ref (a 18), .int (L0.1 1), .int (L0.1 2), .int (L0.1 3), .int (L0.1 4)] below meth c dC dI cy a A (fun r => vx_MQ below (xV dC dI cy a A [20] z r) (xX dC dI cy a A [20] z r) #[.ref (a 18), .int (L0.1 1), .int (L0.1 2), .int (L0.1 3), .int (L0.1 4)] s mc ms A) [20] z mc ms 6 (f_X3_enter k 2) (fun z L => [(0, .ref (a 18)), (1, .int (L.1 1)), (4, .int (L.1 4)), (5, .int (L.1 5))]) 64 (fun z L => [])) ∧ (bX p l e (headSpec w_f_X3_enter ({ frames := 5, cells := mc, slots := ms, locals := 158 })).room s m #[.ref (a 18), .int (L0.1 1), .int (L0.1 2), .int (L0.1 3), .int (L0.1 4)] below meth c dC dI cy a A (fun r => vx_MQ below (xV dC dI cy a A [20] z r) (xX dC dI cy a A [20] z r) #[.ref (a 18), .int (L0.1 1), .int (L0.1 2), .int (L0.1 3), .int (L0.1 4)] s mc ms A) [20] z mc ms 6 (f_X3_enter k 3) (fun z L => [(0, .ref (a 18)), (1, .int (L.1 1))]) 87 (fun z L => [])) := by
    intro k
    induction k with
    | zero => exact ⟨fun z c1 c2 L σ r h => (by cases h), fun z c1 c2 L σ r h => (by cases h), fun z c1 c2 L σ r h => (by cases h), fun z c1 c2 L σ r h => (by cases h)⟩
    | succ k ih =>
      refine ⟨?_, ?_, ?_, ?_⟩
      · intro z cells slots L σ r h hzk hc hs H locs ls hP hD hS hl
        rw [f_X3_enter] at h
        refine lv_aload_n hx hb dX3_enter_0 rfl (lv_at hl 0 rfl) ?_
        refine hg_18_5 hx hb hts in_f_X3_enter_X3 hown hK hP (hts _ (List.mem_cons_of_mem _ (List.mem_append_left _ (List.mem_append_left _ (List.mem_of_getElem? (i := 0) rfl))))) dX3_enter_1 ?_
        refine hg_19_2n hx hb hts in_f_X3_enter_X8 hown hK hP (va_Nw.use rfl (hG.1 _ (List.mem_of_getElem? (i := 10) rfl))) dX3_enter_4 ?_
        refine lv_aload_n hx hb dX3_enter_7 rfl (lv_at hl 0 rfl) ?_
        obtain ⟨b1, hb1, h⟩ := oP_ex h
        refine hgq_18_6 hx hb hts in_f_X3_enter_X3 hown hK hP (hts _ (List.mem_cons_of_mem _ (List.mem_append_left _ (List.mem_append_left _ (List.mem_of_getElem? (i := 1) rfl))))) hb1 dX3_enter_8 ?_
        refine hg_P_14n b1 hx hb hts in_f_X3_enter_X7 hown hK hP (va_Nw.use rfl (hG.1 _ (List.mem_of_getElem? (i := 86) rfl))) dX3_enter_11 ?_
        refine lv_iload_n hx hb dX3_enter_14 rfl (lv_at hl 1 rfl) ?_
        obtain ⟨q2, h⟩ := kr_ite1 h
        refine hl_P14 b1 hx hb hK hP q2 dX3_enter_15 ?_
        refine lv_isub hx hb dX3_enter_16 ?_
        refine lv_iconst (v := 4) hx hb dX3_enter_17 (by decide) ?_
        refine lv_isub hx hb dX3_enter_18 ?_
        refine lv_istore (lv' := [(5, .int (((((σ.1 1902)) - ((σ.2.2.1 (pR14 b1) ((L.1 1)).toNatClampNeg)))) - 4)), (0, .ref (a 18)), (1, .int (L.1 1)), (2, .int (L.1 2)), (3, .int (L.1 3)), (4, .int (L.1 4))]) hx hb dX3_enter_19 hl (by decide) rfl (fun ls hl => ?_)
        refine lv_aload_n hx hb dX3_enter_21 rfl (lv_at hl 1 rfl) ?_
        refine hg_18_7 hx hb hts in_f_X3_enter_X3 hown hK hP (hts _ (List.mem_cons_of_mem _ (List.mem_append_left _ (List.mem_append_left _ (List.mem_of_getElem? (i := 2) rfl))))) dX3_enter_22 ?_
        refine lv_iload hx hb dX3_enter_25 (lv_at hl 0 rfl) ?_
        refine lv_iload_n hx hb dX3_enter_27 rfl (lv_at hl 3 rfl) ?_
        obtain ⟨r3, hc3, h⟩ := op_ex h
        refine kc_i (va_runSN (As := [.int (L.1 2)]) (rest := [.int (((((σ.1 1902)) - ((σ.2.2.1 (pR14 b1) ((L.1 1)).toNatClampNeg)))) - 4), .ref (z 20)]) ⟨hx, hb, hml, hown, hts⟩ (c_y_X11_raw l dC dI cy a z k (lI lZ 0 ((L.1 2))) σ r3 hc3 H.size) ⟨va_cnB 1 hts g_y_X3_enter_X11_raw_SN182 rfl rfl rfl (hG.1 _ (List.mem_of_getElem? (i := 103) rfl)) (hts _ (List.mem_cons_of_mem _ (List.mem_append_left _ (List.mem_append_left _ (List.mem_of_getElem? (i := 3) rfl))))) hd_y_X11_raw ⟨Nat.le_of_ble_eq_true rfl, Nat.le_of_ble_eq_true rfl⟩, (hts _ (List.mem_cons_of_mem _ (List.mem_append_left _ (List.mem_append_left _ (List.mem_of_getElem? (i := 4) rfl))))), trivial⟩ ⟨nb_blind, (kb_pre hK hG hP hD)⟩ rfl rfl hl.1 rfl (lv_room (Nat.le_of_ble_eq_true rfl)) dX3_enter_28 ⟨(Nat.le_trans (Nat.le_add_right _ _) (Nat.le_of_eq hc)), (Nat.le_trans (Nat.le_add_right _ _) (Nat.le_of_eq hs))⟩) hA hP hD hS (fun H locs hP hD hS => ?_)
        obtain ⟨q4, h⟩ := kr_ite1 h
        refine hs_20 hx hb hK hP hD hS q4 dX3_enter_31 (fun H locs hP hD hS => ?_)
        refine lv_aload_n hx hb dX3_enter_32 rfl (lv_at hl 1 rfl) ?_
        refine hg_18_7 hx hb hts in_f_X3_enter_X3 hown hK hP (hts _ (List.mem_cons_of_mem _ (List.mem_append_left _ (List.mem_append_left _ (List.mem_of_getElem? (i := 2) rfl))))) dX3_enter_33 ?_
        refine lv_iload hx hb dX3_enter_36 (lv_at hl 0 rfl) ?_
        refine lv_iconst (v := 1) hx hb dX3_enter_38 (by decide) ?_
        refine lv_iadd hx hb dX3_enter_39 ?_
        refine lv_aload_n hx hb dX3_enter_40 rfl (lv_at hl 1 rfl) ?_
        refine hg_18_5 hx hb hts in_f_X3_enter_X3 hown hK hP (hts _ (List.mem_cons_of_mem _ (List.mem_append_left _ (List.mem_append_left _ (List.mem_of_getElem? (i := 0) rfl))))) dX3_enter_41 ?_
        refine hg_19_1n hx hb hts in_f_X3_enter_X8 hown hK hP (va_Nw.use rfl (hG.1 _ (List.mem_of_getElem? (i := 9) rfl))) dX3_enter_44 ?_
        obtain ⟨r5, hc5, h⟩ := op_ex h
        refine kc_i (va_runSN (As := [.int ((uA r3.2 20 ((((((σ.1 1902)) - ((σ.2.2.1 (pR14 b1) ((L.1 1)).toNatClampNeg)))) - 4)).toNatClampNeg r3.1).1 1901)]) (rest := [.int (((((((σ.1 1902)) - ((σ.2.2.1 (pR14 b1) ((L.1 1)).toNatClampNeg)))) - 4)) + 1), .ref (z 20)]) ⟨hx, hb, hml, hown, hts⟩ (c_y_X11_raw l dC dI cy a z k (lI lZ 0 (((uA r3.2 20 ((((((σ.1 1902)) - ((σ.2.2.1 (pR14 b1) ((L.1 1)).toNatClampNeg)))) - 4)).toNatClampNeg r3.1).1 1901))) (uA r3.2 20 ((((((σ.1 1902)) - ((σ.2.2.1 (pR14 b1) ((L.1 1)).toNatClampNeg)))) - 4)).toNatClampNeg r3.1) r5 hc5 H.size) ⟨va_cnB 1 hts g_y_X3_enter_X11_raw_SN182 rfl rfl rfl (hG.1 _ (List.mem_of_getElem? (i := 103) rfl)) (hts _ (List.mem_cons_of_mem _ (List.mem_append_left _ (List.mem_append_left _ (List.mem_of_getElem? (i := 3) rfl))))) hd_y_X11_raw ⟨Nat.le_of_ble_eq_true rfl, Nat.le_of_ble_eq_true rfl⟩, (hts _ (List.mem_cons_of_mem _ (List.mem_append_left _ (List.mem_append_left _ (List.mem_of_getElem? (i := 4) rfl))))), trivial⟩ ⟨nb_blind, (kb_pre hK hG hP hD)⟩ rfl rfl hl.1 rfl (lv_room (Nat.le_of_ble_eq_true rfl)) dX3_enter_47 ⟨(Nat.le_trans (Nat.le_add_right _ _) (Nat.le_of_eq hc)), (Nat.le_trans (Nat.le_add_right _ _) (Nat.le_of_eq hs))⟩) hA hP hD hS (fun H locs hP hD hS => ?_)
        exact ih.2.1 z _ _ (lI (lI (lI L 5 ((((((σ.1 1902)) - ((σ.2.2.1 (pR14 b1) ((L.1 1)).toNatClampNeg)))) - 4))) 100 r5.1) 101 ((((((((σ.1 1902)) - ((σ.2.2.1 (pR14 b1) ((L.1 1)).toNatClampNeg)))) - 4)) + 1))) r5.2 _ h hzk hc hs H locs ls hP hD hS (lv_sub hl [1, 2, 4, 5, 0] rfl)
      · intro z cells slots L σ r h hzk hc hs H locs ls hP hD hS hl
        rw [f_X3_enter] at h
        obtain ⟨q1, h⟩ := kr_ite1 h
        refine hs_20 hx hb hK hP hD hS q1 dX3_enter_50 (fun H locs hP hD hS => ?_)
        refine lv_aload_n hx hb dX3_enter_51 rfl (lv_at hl 0 rfl) ?_
        refine hg_18_7 hx hb hts in_f_X3_enter_X3 hown hK hP (hts _ (List.mem_cons_of_mem _ (List.mem_append_left _ (List.mem_append_left _ (List.mem_of_getElem? (i := 2) rfl))))) dX3_enter_52 ?_
        refine lv_iload hx hb dX3_enter_55 (lv_at hl 4 rfl) ?_
        refine lv_iconst (v := 2) hx hb dX3_enter_57 (by decide) ?_
        refine lv_iadd hx hb dX3_enter_58 ?_
        refine lv_iload_n hx hb dX3_enter_59 rfl (lv_at hl 2 rfl) ?_
        obtain ⟨r2, hc2, h⟩ := op_ex h
        refine kc_i (va_runSN (As := [.int (L.1 3)]) (rest := [.int (((L.1 5)) + 2), .ref (z 20)]) ⟨hx, hb, hml, hown, hts⟩ (c_y_X11_raw l dC dI cy a z k (lI lZ 0 ((L.1 3))) (uA σ 20 ((L.1 101)).toNatClampNeg ((L.1 100))) r2 hc2 H.size) ⟨va_cnB 1 hts g_y_X3_enter_X11_raw_SN182 rfl rfl rfl (hG.1 _ (List.mem_of_getElem? (i := 103) rfl)) (hts _ (List.mem_cons_of_mem _ (List.mem_append_left _ (List.mem_append_left _ (List.mem_of_getElem? (i := 3) rfl))))) hd_y_X11_raw ⟨Nat.le_of_ble_eq_true rfl, Nat.le_of_ble_eq_true rfl⟩, (hts _ (List.mem_cons_of_mem _ (List.mem_append_left _ (List.mem_append_left _ (List.mem_of_getElem? (i := 4) rfl))))), trivial⟩ ⟨nb_blind, (kb_pre hK hG hP hD)⟩ rfl rfl hl.1 rfl (lv_room (Nat.le_of_ble_eq_true rfl)) dX3_enter_60 ⟨(Nat.le_trans (Nat.le_add_right _ _) (Nat.le_of_eq hc)), (Nat.le_trans (Nat.le_add_right _ _) (Nat.le_of_eq hs))⟩) hA hP hD hS (fun H locs hP hD hS => ?_)
        obtain ⟨q3, h⟩ := kr_ite1 h
        refine hs_20 hx hb hK hP hD hS q3 dX3_enter_63 (fun H locs hP hD hS => ?_)
        exact ih.2.2.1 z _ _ L (uA r2.2 20 ((((L.1 5)) + 2)).toNatClampNeg r2.1) _ h hzk hc hs H locs ls hP hD hS (lv_sub hl [0, 1, 3, 4] rfl)
      · intro z cells slots L σ r h hzk hc hs H locs ls hP hD hS hl
        rw [f_X3_enter] at h
        refine lv_aload_n hx hb dX3_enter_64 rfl (lv_at hl 0 rfl) ?_
        refine hg_18_7 hx hb hts in_f_X3_enter_X3 hown hK hP (hts _ (List.mem_cons_of_mem _ (List.mem_append_left _ (List.mem_append_left _ (List.mem_of_getElem? (i := 2) rfl))))) dX3_enter_65 ?_
        refine lv_iload hx hb dX3_enter_68 (lv_at hl 3 rfl) ?_
        refine lv_iconst (v := 3) hx hb dX3_enter_70 (by decide) ?_
        refine lv_iadd hx hb dX3_enter_71 ?_
        refine lv_iload hx hb dX3_enter_72 (lv_at hl 2 rfl) ?_
        obtain ⟨r1, hc1, h⟩ := op_ex h
        refine kc_i (va_runSN (As := [.int (L.1 4)]) (rest := [.int (((L.1 5)) + 3), .ref (z 20)]) ⟨hx, hb, hml, hown, hts⟩ (c_y_X11_raw l dC dI cy a z k (lI lZ 0 ((L.1 4))) σ r1 hc1 H.size) ⟨va_cnB 1 hts g_y_X3_enter_X11_raw_SN182 rfl rfl rfl (hG.1 _ (List.mem_of_getElem? (i := 103) rfl)) (hts _ (List.mem_cons_of_mem _ (List.mem_append_left _ (List.mem_append_left _ (List.mem_of_getElem? (i := 3) rfl))))) hd_y_X11_raw ⟨Nat.le_of_ble_eq_true rfl, Nat.le_of_ble_eq_true rfl⟩, (hts _ (List.mem_cons_of_mem _ (List.mem_append_left _ (List.mem_append_left _ (List.mem_of_getElem? (i := 4) rfl))))), trivial⟩ ⟨nb_blind, (kb_pre hK hG hP hD)⟩ rfl rfl hl.1 rfl (lv_room (Nat.le_of_ble_eq_true rfl)) dX3_enter_74 ⟨(Nat.le_trans (Nat.le_add_right _ _) (Nat.le_of_eq hc)), (Nat.le_trans (Nat.le_add_right _ _) (Nat.le_of_eq hs))⟩) hA hP hD hS (fun H locs hP hD hS => ?_)
        obtain ⟨q2, h⟩ := kr_ite1 h
        refine hs_20 hx hb hK hP hD hS q2 dX3_enter_77 (fun H locs hP hD hS => ?_)
        refine lv_aload_n hx hb dX3_enter_78 rfl (lv_at hl 0 rfl) ?_
        refine hg_18_5 hx hb hts in_f_X3_enter_X3 hown hK hP (hts _ (List.mem_cons_of_mem _ (List.mem_append_left _ (List.mem_append_left _ (List.mem_of_getElem? (i := 0) rfl))))) dX3_enter_79 ?_
        refine lv_iload hx hb dX3_enter_82 (lv_at hl 3 rfl) ?_
        refine hp_19_1n hx hb hts in_f_X3_enter_X8 hown hK hP hD hS (va_Nw.use rfl (hG.1 _ (List.mem_of_getElem? (i := 9) rfl))) dX3_enter_84 (fun H locs hP hD hS => ?_)
        exact ih.2.2.2 z _ _ L (uI (uA r1.2 20 ((((L.1 5)) + 3)).toNatClampNeg r1.1) 1901 ((L.1 5))) _ h hzk hc hs H locs ls hP hD hS (lv_sub hl [0, 1] rfl)
      · intro z cells slots L σ r h hzk hc hs H locs ls hP hD hS hl
        rw [f_X3_enter] at h
        refine lv_aload_n hx hb dX3_enter_87 rfl (lv_at hl 0 rfl) ?_
        refine lv_ldc (v := (-2147483648)) hx hb hown (hts _ (List.mem_cons_of_mem _ (List.mem_append_left _ (List.mem_append_left _ (List.mem_of_getElem? (i := 5) rfl))))) dX3_enter_88 ?_
        refine lv_aload_n hx hb dX3_enter_90 rfl (lv_at hl 0 rfl) ?_
        obtain ⟨b1, hb1, h⟩ := oP_ex h
        refine hgq_18_6 hx hb hts in_f_X3_enter_X3 hown hK hP (hts _ (List.mem_cons_of_mem _ (List.mem_append_left _ (List.mem_append_left _ (List.mem_of_getElem? (i := 1) rfl))))) hb1 dX3_enter_91 ?_
        refine hg_P_18n b1 hx hb hts in_f_X3_enter_X7 hown hK hP (va_Nw.use rfl (hG.1 _ (List.mem_of_getElem? (i := 92) rfl))) dX3_enter_94 ?_
        refine lv_iload_n hx hb dX3_enter_97 rfl (lv_at hl 1 rfl) ?_
        obtain ⟨q2, h⟩ := kr_ite1 h
        refine hl_P18 b1 hx hb hK hP q2 dX3_enter_98 ?_
        refine lv_aload_n hx hb dX3_enter_99 rfl (lv_at hl 0 rfl) ?_
        obtain ⟨b3, hb3, h⟩ := oP_ex h
        refine hgq_18_6 hx hb hts in_f_X3_enter_X3 hown hK hP (hts _ (List.mem_cons_of_mem _ (List.mem_append_left _ (List.mem_append_left _ (List.mem_of_getElem? (i := 1) rfl))))) hb3 dX3_enter_100 ?_
        refine hg_P_14n b3 hx hb hts in_f_X3_enter_X7 hown hK hP (va_Nw.use rfl (hG.1 _ (List.mem_of_getElem? (i := 86) rfl))) dX3_enter_103 ?_
        refine lv_iload_n hx hb dX3_enter_106 rfl (lv_at hl 1 rfl) ?_
        obtain ⟨q4, h⟩ := kr_ite1 h
        refine hl_P14 b3 hx hb hK hP q4 dX3_enter_107 ?_
        refine lv_isub hx hb dX3_enter_108 ?_
        obtain ⟨r5, hc5, hle5, h9⟩ := ox_ex h
        clear h
        refine kx_v (vx_runV (As := [.int (-2147483648), .int (((σ.2.2.1 (pR18 b1) ((L.1 1)).toNatClampNeg)) - ((σ.2.2.1 (pR14 b3) ((L.1 1)).toNatClampNeg)))]) (rest := []) ⟨hx, hb, hml, hown, hts⟩ (c_f_X3_pushAll l hl0 dC dI cy ek a k (lI (lI lZ 1 ((-2147483648))) 2 ((((σ.2.2.1 (pR18 b1) ((L.1 1)).toNatClampNeg)) - ((σ.2.2.1 (pR14 b3) ((L.1 1)).toNatClampNeg))))) σ r5 hc5 z H.size) (cwV 2 hts g_f_X3_enter_X3_pushAll_V132 rfl rfl rfl hd_f_X3_pushAll ⟨Nat.le_of_ble_eq_true rfl, Nat.le_of_ble_eq_true rfl⟩) ⟨nb_blindF, va_recv hK hP (ci := 3) (q0 := 18) rfl rfl, (kx_pre hK hG hE hT hA hP hD hS)⟩ rfl rfl hl.1 rfl (lv_room (Nat.le_of_ble_eq_true rfl)) dX3_enter_109 ⟨Nat.le_trans (Nat.add_le_add_left hle5.1 _) (Nat.le_of_eq hc), Nat.le_trans (Nat.add_le_add_left hle5.2 _) (Nat.le_of_eq hs)⟩) hK hA hzk hP hD hS (by decide) hno hlocks ?_
        rcases h9 with ⟨h00, y5, hny5, hy⟩ | ⟨h00, hy⟩
        · subst hy
          have h := hny5
          refine Or.inl ⟨h00, fun z H locs hz5 hzk hP hD hS => ?_⟩
          replace hc := (Nat.add_assoc _ _ _).trans hc
          replace hs := (Nat.add_assoc _ _ _).trans hs
          refine lv_aload_n hx hb dX3_enter_112 rfl (lv_at hl 0 rfl) ?_
          refine hg_18_5 hx hb hts in_f_X3_enter_X3 hown hK hP (hts _ (List.mem_cons_of_mem _ (List.mem_append_left _ (List.mem_append_left _ (List.mem_of_getElem? (i := 0) rfl))))) dX3_enter_113 ?_
          refine lv_aload_n hx hb dX3_enter_116 rfl (lv_at hl 0 rfl) ?_
          obtain ⟨b6, hb6, h⟩ := oP_ex h
          refine hgq_18_6 hx hb hts in_f_X3_enter_X3 hown hK hP (hts _ (List.mem_cons_of_mem _ (List.mem_append_left _ (List.mem_append_left _ (List.mem_of_getElem? (i := 1) rfl))))) hb6 dX3_enter_117 ?_
          refine hg_P_13n b6 hx hb hts in_f_X3_enter_X7 hown hK hP (va_Nw.use rfl (hG.1 _ (List.mem_of_getElem? (i := 84) rfl))) dX3_enter_120 ?_
          refine lv_iload_n hx hb dX3_enter_123 rfl (lv_at hl 1 rfl) ?_
          obtain ⟨q7, h⟩ := kr_ite1 h
          refine hl_P13 b6 hx hb hK hP q7 dX3_enter_124 ?_
          refine hp_19_0n hx hb hts in_f_X3_enter_X8 hown hK hP hD hS (va_Nw.use rfl (hG.1 _ (List.mem_of_getElem? (i := 8) rfl))) dX3_enter_125 (fun H locs hP hD hS => ?_)
          obtain rfl := Option.some.inj h
          subst hc
          subst hs
          exact xr_v hx hb hr hK hzk hP hD hS hlocks dX3_enter_128
        · subst hy
          exact Or.inr ⟨h00, rfl, hc, hs⟩
  exact (blk k0).1 z 0 0 L0 σ0 r0 h0 (zk_rf _ _) ((Nat.zero_add _).trans hmc) ((Nat.zero_add _).trans hms) s.heap [] ls hP hD hS hl
/-! X3_callFunc -/
def f_X3_callFunc : Nat → Nat → LV → CS → Option RS
  | 0, _, _, _ => none
  | k + 1, 0, L, σ => oP (sPr σ) (fun b1 => if ¬ (((σ.1 1900)) < 0 ∨ (sN σ (pR0 ((sKd σ b1)))) ≤ ((σ.1 1900)).toNatClampNeg) then (oP (sPr σ) (fun b3 => if ¬ (((σ.1 1900)) < 0 ∨ (sN σ (pR0 ((sKd σ b3)))) ≤ ((σ.1 1900)).toNatClampNeg) then (if 20 ≤ ((σ.1 1815)) then (f_X3_callFunc k 1 L σ) else (if ((((σ.1 1816)) + ((((σ.2.2.1 (pR0 ((sKd σ b1))) ((σ.1 1900)).toNatClampNeg)) &&& 255)))) ≤ 60 then (f_X3_callFunc k 2 (lI (lI L 2 ((((σ.2.2.1 (pR0 ((sKd σ b1))) ((σ.1 1900)).toNatClampNeg)) &&& 255))) 3 ((((σ.2.2.1 (pR0 ((sKd σ b3))) ((σ.1 1900)).toNatClampNeg)) >>> ((8 : Int32) &&& 31)))) σ) else (f_X3_callFunc k 1 L σ))) else none)) else none)
  | k + 1, 1, L, σ => op (y_X3_fail k 0 (lI lZ 1 7) σ) (fun r1 => some ((0, 0), r1.2, (0, 0)))
  | k + 1, 2, L, σ => f_X3_callFunc k 3 L (uI (uI (uI σ 1815 ((((σ.1 1815)) + 1))) 1816 (((((uI σ 1815 ((((σ.1 1815)) + 1))).1 1816)) + ((L.1 2))))) 1811 (((((uI (uI σ 1815 ((((σ.1 1815)) + 1))) 1816 (((((uI σ 1815 ((((σ.1 1815)) + 1))).1 1816)) + ((L.1 2))))).1 1811)) + ((L.1 3)))))
  | k + 1, 3, L, σ => ox (f_X3_enter k 0 (lI (lI (lI (lI lZ 1 ((L.1 1))) 2 ((((σ.1 1900)) + 1))) 3 ((L.1 2))) 4 ((L.1 3))) σ) (fun r1 => some ((0, 0), r1.2.1, (0, 0)))
  | _ + 1, _ + 4, _, _ => none
def o_f_X3_callFunc : List Cond := [.fieldLink RX3 58 "SetHouse$Machine" "program" "LSetHouse$Program;", .fieldLink RX3 14 "SetHouse$Machine" "run" "LSetHouse$Run;", .fieldLink RX3 229 "SetHouse$Machine" "funcs" "I", .fieldLink RX3 232 "SetHouse$Machine" "depths" "I", .methodLink RX3 313 yX3_fail, .instanceMethod yX3_fail, .selects RX3 yX3_fail yX3_fail, .initialized RX3, .fieldLink RX3 235 "SetHouse$Machine" "passingBase" "I", .methodLink RX3 378 yX3_enter, .instanceMethod yX3_enter, .selects RX3 yX3_enter yX3_enter]
theorem o_f_X3_callFunc_good : o_f_X3_callFunc.all goodWord = true := by decide +kernel
def p_f_X3_callFunc : List Cond := o_f_X3_callFunc ++ ((.code yX3_fail cX3_fail 2 none :: p_y_X3_fail) ++ ((.code yX3_enter cX3_enter 6 none :: p_f_X3_enter) ++ []))
theorem p_f_X3_callFunc_good : p_f_X3_callFunc.all goodWord = true := nb_all2 o_f_X3_callFunc_good (nb_all2 (nb_allc (by decide +kernel) p_y_X3_fail_good) (nb_all2 (nb_allc (by decide +kernel) p_f_X3_enter_good) rfl))
def w_f_X3_callFunc : List Cond := .code yX3_callFunc cX3_callFunc 4 none :: (p_f_X3_callFunc ++ fC)
theorem w_f_X3_callFunc_good : w_f_X3_callFunc.all goodWord = true := nb_allc (by decide +kernel) (nb_all2 p_f_X3_callFunc_good fC_good)
theorem in_f_X3_callFunc_X3 : ∀ w ∈ wsX30, w ∈ w_f_X3_callFunc := fun _ h => List.mem_cons_of_mem _ (List.mem_append_right _ (List.mem_append_right _ (List.mem_append_right _ (List.mem_append_right _ (List.mem_append_left _ h)))))
theorem in_f_X3_callFunc_X7 : ∀ w ∈ wsX70, w ∈ w_f_X3_callFunc := fun _ h => List.mem_cons_of_mem _ (List.mem_append_right _ (List.mem_append_right _ (List.mem_append_right _ (List.mem_append_right _ (List.mem_append_right _ (List.mem_append_right _ (List.mem_append_right _ (List.mem_append_left _ h))))))))
theorem in_f_X3_callFunc_X8 : ∀ w ∈ wsX80, w ∈ w_f_X3_callFunc := fun _ h => List.mem_cons_of_mem _ (List.mem_append_right _ (List.mem_append_right _ (List.mem_append_right _ (List.mem_append_right _ (List.mem_append_right _ (List.mem_append_right _ (List.mem_append_right _ (List.mem_append_right _ (List.mem_append_left _ h)))))))))
theorem hd_f_X3_callFunc : yX3_callFunc.cls = RX3 ∧ yX3_callFunc.cls ≠ "java/lang/invoke/MethodHandle" ∧ yX3_callFunc.cls ≠ "java/lang/invoke/VarHandle" ∧ (parseMethodDescriptor yX3_callFunc.desc).map (fun d => d.parameters.length) = some 1 := by decide +kernel
theorem gg_f_X3_callFunc_X3_enter : GoodIn w_f_X3_callFunc w_f_X3_enter := goodIn_sub (fun w h => (List.mem_cons.mp h).elim (fun e => (List.mem_cons_of_mem _ (List.mem_append_left _ (List.mem_append_right _ (List.mem_append_right _ (List.mem_append_left _ (List.mem_cons.mpr (Or.inl e)))))))) (fun h => (List.mem_append.mp h).elim (fun h => (List.mem_cons_of_mem _ (List.mem_append_left _ (List.mem_append_right _ (List.mem_append_right _ (List.mem_append_left _ (List.mem_cons_of_mem _ h))))))) (fun h => List.mem_cons_of_mem _ (List.mem_append_right _ h)))) w_f_X3_enter_good
theorem g_f_X3_callFunc_X3_enter_V378 : GoodIn w_f_X3_callFunc (wsV RX3 378 RX3 yX3_enter w_f_X3_enter) := goodIn_app (nb_g4 (List.mem_cons_of_mem _ (List.mem_append_left _ (List.mem_append_left _ (List.mem_of_getElem? (i := 9) rfl)))) (List.mem_cons_of_mem _ (List.mem_append_left _ (List.mem_append_left _ (List.mem_of_getElem? (i := 10) rfl)))) (List.mem_cons_of_mem _ (List.mem_append_left _ (List.mem_append_left _ (List.mem_of_getElem? (i := 11) rfl)))) (List.mem_cons_of_mem _ (List.mem_append_left _ (List.mem_append_left _ (List.mem_of_getElem? (i := 7) rfl)))) (by decide +kernel)) gg_f_X3_callFunc_X3_enter
theorem gg_f_X3_callFunc_X3_fail : GoodIn w_f_X3_callFunc w_y_X3_fail := goodIn_sub (fun w h => (List.mem_cons.mp h).elim (fun e => (List.mem_cons_of_mem _ (List.mem_append_left _ (List.mem_append_right _ (List.mem_append_left _ (List.mem_cons.mpr (Or.inl e))))))) (fun h => (List.mem_append.mp h).elim (fun h => (List.mem_cons_of_mem _ (List.mem_append_left _ (List.mem_append_right _ (List.mem_append_left _ (List.mem_cons_of_mem _ h)))))) (fun h => List.mem_cons_of_mem _ (List.mem_append_right _ h)))) w_y_X3_fail_good
theorem g_y_X3_callFunc_X3_fail_V313 : GoodIn w_f_X3_callFunc (wsV RX3 313 RX3 yX3_fail w_y_X3_fail) := goodIn_app (nb_g4 (List.mem_cons_of_mem _ (List.mem_append_left _ (List.mem_append_left _ (List.mem_of_getElem? (i := 4) rfl)))) (List.mem_cons_of_mem _ (List.mem_append_left _ (List.mem_append_left _ (List.mem_of_getElem? (i := 5) rfl)))) (List.mem_cons_of_mem _ (List.mem_append_left _ (List.mem_append_left _ (List.mem_of_getElem? (i := 6) rfl)))) (List.mem_cons_of_mem _ (List.mem_append_left _ (List.mem_append_left _ (List.mem_of_getElem? (i := 7) rfl)))) (by decide +kernel)) gg_f_X3_callFunc_X3_fail
set_option maxHeartbeats 40000000 in
set_option maxRecDepth 100000 in
theorem c_f_X3_callFunc (l : Launch) (hl0 : l.stackTraces = false) (dC : Nat → ClassId) (dI : Nat → Nat → Nat) (cy : Nat → ClassId) (ek a : Nat → Nat) (k0 : Nat) (L0 : LV) (σ0 : CS) (r0 : RS) (h0 : f_X3_callFunc k0 0 L0 σ0 = some r0) (z : Nat → Nat) (sz : Nat) : vx_Met l yX3_callFunc w_f_X3_callFunc ({ frames := 6, cells := r0.2.2.1, slots := r0.2.2.2, locals := 183 }) (va_Pc [.ref (a 18), .int (L0.1 1)] (nInF (dC, dI) cy ek sz (vC cy a z σ0))) (xV dC dI cy a (va_A (vC cy a z σ0) sz) [20] z r0) (xX dC dI cy a (va_A (vC cy a z σ0) sz) [20] z r0) r0.2.2.1 r0.2.2.2 (va_A (vC cy a z σ0) sz) := by
  refine vx_ofW (cc := cX3_callFunc) (maxL := 4) (ret := none) (by decide) rfl ?_
  intro p e s m args below meth c s₁ B hml hno hv
  obtain ⟨rfl, ⟨⟨hsz, hP, hK, hD0, hG⟩, hE⟩, hT⟩ := hv
  have hx := B.exec
  have hb := B.bytes
  have hr := B.returns
  have hts := atoms_spec (ws := w_f_X3_callFunc) B.pre
  have hown : s.vm.findClass RX3 = some m.cls := findClass_of_methodNamed B.named
  have hlocks := B.notSynchronized
  subst hsz
  have hD := hD0.self (sz := s.heap.size)
  generalize hAe : va_A (vC cy a z σ0) s.heap.size = A at hD hE hT ⊢
  have hA : ∀ q : Nat, s.heap.size ≤ q → A q := fun q h => by rw [← hAe]; exact Or.inr h
  have hS : va_S A s.heap s.heap [] := va_S.rf
  have hl := lv_entry ([.ref (a 18), .int (L0.1 1)]) (n := 4) (Nat.le_of_ble_eq_true rfl)
  rw [lg_entry_eq]
  generalize (lg_sl ([.ref (a 18), .int (L0.1 1)]) ++ List.replicate (4 - (lg_sl ([.ref (a 18), .int (L0.1 1)])).length) Slot.unset).toArray = ls at hl ⊢
  have hl : lv_has ls 4 [(0, .ref (a 18)), (1, .int (L0.1 1))] := hl
  generalize hmc : r0.2.2.1 = mc
  generalize hms : r0.2.2.2 = ms
  have blk : ∀ k : Nat, (bX p l e (headSpec w_f_X3_callFunc ({ frames := 6, cells := mc, slots := ms, locals := 183 })).room s m #[.ref (a 18), .int (L0.1 1)] below meth c dC dI cy a A (fun r => vx_MQ below (xV dC dI cy a A [20] z r) (xX dC dI cy a A [20] z r) #[.ref (a 18), .int (L0.1 1)] s mc ms A) [20] z mc ms 4 (f_X3_callFunc k 0) (fun z L => [(0, .ref (a 18)), (1, .int (L.1 1))]) 0 (fun z L => [])) ∧ (bX p l e (headSpec w_f_X3_callFunc ({ frames := 6, cells := mc, slots := ms, locals := 183 })).room s m #[.ref (a 18), .int (L0.1 1)] below meth c dC dI cy a A (fun r => vx_MQ below (xV dC dI cy a A [20] z r) (xX dC dI cy a A [20] z r) #[.ref (a 18), .int (L0.1 1)] s mc ms A) [20] z mc ms 4 (f_X3_callFunc k 1) (fun z L => [(0, .ref (a 18))]) 59 (fun z L => [])) ∧ (bX p l e (headSpec w_f_X3_callFunc ({ frames := 6, cells := mc, slots := ms, locals := 183 })).room s m #[.ref (a 18), .int (L0.1 1)] below meth c dC dI cy a A (fun r => vx_MQ below (xV dC dI cy a A [20] z r) (xX dC dI cy a A [20] z r) #[.ref (a 18), .int (L0.1 1)] s mc ms A) [20] z mc ms 4 (f_X3_callFunc k 2) (fun z L => [(0, .ref (a 18)), (1, .int (L.1 1)), (2, .int (L.1 2)), (3, .int (L.1 3))]) 66 (fun z L => [])) ∧ (bX p l e (headSpec w_f_X3_callFunc ({ frames := 6, cells := mc, slots := ms, locals := 183 })).room s m #[.ref (a 18), .int (L0.1 1)] below meth c dC dI cy a A (fun r => vx_MQ below (xV dC dI cy a A [20] z r) (xX dC dI cy a A [20] z r) #[.ref (a 18), .int (L0.1 1)] s mc ms A) [20] z mc ms 4 (f_X3_callFunc k 3) (fun z L => [(0, .ref (a 18)), (1, .int (L.1 1)), (2, .int (L.1 2)), (3, .int (L.1 3))]) 96 (fun z L => [])) := by
    intro k
    induction k with
    | zero => exact ⟨fun z c1 c2 L σ r h => (by cases h), fun z c1 c2 L σ r h => (by cases h), fun z c1 c2 L σ r h => (by cases h), fun z c1 c2 L σ r h => (by cases h)⟩
    | succ k ih =>
      refine ⟨?_, ?_, ?_, ?_⟩
      · intro z cells slots L σ r h hzk hc hs H locs ls hP hD hS hl
        rw [f_X3_callFunc] at h
        refine lv_aload_n hx hb dX3_callFunc_0 rfl (lv_at hl 0 rfl) ?_
        obtain ⟨b1, hb1, h⟩ := oP_ex h
        refine hgq_18_6 hx hb hts in_f_X3_callFunc_X3 hown hK hP (hts _ (List.mem_cons_of_mem _ (List.mem_append_left _ (List.mem_append_left _ (List.mem_of_getElem? (i := 0) rfl))))) hb1 dX3_callFunc_1 ?_
        refine hg_P_0n b1 hx hb hts in_f_X3_callFunc_X7 hown hK hP (va_Nw.use rfl (hG.1 _ (List.mem_of_getElem? (i := 66) rfl))) dX3_callFunc_4 ?_
        refine lv_aload_n hx hb dX3_callFunc_7 rfl (lv_at hl 0 rfl) ?_
        refine hg_18_5 hx hb hts in_f_X3_callFunc_X3 hown hK hP (hts _ (List.mem_cons_of_mem _ (List.mem_append_left _ (List.mem_append_left _ (List.mem_of_getElem? (i := 1) rfl))))) dX3_callFunc_8 ?_
        refine hg_19_0n hx hb hts in_f_X3_callFunc_X8 hown hK hP (va_Nw.use rfl (hG.1 _ (List.mem_of_getElem? (i := 8) rfl))) dX3_callFunc_11 ?_
        obtain ⟨q2, h⟩ := kr_ite1 h
        refine hl_P0 ((sKd σ b1)) hx hb hK hP q2 dX3_callFunc_14 ?_
        refine lv_sipush (v := 255) hx hb dX3_callFunc_15 (by decide) ?_
        refine lv_iand hx hb dX3_callFunc_18 ?_
        refine lv_istore_n (lv' := [(2, .int (((σ.2.2.1 (pR0 ((sKd σ b1))) ((σ.1 1900)).toNatClampNeg)) &&& 255)), (0, .ref (a 18)), (1, .int (L.1 1))]) hx hb dX3_callFunc_19 rfl hl (by decide) rfl (fun ls hl => ?_)
        refine lv_aload_n hx hb dX3_callFunc_20 rfl (lv_at hl 1 rfl) ?_
        obtain ⟨b3, hb3, h⟩ := oP_ex h
        refine hgq_18_6 hx hb hts in_f_X3_callFunc_X3 hown hK hP (hts _ (List.mem_cons_of_mem _ (List.mem_append_left _ (List.mem_append_left _ (List.mem_of_getElem? (i := 0) rfl))))) hb3 dX3_callFunc_21 ?_
        refine hg_P_0n b3 hx hb hts in_f_X3_callFunc_X7 hown hK hP (va_Nw.use rfl (hG.1 _ (List.mem_of_getElem? (i := 66) rfl))) dX3_callFunc_24 ?_
        refine lv_aload_n hx hb dX3_callFunc_27 rfl (lv_at hl 1 rfl) ?_
        refine hg_18_5 hx hb hts in_f_X3_callFunc_X3 hown hK hP (hts _ (List.mem_cons_of_mem _ (List.mem_append_left _ (List.mem_append_left _ (List.mem_of_getElem? (i := 1) rfl))))) dX3_callFunc_28 ?_
        refine hg_19_0n hx hb hts in_f_X3_callFunc_X8 hown hK hP (va_Nw.use rfl (hG.1 _ (List.mem_of_getElem? (i := 8) rfl))) dX3_callFunc_31 ?_
        obtain ⟨q4, h⟩ := kr_ite1 h
        refine hl_P0 ((sKd σ b3)) hx hb hK hP q4 dX3_callFunc_34 ?_
        refine lv_bipush (v := 8) hx hb dX3_callFunc_35 (by decide) ?_
        refine lv_ishr hx hb dX3_callFunc_37 ?_
        refine lv_istore_n (lv' := [(3, .int (((σ.2.2.1 (pR0 ((sKd σ b3))) ((σ.1 1900)).toNatClampNeg)) >>> ((8 : Int32) &&& 31))), (2, .int (((σ.2.2.1 (pR0 ((sKd σ b1))) ((σ.1 1900)).toNatClampNeg)) &&& 255)), (0, .ref (a 18)), (1, .int (L.1 1))]) hx hb dX3_callFunc_38 rfl hl (by decide) rfl (fun ls hl => ?_)
        refine lv_aload_n hx hb dX3_callFunc_39 rfl (lv_at hl 2 rfl) ?_
        refine hg_18_15 hx hb hts in_f_X3_callFunc_X3 hown hK hP (hts _ (List.mem_cons_of_mem _ (List.mem_append_left _ (List.mem_append_left _ (List.mem_of_getElem? (i := 2) rfl))))) dX3_callFunc_40 ?_
        refine lv_bipush (v := 20) hx hb dX3_callFunc_43 (by decide) ?_
        refine lv_icmp_ge (tgt := 59) hx hb dX3_callFunc_45 (by decide) (fun c5 => ?_) (fun c5 => ?_)
        · rw [if_pos c5] at h
          exact ih.2.1 z _ _ L σ _ h hzk hc hs H locs ls hP hD hS (lv_sub hl [2] rfl)
        · rw [if_neg c5] at h
          refine lv_aload_n hx hb dX3_callFunc_48 rfl (lv_at hl 2 rfl) ?_
          refine hg_18_16 hx hb hts in_f_X3_callFunc_X3 hown hK hP (hts _ (List.mem_cons_of_mem _ (List.mem_append_left _ (List.mem_append_left _ (List.mem_of_getElem? (i := 3) rfl))))) dX3_callFunc_49 ?_
          refine lv_iload_n hx hb dX3_callFunc_52 rfl (lv_at hl 1 rfl) ?_
          refine lv_iadd hx hb dX3_callFunc_53 ?_
          refine lv_bipush (v := 60) hx hb dX3_callFunc_54 (by decide) ?_
          refine lv_icmp_le (tgt := 66) hx hb dX3_callFunc_56 (by decide) (fun c6 => ?_) (fun c6 => ?_)
          · rw [if_pos c6] at h
            exact ih.2.2.1 z _ _ (lI (lI L 2 ((((σ.2.2.1 (pR0 ((sKd σ b1))) ((σ.1 1900)).toNatClampNeg)) &&& 255))) 3 ((((σ.2.2.1 (pR0 ((sKd σ b3))) ((σ.1 1900)).toNatClampNeg)) >>> ((8 : Int32) &&& 31)))) σ _ h hzk hc hs H locs ls hP hD hS (lv_sub hl [2, 3, 1, 0] rfl)
          · rw [if_neg c6] at h
            exact ih.2.1 z _ _ L σ _ h hzk hc hs H locs ls hP hD hS (lv_sub hl [2] rfl)
      · intro z cells slots L σ r h hzk hc hs H locs ls hP hD hS hl
        rw [f_X3_callFunc] at h
        refine lv_aload_n hx hb dX3_callFunc_59 rfl (lv_at hl 0 rfl) ?_
        refine lv_bipush (v := 7) hx hb dX3_callFunc_60 (by decide) ?_
        obtain ⟨r1, hc1, h⟩ := op_ex h
        refine kc_v (va_runV (As := [.int 7]) (rest := []) ⟨hx, hb, hml, hown, hts⟩ (c_y_X3_fail l dC dI cy a z k (lI lZ 1 7) σ r1 hc1 H.size) (cwV 1 hts g_y_X3_callFunc_X3_fail_V313 rfl rfl rfl hd_y_X3_fail ⟨Nat.le_of_ble_eq_true rfl, Nat.le_of_ble_eq_true rfl⟩) ⟨nb_blind, va_recv hK hP (ci := 3) (q0 := 18) rfl rfl, (kb_pre hK hG hP hD)⟩ rfl rfl hl.1 rfl (lv_room (Nat.le_of_ble_eq_true rfl)) dX3_callFunc_62 ⟨(Nat.le_trans (Nat.le_add_right _ _) (Nat.le_of_eq hc)), (Nat.le_trans (Nat.le_add_right _ _) (Nat.le_of_eq hs))⟩) hA hP hD hS (fun H locs hP hD hS => ?_)
        obtain rfl := Option.some.inj h
        subst hc
        subst hs
        exact xr_v hx hb hr hK hzk hP hD hS hlocks dX3_callFunc_65
      · intro z cells slots L σ r h hzk hc hs H locs ls hP hD hS hl
        rw [f_X3_callFunc] at h
        refine lv_aload_n hx hb dX3_callFunc_66 rfl (lv_at hl 0 rfl) ?_
        refine lv_dup hx hb dX3_callFunc_67 rfl ?_
        refine hg_18_15 hx hb hts in_f_X3_callFunc_X3 hown hK hP (hts _ (List.mem_cons_of_mem _ (List.mem_append_left _ (List.mem_append_left _ (List.mem_of_getElem? (i := 2) rfl))))) dX3_callFunc_68 ?_
        refine lv_iconst (v := 1) hx hb dX3_callFunc_71 (by decide) ?_
        refine lv_iadd hx hb dX3_callFunc_72 ?_
        refine hp_18_15 hx hb hts in_f_X3_callFunc_X3 hown hK hP hD hS (hts _ (List.mem_cons_of_mem _ (List.mem_append_left _ (List.mem_append_left _ (List.mem_of_getElem? (i := 2) rfl))))) dX3_callFunc_73 (fun H locs hP hD hS => ?_)
        refine lv_aload_n hx hb dX3_callFunc_76 rfl (lv_at hl 0 rfl) ?_
        refine lv_aload_n hx hb dX3_callFunc_77 rfl (lv_at hl 0 rfl) ?_
        refine hg_18_16 hx hb hts in_f_X3_callFunc_X3 hown hK hP (hts _ (List.mem_cons_of_mem _ (List.mem_append_left _ (List.mem_append_left _ (List.mem_of_getElem? (i := 3) rfl))))) dX3_callFunc_78 ?_
        refine lv_iload_n hx hb dX3_callFunc_81 rfl (lv_at hl 2 rfl) ?_
        refine lv_iadd hx hb dX3_callFunc_82 ?_
        refine hp_18_16 hx hb hts in_f_X3_callFunc_X3 hown hK hP hD hS (hts _ (List.mem_cons_of_mem _ (List.mem_append_left _ (List.mem_append_left _ (List.mem_of_getElem? (i := 3) rfl))))) dX3_callFunc_83 (fun H locs hP hD hS => ?_)
        refine lv_aload_n hx hb dX3_callFunc_86 rfl (lv_at hl 0 rfl) ?_
        refine lv_aload_n hx hb dX3_callFunc_87 rfl (lv_at hl 0 rfl) ?_
        refine hg_18_11 hx hb hts in_f_X3_callFunc_X3 hown hK hP (hts _ (List.mem_cons_of_mem _ (List.mem_append_left _ (List.mem_append_left _ (List.mem_of_getElem? (i := 8) rfl))))) dX3_callFunc_88 ?_
        refine lv_iload_n hx hb dX3_callFunc_91 rfl (lv_at hl 3 rfl) ?_
        refine lv_iadd hx hb dX3_callFunc_92 ?_
        refine hp_18_11 hx hb hts in_f_X3_callFunc_X3 hown hK hP hD hS (hts _ (List.mem_cons_of_mem _ (List.mem_append_left _ (List.mem_append_left _ (List.mem_of_getElem? (i := 8) rfl))))) dX3_callFunc_93 (fun H locs hP hD hS => ?_)
        exact ih.2.2.2 z _ _ L (uI (uI (uI σ 1815 ((((σ.1 1815)) + 1))) 1816 (((((uI σ 1815 ((((σ.1 1815)) + 1))).1 1816)) + ((L.1 2))))) 1811 (((((uI (uI σ 1815 ((((σ.1 1815)) + 1))) 1816 (((((uI σ 1815 ((((σ.1 1815)) + 1))).1 1816)) + ((L.1 2))))).1 1811)) + ((L.1 3))))) _ h hzk hc hs H locs ls hP hD hS (lv_sub hl [0, 1, 2, 3] rfl)
      · intro z cells slots L σ r h hzk hc hs H locs ls hP hD hS hl
        rw [f_X3_callFunc] at h
        refine lv_aload_n hx hb dX3_callFunc_96 rfl (lv_at hl 0 rfl) ?_
        refine lv_iload_n hx hb dX3_callFunc_97 rfl (lv_at hl 1 rfl) ?_
        refine lv_aload_n hx hb dX3_callFunc_98 rfl (lv_at hl 0 rfl) ?_
        refine hg_18_5 hx hb hts in_f_X3_callFunc_X3 hown hK hP (hts _ (List.mem_cons_of_mem _ (List.mem_append_left _ (List.mem_append_left _ (List.mem_of_getElem? (i := 1) rfl))))) dX3_callFunc_99 ?_
        refine hg_19_0n hx hb hts in_f_X3_callFunc_X8 hown hK hP (va_Nw.use rfl (hG.1 _ (List.mem_of_getElem? (i := 8) rfl))) dX3_callFunc_102 ?_
        refine lv_iconst (v := 1) hx hb dX3_callFunc_105 (by decide) ?_
        refine lv_iadd hx hb dX3_callFunc_106 ?_
        refine lv_iload_n hx hb dX3_callFunc_107 rfl (lv_at hl 2 rfl) ?_
        refine lv_iload_n hx hb dX3_callFunc_108 rfl (lv_at hl 3 rfl) ?_
        obtain ⟨r1, hc1, hle1, h9⟩ := ox_ex h
        clear h
        refine kx_v (vx_runV (As := [.int (L.1 1), .int (((σ.1 1900)) + 1), .int (L.1 2), .int (L.1 3)]) (rest := []) ⟨hx, hb, hml, hown, hts⟩ (c_f_X3_enter l hl0 dC dI cy ek a k (lI (lI (lI (lI lZ 1 ((L.1 1))) 2 ((((σ.1 1900)) + 1))) 3 ((L.1 2))) 4 ((L.1 3))) σ r1 hc1 z H.size) (cwV 4 hts g_f_X3_callFunc_X3_enter_V378 rfl rfl rfl hd_f_X3_enter ⟨Nat.le_of_ble_eq_true rfl, Nat.le_of_ble_eq_true rfl⟩) ⟨nb_blindF, va_recv hK hP (ci := 3) (q0 := 18) rfl rfl, (kx_pre hK hG hE hT hA hP hD hS)⟩ rfl rfl hl.1 rfl (lv_room (Nat.le_of_ble_eq_true rfl)) dX3_callFunc_109 ⟨Nat.le_trans (Nat.add_le_add_left hle1.1 _) (Nat.le_of_eq hc), Nat.le_trans (Nat.add_le_add_left hle1.2 _) (Nat.le_of_eq hs)⟩) hK hA hzk hP hD hS (by decide) hno hlocks ?_
        rcases h9 with ⟨h00, y1, hny1, hy⟩ | ⟨h00, hy⟩
        · subst hy
          have h := hny1
          refine Or.inl ⟨h00, fun z H locs hz1 hzk hP hD hS => ?_⟩
          replace hc := (Nat.add_assoc _ _ _).trans hc
          replace hs := (Nat.add_assoc _ _ _).trans hs
          obtain rfl := Option.some.inj h
          subst hc
          subst hs
          exact xr_v hx hb hr hK hzk hP hD hS hlocks dX3_callFunc_112
        · subst hy
          exact Or.inr ⟨h00, rfl, hc, hs⟩
  exact (blk k0).1 z 0 0 L0 σ0 r0 h0 (zk_rf _ _) ((Nat.zero_add _).trans hmc) ((Nat.zero_add _).trans hms) s.heap [] ls hP hD hS hl
/-! X3_push -/
def f_X3_push : Nat → Nat → LV → CS → Option RS
  | 0, _, _, _ => none
  | k + 1, 0, L, σ => if ((σ.1 1902)) < ((Int32.ofNat (sN σ 20))) then (f_X3_push k 1 L σ) else (ox (f_X3_isRoomFor k 0 (lI lZ 1 1) σ) (fun r2 => if r2.1.2 = 0 then (f_X3_push k 2 L r2.2.1) else (f_X3_push k 1 L r2.2.1)))
  | k + 1, 1, L, σ => if ¬ (((σ.1 1902)) < 0 ∨ (sN σ 20) ≤ ((σ.1 1902)).toNatClampNeg) then (f_X3_push k 2 L (uI (uA σ 20 ((σ.1 1902)).toNatClampNeg ((L.1 1))) 1902 (((((uA σ 20 ((σ.1 1902)).toNatClampNeg ((L.1 1))).1 1902)) + 1)))) else none
  | k + 1, 2, L, σ => some ((0, 0), σ, (0, 0))
  | _ + 1, _ + 3, _, _ => none
def o_f_X3_push : List Cond := [.fieldLink RX3 14 "SetHouse$Machine" "run" "LSetHouse$Run;", .fieldLink RX3 18 "SetHouse$Machine" "stack" "[I", .methodLink RX3 301 yX3_isRoomFor, .instanceMethod yX3_isRoomFor, .selects RX3 yX3_isRoomFor yX3_isRoomFor, .initialized RX3]
theorem o_f_X3_push_good : o_f_X3_push.all goodWord = true := by decide +kernel
def p_f_X3_push : List Cond := o_f_X3_push ++ ((.code yX3_isRoomFor cX3_isRoomFor 2 (some .boolean) :: p_f_X3_isRoomFor) ++ [])
theorem p_f_X3_push_good : p_f_X3_push.all goodWord = true := nb_all2 o_f_X3_push_good (nb_all2 (nb_allc (by decide +kernel) p_f_X3_isRoomFor_good) rfl)
def w_f_X3_push : List Cond := .code yX3_push cX3_push 2 none :: (p_f_X3_push ++ fC)
theorem w_f_X3_push_good : w_f_X3_push.all goodWord = true := nb_allc (by decide +kernel) (nb_all2 p_f_X3_push_good fC_good)
theorem in_f_X3_push_X3 : ∀ w ∈ wsX30, w ∈ w_f_X3_push := fun _ h => List.mem_cons_of_mem _ (List.mem_append_right _ (List.mem_append_right _ (List.mem_append_right _ (List.mem_append_right _ (List.mem_append_left _ h)))))
theorem in_f_X3_push_X8 : ∀ w ∈ wsX80, w ∈ w_f_X3_push := fun _ h => List.mem_cons_of_mem _ (List.mem_append_right _ (List.mem_append_right _ (List.mem_append_right _ (List.mem_append_right _ (List.mem_append_right _ (List.mem_append_right _ (List.mem_append_right _ (List.mem_append_right _ (List.mem_append_left _ h)))))))))
theorem hd_f_X3_push : yX3_push.cls = RX3 ∧ yX3_push.cls ≠ "java/lang/invoke/MethodHandle" ∧ yX3_push.cls ≠ "java/lang/invoke/VarHandle" ∧ (parseMethodDescriptor yX3_push.desc).map (fun d => d.parameters.length) = some 1 := by decide +kernel
theorem gg_f_X3_push_X3_isRoomFor : GoodIn w_f_X3_push w_f_X3_isRoomFor := goodIn_sub (fun w h => (List.mem_cons.mp h).elim (fun e => (List.mem_cons_of_mem _ (List.mem_append_left _ (List.mem_append_right _ (List.mem_append_left _ (List.mem_cons.mpr (Or.inl e))))))) (fun h => (List.mem_append.mp h).elim (fun h => (List.mem_cons_of_mem _ (List.mem_append_left _ (List.mem_append_right _ (List.mem_append_left _ (List.mem_cons_of_mem _ h)))))) (fun h => List.mem_cons_of_mem _ (List.mem_append_right _ h)))) w_f_X3_isRoomFor_good
theorem g_f_X3_push_X3_isRoomFor_V301 : GoodIn w_f_X3_push (wsV RX3 301 RX3 yX3_isRoomFor w_f_X3_isRoomFor) := goodIn_app (nb_g4 (List.mem_cons_of_mem _ (List.mem_append_left _ (List.mem_append_left _ (List.mem_of_getElem? (i := 2) rfl)))) (List.mem_cons_of_mem _ (List.mem_append_left _ (List.mem_append_left _ (List.mem_of_getElem? (i := 3) rfl)))) (List.mem_cons_of_mem _ (List.mem_append_left _ (List.mem_append_left _ (List.mem_of_getElem? (i := 4) rfl)))) (List.mem_cons_of_mem _ (List.mem_append_left _ (List.mem_append_left _ (List.mem_of_getElem? (i := 5) rfl)))) (by decide +kernel)) gg_f_X3_push_X3_isRoomFor
set_option maxHeartbeats 40000000 in
set_option maxRecDepth 100000 in
theorem c_f_X3_push (l : Launch) (hl0 : l.stackTraces = false) (dC : Nat → ClassId) (dI : Nat → Nat → Nat) (cy : Nat → ClassId) (ek a : Nat → Nat) (k0 : Nat) (L0 : LV) (σ0 : CS) (r0 : RS) (h0 : f_X3_push k0 0 L0 σ0 = some r0) (z : Nat → Nat) (sz : Nat) : vx_Met l yX3_push w_f_X3_push ({ frames := 4, cells := r0.2.2.1, slots := r0.2.2.2, locals := 135 }) (va_Pc [.ref (a 18), .int (L0.1 1)] (nInF (dC, dI) cy ek sz (vC cy a z σ0))) (xV dC dI cy a (va_A (vC cy a z σ0) sz) [20] z r0) (xX dC dI cy a (va_A (vC cy a z σ0) sz) [20] z r0) r0.2.2.1 r0.2.2.2 (va_A (vC cy a z σ0) sz) := by
  refine vx_ofW (cc := cX3_push) (maxL := 2) (ret := none) (by decide) rfl ?_
  intro p e s m args below meth c s₁ B hml hno hv
  obtain ⟨rfl, ⟨⟨hsz, hP, hK, hD0, hG⟩, hE⟩, hT⟩ := hv
  have hx := B.exec
  have hb := B.bytes
  have hr := B.returns
  have hts := atoms_spec (ws := w_f_X3_push) B.pre
  have hown : s.vm.findClass RX3 = some m.cls := findClass_of_methodNamed B.named
  have hlocks := B.notSynchronized
  subst hsz
  have hD := hD0.self (sz := s.heap.size)
  generalize hAe : va_A (vC cy a z σ0) s.heap.size = A at hD hE hT ⊢
  have hA : ∀ q : Nat, s.heap.size ≤ q → A q := fun q h => by rw [← hAe]; exact Or.inr h
  have hS : va_S A s.heap s.heap [] := va_S.rf
  have hl := lv_entry ([.ref (a 18), .int (L0.1 1)]) (n := 2) (Nat.le_of_ble_eq_true rfl)
  rw [lg_entry_eq]
  generalize (lg_sl ([.ref (a 18), .int (L0.1 1)]) ++ List.replicate (2 - (lg_sl ([.ref (a 18), .int (L0.1 1)])).length) Slot.unset).toArray = ls at hl ⊢
  have hl : lv_has ls 2 [(0, .ref (a 18)), (1, .int (L0.1 1))] := hl
  generalize hmc : r0.2.2.1 = mc
  generalize hms : r0.2.2.2 = ms
  have blk : ∀ k : Nat, (bX p l e (headSpec w_f_X3_push ({ frames := 4, cells := mc, slots := ms, locals := 135 })).room s m #[.ref (a 18), .int (L0.1 1)] below meth c dC dI cy a A (fun r => vx_MQ below (xV dC dI cy a A [20] z r) (xX dC dI cy a A [20] z r) #[.ref (a 18), .int (L0.1 1)] s mc ms A) [20] z mc ms 2 (f_X3_push k 0) (fun z L => [(0, .ref (a 18)), (1, .int (L.1 1))]) 0 (fun z L => [])) ∧ (bX p l e (headSpec w_f_X3_push ({ frames := 4, cells := mc, slots := ms, locals := 135 })).room s m #[.ref (a 18), .int (L0.1 1)] below meth c dC dI cy a A (fun r => vx_MQ below (xV dC dI cy a A [20] z r) (xX dC dI cy a A [20] z r) #[.ref (a 18), .int (L0.1 1)] s mc ms A) [20] z mc ms 2 (f_X3_push k 1) (fun z L => [(0, .ref (a 18)), (1, .int (L.1 1))]) 23 (fun z L => [])) ∧ (bX p l e (headSpec w_f_X3_push ({ frames := 4, cells := mc, slots := ms, locals := 135 })).room s m #[.ref (a 18), .int (L0.1 1)] below meth c dC dI cy a A (fun r => vx_MQ below (xV dC dI cy a A [20] z r) (xX dC dI cy a A [20] z r) #[.ref (a 18), .int (L0.1 1)] s mc ms A) [20] z mc ms 2 (f_X3_push k 2) (fun z L => []) 49 (fun z L => [])) := by
    intro k
    induction k with
    | zero => exact ⟨fun z c1 c2 L σ r h => (by cases h), fun z c1 c2 L σ r h => (by cases h), fun z c1 c2 L σ r h => (by cases h)⟩
    | succ k ih =>
      refine ⟨?_, ?_, ?_⟩
      · intro z cells slots L σ r h hzk hc hs H locs ls hP hD hS hl
        rw [f_X3_push] at h
        refine lv_aload_n hx hb dX3_push_0 rfl (lv_at hl 0 rfl) ?_
        refine hg_18_5 hx hb hts in_f_X3_push_X3 hown hK hP (hts _ (List.mem_cons_of_mem _ (List.mem_append_left _ (List.mem_append_left _ (List.mem_of_getElem? (i := 0) rfl))))) dX3_push_1 ?_
        refine hg_19_2n hx hb hts in_f_X3_push_X8 hown hK hP (va_Nw.use rfl (hG.1 _ (List.mem_of_getElem? (i := 10) rfl))) dX3_push_4 ?_
        refine lv_aload_n hx hb dX3_push_7 rfl (lv_at hl 0 rfl) ?_
        refine hg_18_7 hx hb hts in_f_X3_push_X3 hown hK hP (hts _ (List.mem_cons_of_mem _ (List.mem_append_left _ (List.mem_append_left _ (List.mem_of_getElem? (i := 1) rfl))))) dX3_push_8 ?_
        refine hn_20 hx hb hK hP dX3_push_11 ?_
        refine lv_icmp_lt (tgt := 23) hx hb dX3_push_12 (by decide) (fun c1 => ?_) (fun c1 => ?_)
        · rw [if_pos c1] at h
          exact ih.2.1 z _ _ L σ _ h hzk hc hs H locs ls hP hD hS (lv_sub hl [0, 1] rfl)
        · rw [if_neg c1] at h
          refine lv_aload_n hx hb dX3_push_15 rfl (lv_at hl 0 rfl) ?_
          refine lv_iconst (v := 1) hx hb dX3_push_16 (by decide) ?_
          obtain ⟨r2, hc2, hle2, h9⟩ := ox_ex h
          clear h
          refine kx_i (vx_runV (As := [.int 1]) (rest := []) ⟨hx, hb, hml, hown, hts⟩ (c_f_X3_isRoomFor l hl0 dC dI cy ek a k (lI lZ 1 1) σ r2 hc2 z H.size) (cwV 1 hts g_f_X3_push_X3_isRoomFor_V301 rfl rfl rfl hd_f_X3_isRoomFor ⟨Nat.le_of_ble_eq_true rfl, Nat.le_of_ble_eq_true rfl⟩) ⟨nb_blindF, va_recv hK hP (ci := 3) (q0 := 18) rfl rfl, (kx_pre hK hG hE hT hA hP hD hS)⟩ rfl rfl hl.1 rfl (lv_room (Nat.le_of_ble_eq_true rfl)) dX3_push_17 ⟨Nat.le_trans (Nat.add_le_add_left hle2.1 _) (Nat.le_of_eq hc), Nat.le_trans (Nat.add_le_add_left hle2.2 _) (Nat.le_of_eq hs)⟩) hK hA hzk hP hD hS (by decide) hno hlocks ?_
          rcases h9 with ⟨h00, y2, hny2, hy⟩ | ⟨h00, hy⟩
          · subst hy
            have h := hny2
            refine Or.inl ⟨h00, fun z H locs hz2 hzk hP hD hS => ?_⟩
            replace hc := (Nat.add_assoc _ _ _).trans hc
            replace hs := (Nat.add_assoc _ _ _).trans hs
            refine lv_if_eq (tgt := 49) hx hb dX3_push_20 (by decide) (fun c3 => ?_) (fun c3 => ?_)
            · rw [if_pos c3] at h
              exact ih.2.2 z _ _ L r2.2.1 _ h hzk hc hs H locs ls hP hD hS (lv_sub hl [] rfl)
            · rw [if_neg c3] at h
              exact ih.2.1 z _ _ L r2.2.1 _ h hzk hc hs H locs ls hP hD hS (lv_sub hl [0, 1] rfl)
          · subst hy
            exact Or.inr ⟨h00, rfl, hc, hs⟩
      · intro z cells slots L σ r h hzk hc hs H locs ls hP hD hS hl
        rw [f_X3_push] at h
        refine lv_aload_n hx hb dX3_push_23 rfl (lv_at hl 0 rfl) ?_
        refine hg_18_7 hx hb hts in_f_X3_push_X3 hown hK hP (hts _ (List.mem_cons_of_mem _ (List.mem_append_left _ (List.mem_append_left _ (List.mem_of_getElem? (i := 1) rfl))))) dX3_push_24 ?_
        refine lv_aload_n hx hb dX3_push_27 rfl (lv_at hl 0 rfl) ?_
        refine hg_18_5 hx hb hts in_f_X3_push_X3 hown hK hP (hts _ (List.mem_cons_of_mem _ (List.mem_append_left _ (List.mem_append_left _ (List.mem_of_getElem? (i := 0) rfl))))) dX3_push_28 ?_
        refine hg_19_2n hx hb hts in_f_X3_push_X8 hown hK hP (va_Nw.use rfl (hG.1 _ (List.mem_of_getElem? (i := 10) rfl))) dX3_push_31 ?_
        refine lv_iload_n hx hb dX3_push_34 rfl (lv_at hl 1 rfl) ?_
        obtain ⟨q1, h⟩ := kr_ite1 h
        refine hs_20 hx hb hK hP hD hS q1 dX3_push_35 (fun H locs hP hD hS => ?_)
        refine lv_aload_n hx hb dX3_push_36 rfl (lv_at hl 0 rfl) ?_
        refine hg_18_5 hx hb hts in_f_X3_push_X3 hown hK hP (hts _ (List.mem_cons_of_mem _ (List.mem_append_left _ (List.mem_append_left _ (List.mem_of_getElem? (i := 0) rfl))))) dX3_push_37 ?_
        refine lv_dup hx hb dX3_push_40 rfl ?_
        refine hg_19_2n hx hb hts in_f_X3_push_X8 hown hK hP (va_Nw.use rfl (hG.1 _ (List.mem_of_getElem? (i := 10) rfl))) dX3_push_41 ?_
        refine lv_iconst (v := 1) hx hb dX3_push_44 (by decide) ?_
        refine lv_iadd hx hb dX3_push_45 ?_
        refine hp_19_2n hx hb hts in_f_X3_push_X8 hown hK hP hD hS (va_Nw.use rfl (hG.1 _ (List.mem_of_getElem? (i := 10) rfl))) dX3_push_46 (fun H locs hP hD hS => ?_)
        exact ih.2.2 z _ _ L (uI (uA σ 20 ((σ.1 1902)).toNatClampNeg ((L.1 1))) 1902 (((((uA σ 20 ((σ.1 1902)).toNatClampNeg ((L.1 1))).1 1902)) + 1))) _ h hzk hc hs H locs ls hP hD hS (lv_sub hl [] rfl)
      · intro z cells slots L σ r h hzk hc hs H locs ls hP hD hS hl
        rw [f_X3_push] at h
        obtain rfl := Option.some.inj h
        subst hc
        subst hs
        exact xr_v hx hb hr hK hzk hP hD hS hlocks dX3_push_49
  exact (blk k0).1 z 0 0 L0 σ0 r0 h0 (zk_rf _ _) ((Nat.zero_add _).trans hmc) ((Nat.zero_add _).trans hms) s.heap [] ls hP hD hS hl
/-! X3_give -/
def f_X3_give : Nat → Nat → LV → CS → Option RS
  | 0, _, _, _ => none
  | k + 1, 0, L, σ => ox (f_X3_push k 0 (lI lZ 1 ((-2147483648))) σ) (fun r1 => op (y_X3_replace k 0 (lI lZ 1 ((L.1 1))) r1.2.1) (fun r2 => some ((0, 0), r2.2, (0, 0))))
  | _ + 1, _ + 1, _, _ => none
def o_f_X3_give : List Cond := [.constant RX3 136 (-2147483648), .methodLink RX3 322 yX3_push, .instanceMethod yX3_push, .selects RX3 yX3_push yX3_push, .initialized RX3, .methodLink RX3 280 yX3_replace, .instanceMethod yX3_replace, .selects RX3 yX3_replace yX3_replace]
theorem o_f_X3_give_good : o_f_X3_give.all goodWord = true := by decide +kernel
def p_f_X3_give : List Cond := o_f_X3_give ++ ((.code yX3_push cX3_push 2 none :: p_f_X3_push) ++ ((.code yX3_replace cX3_replace 2 none :: p_y_X3_replace) ++ []))
theorem p_f_X3_give_good : p_f_X3_give.all goodWord = true := nb_all2 o_f_X3_give_good (nb_all2 (nb_allc (by decide +kernel) p_f_X3_push_good) (nb_all2 (nb_allc (by decide +kernel) p_y_X3_replace_good) rfl))
def w_f_X3_give : List Cond := .code yX3_give cX3_give 2 none :: (p_f_X3_give ++ fC)
theorem w_f_X3_give_good : w_f_X3_give.all goodWord = true := nb_allc (by decide +kernel) (nb_all2 p_f_X3_give_good fC_good)
theorem hd_f_X3_give : yX3_give.cls = RX3 ∧ yX3_give.cls ≠ "java/lang/invoke/MethodHandle" ∧ yX3_give.cls ≠ "java/lang/invoke/VarHandle" ∧ (parseMethodDescriptor yX3_give.desc).map (fun d => d.parameters.length) = some 1 := by decide +kernel
theorem gg_f_X3_give_X3_push : GoodIn w_f_X3_give w_f_X3_push := goodIn_sub (fun w h => (List.mem_cons.mp h).elim (fun e => (List.mem_cons_of_mem _ (List.mem_append_left _ (List.mem_append_right _ (List.mem_append_left _ (List.mem_cons.mpr (Or.inl e))))))) (fun h => (List.mem_append.mp h).elim (fun h => (List.mem_cons_of_mem _ (List.mem_append_left _ (List.mem_append_right _ (List.mem_append_left _ (List.mem_cons_of_mem _ h)))))) (fun h => List.mem_cons_of_mem _ (List.mem_append_right _ h)))) w_f_X3_push_good
theorem g_f_X3_give_X3_push_V322 : GoodIn w_f_X3_give (wsV RX3 322 RX3 yX3_push w_f_X3_push) := goodIn_app (nb_g4 (List.mem_cons_of_mem _ (List.mem_append_left _ (List.mem_append_left _ (List.mem_of_getElem? (i := 1) rfl)))) (List.mem_cons_of_mem _ (List.mem_append_left _ (List.mem_append_left _ (List.mem_of_getElem? (i := 2) rfl)))) (List.mem_cons_of_mem _ (List.mem_append_left _ (List.mem_append_left _ (List.mem_of_getElem? (i := 3) rfl)))) (List.mem_cons_of_mem _ (List.mem_append_left _ (List.mem_append_left _ (List.mem_of_getElem? (i := 4) rfl)))) (by decide +kernel)) gg_f_X3_give_X3_push
theorem gg_f_X3_give_X3_replace : GoodIn w_f_X3_give w_y_X3_replace := goodIn_sub (fun w h => (List.mem_cons.mp h).elim (fun e => (List.mem_cons_of_mem _ (List.mem_append_left _ (List.mem_append_right _ (List.mem_append_right _ (List.mem_append_left _ (List.mem_cons.mpr (Or.inl e)))))))) (fun h => (List.mem_append.mp h).elim (fun h => (List.mem_cons_of_mem _ (List.mem_append_left _ (List.mem_append_right _ (List.mem_append_right _ (List.mem_append_left _ (List.mem_cons_of_mem _ h))))))) (fun h => List.mem_cons_of_mem _ (List.mem_append_right _ h)))) w_y_X3_replace_good
theorem g_y_X3_give_X3_replace_V280 : GoodIn w_f_X3_give (wsV RX3 280 RX3 yX3_replace w_y_X3_replace) := goodIn_app (nb_g4 (List.mem_cons_of_mem _ (List.mem_append_left _ (List.mem_append_left _ (List.mem_of_getElem? (i := 5) rfl)))) (List.mem_cons_of_mem _ (List.mem_append_left _ (List.mem_append_left _ (List.mem_of_getElem? (i := 6) rfl)))) (List.mem_cons_of_mem _ (List.mem_append_left _ (List.mem_append_left _ (List.mem_of_getElem? (i := 7) rfl)))) (List.mem_cons_of_mem _ (List.mem_append_left _ (List.mem_append_left _ (List.mem_of_getElem? (i := 4) rfl)))) (by decide +kernel)) gg_f_X3_give_X3_replace
set_option maxHeartbeats 40000000 in
set_option maxRecDepth 100000 in
theorem c_f_X3_give (l : Launch) (hl0 : l.stackTraces = false) (dC : Nat → ClassId) (dI : Nat → Nat → Nat) (cy : Nat → ClassId) (ek a : Nat → Nat) (k0 : Nat) (L0 : LV) (σ0 : CS) (r0 : RS) (h0 : f_X3_give k0 0 L0 σ0 = some r0) (z : Nat → Nat) (sz : Nat) : vx_Met l yX3_give w_f_X3_give ({ frames := 5, cells := r0.2.2.1, slots := r0.2.2.2, locals := 156 }) (va_Pc [.ref (a 18), .int (L0.1 1)] (nInF (dC, dI) cy ek sz (vC cy a z σ0))) (xV dC dI cy a (va_A (vC cy a z σ0) sz) [20] z r0) (xX dC dI cy a (va_A (vC cy a z σ0) sz) [20] z r0) r0.2.2.1 r0.2.2.2 (va_A (vC cy a z σ0) sz) := by
  refine vx_ofW (cc := cX3_give) (maxL := 2) (ret := none) (by decide) rfl ?_
  intro p e s m args below meth c s₁ B hml hno hv
  obtain ⟨rfl, ⟨⟨hsz, hP, hK, hD0, hG⟩, hE⟩, hT⟩ := hv
  have hx := B.exec
  have hb := B.bytes
  have hr := B.returns
  have hts := atoms_spec (ws := w_f_X3_give) B.pre
  have hown : s.vm.findClass RX3 = some m.cls := findClass_of_methodNamed B.named
  have hlocks := B.notSynchronized
  subst hsz
  have hD := hD0.self (sz := s.heap.size)
  generalize hAe : va_A (vC cy a z σ0) s.heap.size = A at hD hE hT ⊢
  have hA : ∀ q : Nat, s.heap.size ≤ q → A q := fun q h => by rw [← hAe]; exact Or.inr h
  have hS : va_S A s.heap s.heap [] := va_S.rf
  have hl := lv_entry ([.ref (a 18), .int (L0.1 1)]) (n := 2) (Nat.le_of_ble_eq_true rfl)
  rw [lg_entry_eq]
  generalize (lg_sl ([.ref (a 18), .int (L0.1 1)]) ++ List.replicate (2 - (lg_sl ([.ref (a 18), .int (L0.1 1)])).length) Slot.unset).toArray = ls at hl ⊢
  have hl : lv_has ls 2 [(0, .ref (a 18)), (1, .int (L0.1 1))] := hl
  generalize hmc : r0.2.2.1 = mc
  generalize hms : r0.2.2.2 = ms
  have blk : ∀ k : Nat, (bX p l e (headSpec w_f_X3_give ({ frames := 5, cells := mc, slots := ms, locals := 156 })).room s m #[.ref (a 18), .int (L0.1 1)] below meth c dC dI cy a A (fun r => vx_MQ below (xV dC dI cy a A [20] z r) (xX dC dI cy a A [20] z r) #[.ref (a 18), .int (L0.1 1)] s mc ms A) [20] z mc ms 2 (f_X3_give k 0) (fun z L => [(0, .ref (a 18)), (1, .int (L.1 1))]) 0 (fun z L => [])) := by
    intro k
    induction k with
    | zero => exact fun z c1 c2 L σ r h => (by cases h)
    | succ k ih =>
      skip
      · intro z cells slots L σ r h hzk hc hs H locs ls hP hD hS hl
        rw [f_X3_give] at h
        refine lv_aload_n hx hb dX3_give_0 rfl (lv_at hl 0 rfl) ?_
        refine lv_ldc (v := (-2147483648)) hx hb hown (hts _ (List.mem_cons_of_mem _ (List.mem_append_left _ (List.mem_append_left _ (List.mem_of_getElem? (i := 0) rfl))))) dX3_give_1 ?_
        obtain ⟨r1, hc1, hle1, h9⟩ := ox_ex h
        clear h
        refine kx_v (vx_runV (As := [.int (-2147483648)]) (rest := []) ⟨hx, hb, hml, hown, hts⟩ (c_f_X3_push l hl0 dC dI cy ek a k (lI lZ 1 ((-2147483648))) σ r1 hc1 z H.size) (cwV 1 hts g_f_X3_give_X3_push_V322 rfl rfl rfl hd_f_X3_push ⟨Nat.le_of_ble_eq_true rfl, Nat.le_of_ble_eq_true rfl⟩) ⟨nb_blindF, va_recv hK hP (ci := 3) (q0 := 18) rfl rfl, (kx_pre hK hG hE hT hA hP hD hS)⟩ rfl rfl hl.1 rfl (lv_room (Nat.le_of_ble_eq_true rfl)) dX3_give_3 ⟨Nat.le_trans (Nat.add_le_add_left hle1.1 _) (Nat.le_of_eq hc), Nat.le_trans (Nat.add_le_add_left hle1.2 _) (Nat.le_of_eq hs)⟩) hK hA hzk hP hD hS (by decide) hno hlocks ?_
        rcases h9 with ⟨h00, y1, hny1, hy⟩ | ⟨h00, hy⟩
        · subst hy
          have h := hny1
          refine Or.inl ⟨h00, fun z H locs hz1 hzk hP hD hS => ?_⟩
          replace hc := (Nat.add_assoc _ _ _).trans hc
          replace hs := (Nat.add_assoc _ _ _).trans hs
          refine lv_aload_n hx hb dX3_give_6 rfl (lv_at hl 0 rfl) ?_
          refine lv_iload_n hx hb dX3_give_7 rfl (lv_at hl 1 rfl) ?_
          obtain ⟨r2, hc2, h⟩ := op_ex h
          refine kc_v (va_runV (As := [.int (L.1 1)]) (rest := []) ⟨hx, hb, hml, hown, hts⟩ (c_y_X3_replace l dC dI cy a z k (lI lZ 1 ((L.1 1))) r1.2.1 r2 hc2 H.size) (cwV 1 hts g_y_X3_give_X3_replace_V280 rfl rfl rfl hd_y_X3_replace ⟨Nat.le_of_ble_eq_true rfl, Nat.le_of_ble_eq_true rfl⟩) ⟨nb_blind, va_recv hK hP (ci := 3) (q0 := 18) rfl rfl, (kb_pre hK hG hP hD)⟩ rfl rfl hl.1 rfl (lv_room (Nat.le_of_ble_eq_true rfl)) dX3_give_8 ⟨(Nat.le_trans (Nat.le_add_right _ _) (Nat.le_of_eq hc)), (Nat.le_trans (Nat.le_add_right _ _) (Nat.le_of_eq hs))⟩) hA hP hD hS (fun H locs hP hD hS => ?_)
          obtain rfl := Option.some.inj h
          subst hc
          subst hs
          exact xr_v hx hb hr hK hzk hP hD hS hlocks dX3_give_11
        · subst hy
          exact Or.inr ⟨h00, rfl, hc, hs⟩
  exact (blk k0) z 0 0 L0 σ0 r0 h0 (zk_rf _ _) ((Nat.zero_add _).trans hmc) ((Nat.zero_add _).trans hms) s.heap [] ls hP hD hS hl
/-! X3_endFunc -/
def f_X3_endFunc : Nat → Nat → LV → CS → Option RS
  | 0, _, _, _ => none
  | k + 1, 0, L, σ => op (y_X3_pop k 0 lZ σ) (fun r1 => if ¬ (((((r1.2.1 1901)) + 2)) < 0 ∨ (sN (uI r1.2 1815 ((((r1.2.1 1815)) - 1))) 20) ≤ ((((r1.2.1 1901)) + 2)).toNatClampNeg) then (op (y_X11_unraw k 0 (lI lZ 0 (((uI r1.2 1815 ((((r1.2.1 1815)) - 1))).2.2.1 20 ((((r1.2.1 1901)) + 2)).toNatClampNeg))) (uI r1.2 1815 ((((r1.2.1 1815)) - 1)))) (fun r3 => f_X3_endFunc k 1 (lI (lI L 1 r1.1) 2 ((r1.2.1 1901))) (uI r3.2 1816 (((((uI r1.2 1815 ((((r1.2.1 1815)) - 1))).1 1816)) - r3.1))))) else none)
  | k + 1, 1, L, σ => if ¬ (((((L.1 2)) + 3)) < 0 ∨ (sN σ 20) ≤ ((((L.1 2)) + 3)).toNatClampNeg) then (op (y_X11_unraw k 0 (lI lZ 0 ((σ.2.2.1 20 ((((L.1 2)) + 3)).toNatClampNeg))) σ) (fun r2 => if ¬ (((L.1 2)) < 0 ∨ (sN (uI r2.2 1811 ((((σ.1 1811)) - r2.1))) 20) ≤ ((L.1 2)).toNatClampNeg) then (op (y_X11_unraw k 0 (lI lZ 0 (((uI r2.2 1811 ((((σ.1 1811)) - r2.1))).2.2.1 20 ((L.1 2)).toNatClampNeg))) (uI r2.2 1811 ((((σ.1 1811)) - r2.1)))) (fun r4 => f_X3_endFunc k 2 (lI L 100 r4.1) r4.2)) else none)) else none
  | k + 1, 2, L, σ => if ¬ (((((L.1 2)) + 1)) < 0 ∨ (sN (uI σ 1900 ((L.1 100))) 20) ≤ ((((L.1 2)) + 1)).toNatClampNeg) then (op (y_X11_unraw k 0 (lI lZ 0 (((uI σ 1900 ((L.1 100))).2.2.1 20 ((((L.1 2)) + 1)).toNatClampNeg))) (uI σ 1900 ((L.1 100)))) (fun r2 => f_X3_endFunc k 3 L (uI r2.2 1901 r2.1))) else none
  | k + 1, 3, L, σ => ox (f_X3_give k 0 (lI lZ 1 ((L.1 1))) (uI σ 1902 ((L.1 2)))) (fun r1 => some ((0, 0), r1.2.1, (0, 0)))
  | _ + 1, _ + 4, _, _ => none
def o_f_X3_endFunc : List Cond := [.methodLink RX3 339 yX3_pop, .instanceMethod yX3_pop, .selects RX3 yX3_pop yX3_pop, .initialized RX3, .fieldLink RX3 14 "SetHouse$Machine" "run" "LSetHouse$Run;", .fieldLink RX3 229 "SetHouse$Machine" "funcs" "I", .fieldLink RX3 232 "SetHouse$Machine" "depths" "I", .fieldLink RX3 18 "SetHouse$Machine" "stack" "[I", .initialized RX11, .static yX11_unraw, .fieldLink RX3 235 "SetHouse$Machine" "passingBase" "I", .methodLink RX3 391 yX3_give, .instanceMethod yX3_give, .selects RX3 yX3_give yX3_give]
theorem o_f_X3_endFunc_good : o_f_X3_endFunc.all goodWord = true := by decide +kernel
def p_f_X3_endFunc : List Cond := o_f_X3_endFunc ++ ((.code yX3_pop cX3_pop 1 (some .int) :: p_y_X3_pop) ++ ((.code yX11_unraw cX11_unraw 1 (some .int) :: p_y_X11_unraw) ++ ((.code yX3_give cX3_give 2 none :: p_f_X3_give) ++ [])))
theorem p_f_X3_endFunc_good : p_f_X3_endFunc.all goodWord = true := nb_all2 o_f_X3_endFunc_good (nb_all2 (nb_allc (by decide +kernel) p_y_X3_pop_good) (nb_all2 (nb_allc (by decide +kernel) p_y_X11_unraw_good) (nb_all2 (nb_allc (by decide +kernel) p_f_X3_give_good) rfl)))
def w_f_X3_endFunc : List Cond := .code yX3_endFunc cX3_endFunc 3 none :: (p_f_X3_endFunc ++ fC)
theorem w_f_X3_endFunc_good : w_f_X3_endFunc.all goodWord = true := nb_allc (by decide +kernel) (nb_all2 p_f_X3_endFunc_good fC_good)
theorem in_f_X3_endFunc_X3 : ∀ w ∈ wsX30, w ∈ w_f_X3_endFunc := fun _ h => List.mem_cons_of_mem _ (List.mem_append_right _ (List.mem_append_right _ (List.mem_append_right _ (List.mem_append_right _ (List.mem_append_left _ h)))))
theorem in_f_X3_endFunc_X8 : ∀ w ∈ wsX80, w ∈ w_f_X3_endFunc := fun _ h => List.mem_cons_of_mem _ (List.mem_append_right _ (List.mem_append_right _ (List.mem_append_right _ (List.mem_append_right _ (List.mem_append_right _ (List.mem_append_right _ (List.mem_append_right _ (List.mem_append_right _ (List.mem_append_left _ h)))))))))
theorem hd_f_X3_endFunc : yX3_endFunc.cls = RX3 ∧ yX3_endFunc.cls ≠ "java/lang/invoke/MethodHandle" ∧ yX3_endFunc.cls ≠ "java/lang/invoke/VarHandle" ∧ (parseMethodDescriptor yX3_endFunc.desc).map (fun d => d.parameters.length) = some 0 := by decide +kernel
theorem gg_f_X3_endFunc_X3_give : GoodIn w_f_X3_endFunc w_f_X3_give := goodIn_sub (fun w h => (List.mem_cons.mp h).elim (fun e => (List.mem_cons_of_mem _ (List.mem_append_left _ (List.mem_append_right _ (List.mem_append_right _ (List.mem_append_right _ (List.mem_append_left _ (List.mem_cons.mpr (Or.inl e))))))))) (fun h => (List.mem_append.mp h).elim (fun h => (List.mem_cons_of_mem _ (List.mem_append_left _ (List.mem_append_right _ (List.mem_append_right _ (List.mem_append_right _ (List.mem_append_left _ (List.mem_cons_of_mem _ h)))))))) (fun h => List.mem_cons_of_mem _ (List.mem_append_right _ h)))) w_f_X3_give_good
theorem g_f_X3_endFunc_X3_give_V391 : GoodIn w_f_X3_endFunc (wsV RX3 391 RX3 yX3_give w_f_X3_give) := goodIn_app (nb_g4 (List.mem_cons_of_mem _ (List.mem_append_left _ (List.mem_append_left _ (List.mem_of_getElem? (i := 11) rfl)))) (List.mem_cons_of_mem _ (List.mem_append_left _ (List.mem_append_left _ (List.mem_of_getElem? (i := 12) rfl)))) (List.mem_cons_of_mem _ (List.mem_append_left _ (List.mem_append_left _ (List.mem_of_getElem? (i := 13) rfl)))) (List.mem_cons_of_mem _ (List.mem_append_left _ (List.mem_append_left _ (List.mem_of_getElem? (i := 3) rfl)))) (by decide +kernel)) gg_f_X3_endFunc_X3_give
theorem gg_f_X3_endFunc_X11_unraw : GoodIn w_f_X3_endFunc w_y_X11_unraw := goodIn_sub (fun w h => (List.mem_cons.mp h).elim (fun e => (List.mem_cons_of_mem _ (List.mem_append_left _ (List.mem_append_right _ (List.mem_append_right _ (List.mem_append_left _ (List.mem_cons.mpr (Or.inl e)))))))) (fun h => (List.mem_append.mp h).elim (fun h => (List.mem_cons_of_mem _ (List.mem_append_left _ (List.mem_append_right _ (List.mem_append_right _ (List.mem_append_left _ (List.mem_cons_of_mem _ h))))))) (fun h => List.mem_cons_of_mem _ (List.mem_append_right _ h)))) w_y_X11_unraw_good
theorem g_y_X3_endFunc_X11_unraw_SN388 : GoodIn w_f_X3_endFunc w_y_X11_unraw := gg_f_X3_endFunc_X11_unraw
theorem gg_f_X3_endFunc_X3_pop : GoodIn w_f_X3_endFunc w_y_X3_pop := goodIn_sub (fun w h => (List.mem_cons.mp h).elim (fun e => (List.mem_cons_of_mem _ (List.mem_append_left _ (List.mem_append_right _ (List.mem_append_left _ (List.mem_cons.mpr (Or.inl e))))))) (fun h => (List.mem_append.mp h).elim (fun h => (List.mem_cons_of_mem _ (List.mem_append_left _ (List.mem_append_right _ (List.mem_append_left _ (List.mem_cons_of_mem _ h)))))) (fun h => List.mem_cons_of_mem _ (List.mem_append_right _ h)))) w_y_X3_pop_good
theorem g_y_X3_endFunc_X3_pop_V339 : GoodIn w_f_X3_endFunc (wsV RX3 339 RX3 yX3_pop w_y_X3_pop) := goodIn_app (nb_g4 (List.mem_cons_of_mem _ (List.mem_append_left _ (List.mem_append_left _ (List.mem_of_getElem? (i := 0) rfl)))) (List.mem_cons_of_mem _ (List.mem_append_left _ (List.mem_append_left _ (List.mem_of_getElem? (i := 1) rfl)))) (List.mem_cons_of_mem _ (List.mem_append_left _ (List.mem_append_left _ (List.mem_of_getElem? (i := 2) rfl)))) (List.mem_cons_of_mem _ (List.mem_append_left _ (List.mem_append_left _ (List.mem_of_getElem? (i := 3) rfl)))) (by decide +kernel)) gg_f_X3_endFunc_X3_pop
set_option maxHeartbeats 40000000 in
set_option maxRecDepth 100000 in
theorem c_f_X3_endFunc (l : Launch) (hl0 : l.stackTraces = false) (dC : Nat → ClassId) (dI : Nat → Nat → Nat) (cy : Nat → ClassId) (ek a : Nat → Nat) (k0 : Nat) (L0 : LV) (σ0 : CS) (r0 : RS) (h0 : f_X3_endFunc k0 0 L0 σ0 = some r0) (z : Nat → Nat) (sz : Nat) : vx_Met l yX3_endFunc w_f_X3_endFunc ({ frames := 6, cells := r0.2.2.1, slots := r0.2.2.2, locals := 177 }) (va_Pc [.ref (a 18)] (nInF (dC, dI) cy ek sz (vC cy a z σ0))) (xV dC dI cy a (va_A (vC cy a z σ0) sz) [20] z r0) (xX dC dI cy a (va_A (vC cy a z σ0) sz) [20] z r0) r0.2.2.1 r0.2.2.2 (va_A (vC cy a z σ0) sz) := by
  refine vx_ofW (cc := cX3_endFunc) (maxL := 3) (ret := none) (by decide) rfl ?_
  intro p e s m args below meth c s₁ B hml hno hv
  obtain ⟨rfl, ⟨⟨hsz, hP, hK, hD0, hG⟩, hE⟩, hT⟩ := hv
  have hx := B.exec
  have hb := B.bytes
  have hr := B.returns
  have hts := atoms_spec (ws := w_f_X3_endFunc) B.pre
  have hown : s.vm.findClass RX3 = some m.cls := findClass_of_methodNamed B.named
  have hlocks := B.notSynchronized
  subst hsz
  have hD := hD0.self (sz := s.heap.size)
  generalize hAe : va_A (vC cy a z σ0) s.heap.size = A at hD hE hT ⊢
  have hA : ∀ q : Nat, s.heap.size ≤ q → A q := fun q h => by rw [← hAe]; exact Or.inr h
  have hS : va_S A s.heap s.heap [] := va_S.rf
  have hl := lv_entry ([.ref (a 18)]) (n := 3) (Nat.le_of_ble_eq_true rfl)
  rw [lg_entry_eq]
  generalize (lg_sl ([.ref (a 18)]) ++ List.replicate (3 - (lg_sl ([.ref (a 18)])).length) Slot.unset).toArray = ls at hl ⊢
  have hl : lv_has ls 3 [(0, .ref (a 18))] := hl
  generalize hmc : r0.2.2.1 = mc
  generalize hms : r0.2.2.2 = ms
  have blk : ∀ k : Nat, (bX p l e (headSpec w_f_X3_endFunc ({ frames := 6, cells := mc, slots := ms, locals := 177 })).room s m #[.ref (a 18)] below meth c dC dI cy a A (fun r => vx_MQ below (xV dC dI cy a A [20] z r) (xX dC dI cy a A [20] z r) #[.ref (a 18)] s mc ms A) [20] z mc ms 3 (f_X3_endFunc k 0) (fun z L => [(0, .ref (a 18))]) 0 (fun z L => [])) ∧ (bX p l e (headSpec w_f_X3_endFunc ({ frames := 6, cells := mc, slots := ms, locals := 177 })).room s m #[.ref (a 18)] below meth c dC dI cy a A (fun r => vx_MQ below (xV dC dI cy a A [20] z r) (xX dC dI cy a A [20] z r) #[.ref (a 18)] s mc ms A) [20] z mc ms 3 (f_X3_endFunc k 1) (fun z L => [(0, .ref (a 18)), (1, .int (L.1 1)), (2, .int (L.1 2))]) 43 (fun z L => [])) ∧ (bX p l e (headSpec w_f_X3_endFunc ({ frames := 6, cells := mc, slots := ms, locals := 177 })).room s m #[.ref (a 18)] below meth c dC dI cy a A (fun r => vx_MQ below (xV dC dI cy a A [20] z r) (xX dC dI cy a A [20] z r) #[.ref (a 18)] s mc ms A) [20] z mc ms 3 (f_X3_endFunc k 2) (fun z L => [(0, .ref (a 18)), (1, .int (L.1 1)), (2, .int (L.1 2))]) 76 (fun z L => [.int (L.1 100), .ref (a 19)])) ∧ (bX p l e (headSpec w_f_X3_endFunc ({ frames := 6, cells := mc, slots := ms, locals := 177 })).room s m #[.ref (a 18)] below meth c dC dI cy a A (fun r => vx_MQ below (xV dC dI cy a A [20] z r) (xX dC dI cy a A [20] z r) #[.ref (a 18)] s mc ms A) [20] z mc ms 3 (f_X3_endFunc k 3) (fun z L => [(0, .ref (a 18)), (1, .int (L.1 1)), (2, .int (L.1 2))]) 97 (fun z L => [])) := by
    intro k
    induction k with
    | zero => exact ⟨fun z c1 c2 L σ r h => (by cases h), fun z c1 c2 L σ r h => (by cases h), fun z c1 c2 L σ r h => (by cases h), fun z c1 c2 L σ r h => (by cases h)⟩
    | succ k ih =>
      refine ⟨?_, ?_, ?_, ?_⟩
      · intro z cells slots L σ r h hzk hc hs H locs ls hP hD hS hl
        rw [f_X3_endFunc] at h
        refine lv_aload_n hx hb dX3_endFunc_0 rfl (lv_at hl 0 rfl) ?_
        obtain ⟨r1, hc1, h⟩ := op_ex h
        refine kc_i (va_runV (As := []) (rest := []) ⟨hx, hb, hml, hown, hts⟩ (c_y_X3_pop l dC dI cy a z k lZ σ r1 hc1 H.size) (cwV 0 hts g_y_X3_endFunc_X3_pop_V339 rfl rfl rfl hd_y_X3_pop ⟨Nat.le_of_ble_eq_true rfl, Nat.le_of_ble_eq_true rfl⟩) ⟨nb_blind, va_recv hK hP (ci := 3) (q0 := 18) rfl rfl, (kb_pre hK hG hP hD)⟩ rfl rfl hl.1 rfl (lv_room (Nat.le_of_ble_eq_true rfl)) dX3_endFunc_1 ⟨(Nat.le_trans (Nat.le_add_right _ _) (Nat.le_of_eq hc)), (Nat.le_trans (Nat.le_add_right _ _) (Nat.le_of_eq hs))⟩) hA hP hD hS (fun H locs hP hD hS => ?_)
        refine lv_istore_n (lv' := [(1, .int r1.1), (0, .ref (a 18))]) hx hb dX3_endFunc_4 rfl hl (by decide) rfl (fun ls hl => ?_)
        refine lv_aload_n hx hb dX3_endFunc_5 rfl (lv_at hl 1 rfl) ?_
        refine hg_18_5 hx hb hts in_f_X3_endFunc_X3 hown hK hP (hts _ (List.mem_cons_of_mem _ (List.mem_append_left _ (List.mem_append_left _ (List.mem_of_getElem? (i := 4) rfl))))) dX3_endFunc_6 ?_
        refine hg_19_1n hx hb hts in_f_X3_endFunc_X8 hown hK hP (va_Nw.use rfl (hG.1 _ (List.mem_of_getElem? (i := 9) rfl))) dX3_endFunc_9 ?_
        refine lv_istore_n (lv' := [(2, .int (r1.2.1 1901)), (1, .int r1.1), (0, .ref (a 18))]) hx hb dX3_endFunc_12 rfl hl (by decide) rfl (fun ls hl => ?_)
        refine lv_aload_n hx hb dX3_endFunc_13 rfl (lv_at hl 2 rfl) ?_
        refine lv_dup hx hb dX3_endFunc_14 rfl ?_
        refine hg_18_15 hx hb hts in_f_X3_endFunc_X3 hown hK hP (hts _ (List.mem_cons_of_mem _ (List.mem_append_left _ (List.mem_append_left _ (List.mem_of_getElem? (i := 5) rfl))))) dX3_endFunc_15 ?_
        refine lv_iconst (v := 1) hx hb dX3_endFunc_18 (by decide) ?_
        refine lv_isub hx hb dX3_endFunc_19 ?_
        refine hp_18_15 hx hb hts in_f_X3_endFunc_X3 hown hK hP hD hS (hts _ (List.mem_cons_of_mem _ (List.mem_append_left _ (List.mem_append_left _ (List.mem_of_getElem? (i := 5) rfl))))) dX3_endFunc_20 (fun H locs hP hD hS => ?_)
        refine lv_aload_n hx hb dX3_endFunc_23 rfl (lv_at hl 2 rfl) ?_
        refine lv_aload_n hx hb dX3_endFunc_24 rfl (lv_at hl 2 rfl) ?_
        refine hg_18_16 hx hb hts in_f_X3_endFunc_X3 hown hK hP (hts _ (List.mem_cons_of_mem _ (List.mem_append_left _ (List.mem_append_left _ (List.mem_of_getElem? (i := 6) rfl))))) dX3_endFunc_25 ?_
        refine lv_aload_n hx hb dX3_endFunc_28 rfl (lv_at hl 2 rfl) ?_
        refine hg_18_7 hx hb hts in_f_X3_endFunc_X3 hown hK hP (hts _ (List.mem_cons_of_mem _ (List.mem_append_left _ (List.mem_append_left _ (List.mem_of_getElem? (i := 7) rfl))))) dX3_endFunc_29 ?_
        refine lv_iload_n hx hb dX3_endFunc_32 rfl (lv_at hl 0 rfl) ?_
        refine lv_iconst (v := 2) hx hb dX3_endFunc_33 (by decide) ?_
        refine lv_iadd hx hb dX3_endFunc_34 ?_
        obtain ⟨q2, h⟩ := kr_ite1 h
        refine hl_20 hx hb hK hP q2 dX3_endFunc_35 ?_
        obtain ⟨r3, hc3, h⟩ := op_ex h
        refine kc_i (va_runSN (As := [.int ((uI r1.2 1815 ((((r1.2.1 1815)) - 1))).2.2.1 20 ((((r1.2.1 1901)) + 2)).toNatClampNeg)]) (rest := [.int ((uI r1.2 1815 ((((r1.2.1 1815)) - 1))).1 1816), .ref (a 18)]) ⟨hx, hb, hml, hown, hts⟩ (c_y_X11_unraw l dC dI cy a z k (lI lZ 0 (((uI r1.2 1815 ((((r1.2.1 1815)) - 1))).2.2.1 20 ((((r1.2.1 1901)) + 2)).toNatClampNeg))) (uI r1.2 1815 ((((r1.2.1 1815)) - 1))) r3 hc3 H.size) ⟨va_cnB 1 hts g_y_X3_endFunc_X11_unraw_SN388 rfl rfl rfl (hG.1 _ (List.mem_of_getElem? (i := 104) rfl)) (hts _ (List.mem_cons_of_mem _ (List.mem_append_left _ (List.mem_append_left _ (List.mem_of_getElem? (i := 8) rfl))))) hd_y_X11_unraw ⟨Nat.le_of_ble_eq_true rfl, Nat.le_of_ble_eq_true rfl⟩, (hts _ (List.mem_cons_of_mem _ (List.mem_append_left _ (List.mem_append_left _ (List.mem_of_getElem? (i := 9) rfl))))), trivial⟩ ⟨nb_blind, (kb_pre hK hG hP hD)⟩ rfl rfl hl.1 rfl (lv_room (Nat.le_of_ble_eq_true rfl)) dX3_endFunc_36 ⟨(Nat.le_trans (Nat.le_add_right _ _) (Nat.le_of_eq hc)), (Nat.le_trans (Nat.le_add_right _ _) (Nat.le_of_eq hs))⟩) hA hP hD hS (fun H locs hP hD hS => ?_)
        refine lv_isub hx hb dX3_endFunc_39 ?_
        refine hp_18_16 hx hb hts in_f_X3_endFunc_X3 hown hK hP hD hS (hts _ (List.mem_cons_of_mem _ (List.mem_append_left _ (List.mem_append_left _ (List.mem_of_getElem? (i := 6) rfl))))) dX3_endFunc_40 (fun H locs hP hD hS => ?_)
        exact ih.2.1 z _ _ (lI (lI L 1 r1.1) 2 ((r1.2.1 1901))) (uI r3.2 1816 (((((uI r1.2 1815 ((((r1.2.1 1815)) - 1))).1 1816)) - r3.1))) _ h hzk hc hs H locs ls hP hD hS (lv_sub hl [2, 1, 0] rfl)
      · intro z cells slots L σ r h hzk hc hs H locs ls hP hD hS hl
        rw [f_X3_endFunc] at h
        refine lv_aload_n hx hb dX3_endFunc_43 rfl (lv_at hl 0 rfl) ?_
        refine lv_aload_n hx hb dX3_endFunc_44 rfl (lv_at hl 0 rfl) ?_
        refine hg_18_11 hx hb hts in_f_X3_endFunc_X3 hown hK hP (hts _ (List.mem_cons_of_mem _ (List.mem_append_left _ (List.mem_append_left _ (List.mem_of_getElem? (i := 10) rfl))))) dX3_endFunc_45 ?_
        refine lv_aload_n hx hb dX3_endFunc_48 rfl (lv_at hl 0 rfl) ?_
        refine hg_18_7 hx hb hts in_f_X3_endFunc_X3 hown hK hP (hts _ (List.mem_cons_of_mem _ (List.mem_append_left _ (List.mem_append_left _ (List.mem_of_getElem? (i := 7) rfl))))) dX3_endFunc_49 ?_
        refine lv_iload_n hx hb dX3_endFunc_52 rfl (lv_at hl 2 rfl) ?_
        refine lv_iconst (v := 3) hx hb dX3_endFunc_53 (by decide) ?_
        refine lv_iadd hx hb dX3_endFunc_54 ?_
        obtain ⟨q1, h⟩ := kr_ite1 h
        refine hl_20 hx hb hK hP q1 dX3_endFunc_55 ?_
        obtain ⟨r2, hc2, h⟩ := op_ex h
        refine kc_i (va_runSN (As := [.int (σ.2.2.1 20 ((((L.1 2)) + 3)).toNatClampNeg)]) (rest := [.int (σ.1 1811), .ref (a 18)]) ⟨hx, hb, hml, hown, hts⟩ (c_y_X11_unraw l dC dI cy a z k (lI lZ 0 ((σ.2.2.1 20 ((((L.1 2)) + 3)).toNatClampNeg))) σ r2 hc2 H.size) ⟨va_cnB 1 hts g_y_X3_endFunc_X11_unraw_SN388 rfl rfl rfl (hG.1 _ (List.mem_of_getElem? (i := 104) rfl)) (hts _ (List.mem_cons_of_mem _ (List.mem_append_left _ (List.mem_append_left _ (List.mem_of_getElem? (i := 8) rfl))))) hd_y_X11_unraw ⟨Nat.le_of_ble_eq_true rfl, Nat.le_of_ble_eq_true rfl⟩, (hts _ (List.mem_cons_of_mem _ (List.mem_append_left _ (List.mem_append_left _ (List.mem_of_getElem? (i := 9) rfl))))), trivial⟩ ⟨nb_blind, (kb_pre hK hG hP hD)⟩ rfl rfl hl.1 rfl (lv_room (Nat.le_of_ble_eq_true rfl)) dX3_endFunc_56 ⟨(Nat.le_trans (Nat.le_add_right _ _) (Nat.le_of_eq hc)), (Nat.le_trans (Nat.le_add_right _ _) (Nat.le_of_eq hs))⟩) hA hP hD hS (fun H locs hP hD hS => ?_)
        refine lv_isub hx hb dX3_endFunc_59 ?_
        refine hp_18_11 hx hb hts in_f_X3_endFunc_X3 hown hK hP hD hS (hts _ (List.mem_cons_of_mem _ (List.mem_append_left _ (List.mem_append_left _ (List.mem_of_getElem? (i := 10) rfl))))) dX3_endFunc_60 (fun H locs hP hD hS => ?_)
        refine lv_aload_n hx hb dX3_endFunc_63 rfl (lv_at hl 0 rfl) ?_
        refine hg_18_5 hx hb hts in_f_X3_endFunc_X3 hown hK hP (hts _ (List.mem_cons_of_mem _ (List.mem_append_left _ (List.mem_append_left _ (List.mem_of_getElem? (i := 4) rfl))))) dX3_endFunc_64 ?_
        refine lv_aload_n hx hb dX3_endFunc_67 rfl (lv_at hl 0 rfl) ?_
        refine hg_18_7 hx hb hts in_f_X3_endFunc_X3 hown hK hP (hts _ (List.mem_cons_of_mem _ (List.mem_append_left _ (List.mem_append_left _ (List.mem_of_getElem? (i := 7) rfl))))) dX3_endFunc_68 ?_
        refine lv_iload_n hx hb dX3_endFunc_71 rfl (lv_at hl 2 rfl) ?_
        obtain ⟨q3, h⟩ := kr_ite1 h
        refine hl_20 hx hb hK hP q3 dX3_endFunc_72 ?_
        obtain ⟨r4, hc4, h⟩ := op_ex h
        refine kc_i (va_runSN (As := [.int ((uI r2.2 1811 ((((σ.1 1811)) - r2.1))).2.2.1 20 ((L.1 2)).toNatClampNeg)]) (rest := [.ref (a 19)]) ⟨hx, hb, hml, hown, hts⟩ (c_y_X11_unraw l dC dI cy a z k (lI lZ 0 (((uI r2.2 1811 ((((σ.1 1811)) - r2.1))).2.2.1 20 ((L.1 2)).toNatClampNeg))) (uI r2.2 1811 ((((σ.1 1811)) - r2.1))) r4 hc4 H.size) ⟨va_cnB 1 hts g_y_X3_endFunc_X11_unraw_SN388 rfl rfl rfl (hG.1 _ (List.mem_of_getElem? (i := 104) rfl)) (hts _ (List.mem_cons_of_mem _ (List.mem_append_left _ (List.mem_append_left _ (List.mem_of_getElem? (i := 8) rfl))))) hd_y_X11_unraw ⟨Nat.le_of_ble_eq_true rfl, Nat.le_of_ble_eq_true rfl⟩, (hts _ (List.mem_cons_of_mem _ (List.mem_append_left _ (List.mem_append_left _ (List.mem_of_getElem? (i := 9) rfl))))), trivial⟩ ⟨nb_blind, (kb_pre hK hG hP hD)⟩ rfl rfl hl.1 rfl (lv_room (Nat.le_of_ble_eq_true rfl)) dX3_endFunc_73 ⟨(Nat.le_trans (Nat.le_add_right _ _) (Nat.le_of_eq hc)), (Nat.le_trans (Nat.le_add_right _ _) (Nat.le_of_eq hs))⟩) hA hP hD hS (fun H locs hP hD hS => ?_)
        exact ih.2.2.1 z _ _ (lI L 100 r4.1) r4.2 _ h hzk hc hs H locs ls hP hD hS (lv_sub hl [0, 1, 2] rfl)
      · intro z cells slots L σ r h hzk hc hs H locs ls hP hD hS hl
        rw [f_X3_endFunc] at h
        refine hp_19_0n hx hb hts in_f_X3_endFunc_X8 hown hK hP hD hS (va_Nw.use rfl (hG.1 _ (List.mem_of_getElem? (i := 8) rfl))) dX3_endFunc_76 (fun H locs hP hD hS => ?_)
        refine lv_aload_n hx hb dX3_endFunc_79 rfl (lv_at hl 0 rfl) ?_
        refine hg_18_5 hx hb hts in_f_X3_endFunc_X3 hown hK hP (hts _ (List.mem_cons_of_mem _ (List.mem_append_left _ (List.mem_append_left _ (List.mem_of_getElem? (i := 4) rfl))))) dX3_endFunc_80 ?_
        refine lv_aload_n hx hb dX3_endFunc_83 rfl (lv_at hl 0 rfl) ?_
        refine hg_18_7 hx hb hts in_f_X3_endFunc_X3 hown hK hP (hts _ (List.mem_cons_of_mem _ (List.mem_append_left _ (List.mem_append_left _ (List.mem_of_getElem? (i := 7) rfl))))) dX3_endFunc_84 ?_
        refine lv_iload_n hx hb dX3_endFunc_87 rfl (lv_at hl 2 rfl) ?_
        refine lv_iconst (v := 1) hx hb dX3_endFunc_88 (by decide) ?_
        refine lv_iadd hx hb dX3_endFunc_89 ?_
        obtain ⟨q1, h⟩ := kr_ite1 h
        refine hl_20 hx hb hK hP q1 dX3_endFunc_90 ?_
        obtain ⟨r2, hc2, h⟩ := op_ex h
        refine kc_i (va_runSN (As := [.int ((uI σ 1900 ((L.1 100))).2.2.1 20 ((((L.1 2)) + 1)).toNatClampNeg)]) (rest := [.ref (a 19)]) ⟨hx, hb, hml, hown, hts⟩ (c_y_X11_unraw l dC dI cy a z k (lI lZ 0 (((uI σ 1900 ((L.1 100))).2.2.1 20 ((((L.1 2)) + 1)).toNatClampNeg))) (uI σ 1900 ((L.1 100))) r2 hc2 H.size) ⟨va_cnB 1 hts g_y_X3_endFunc_X11_unraw_SN388 rfl rfl rfl (hG.1 _ (List.mem_of_getElem? (i := 104) rfl)) (hts _ (List.mem_cons_of_mem _ (List.mem_append_left _ (List.mem_append_left _ (List.mem_of_getElem? (i := 8) rfl))))) hd_y_X11_unraw ⟨Nat.le_of_ble_eq_true rfl, Nat.le_of_ble_eq_true rfl⟩, (hts _ (List.mem_cons_of_mem _ (List.mem_append_left _ (List.mem_append_left _ (List.mem_of_getElem? (i := 9) rfl))))), trivial⟩ ⟨nb_blind, (kb_pre hK hG hP hD)⟩ rfl rfl hl.1 rfl (lv_room (Nat.le_of_ble_eq_true rfl)) dX3_endFunc_91 ⟨(Nat.le_trans (Nat.le_add_right _ _) (Nat.le_of_eq hc)), (Nat.le_trans (Nat.le_add_right _ _) (Nat.le_of_eq hs))⟩) hA hP hD hS (fun H locs hP hD hS => ?_)
        refine hp_19_1n hx hb hts in_f_X3_endFunc_X8 hown hK hP hD hS (va_Nw.use rfl (hG.1 _ (List.mem_of_getElem? (i := 9) rfl))) dX3_endFunc_94 (fun H locs hP hD hS => ?_)
        exact ih.2.2.2 z _ _ L (uI r2.2 1901 r2.1) _ h hzk hc hs H locs ls hP hD hS (lv_sub hl [0, 1, 2] rfl)
      · intro z cells slots L σ r h hzk hc hs H locs ls hP hD hS hl
        rw [f_X3_endFunc] at h
        refine lv_aload_n hx hb dX3_endFunc_97 rfl (lv_at hl 0 rfl) ?_
        refine hg_18_5 hx hb hts in_f_X3_endFunc_X3 hown hK hP (hts _ (List.mem_cons_of_mem _ (List.mem_append_left _ (List.mem_append_left _ (List.mem_of_getElem? (i := 4) rfl))))) dX3_endFunc_98 ?_
        refine lv_iload_n hx hb dX3_endFunc_101 rfl (lv_at hl 2 rfl) ?_
        refine hp_19_2n hx hb hts in_f_X3_endFunc_X8 hown hK hP hD hS (va_Nw.use rfl (hG.1 _ (List.mem_of_getElem? (i := 10) rfl))) dX3_endFunc_102 (fun H locs hP hD hS => ?_)
        refine lv_aload_n hx hb dX3_endFunc_105 rfl (lv_at hl 0 rfl) ?_
        refine lv_iload_n hx hb dX3_endFunc_106 rfl (lv_at hl 1 rfl) ?_
        obtain ⟨r1, hc1, hle1, h9⟩ := ox_ex h
        clear h
        refine kx_v (vx_runV (As := [.int (L.1 1)]) (rest := []) ⟨hx, hb, hml, hown, hts⟩ (c_f_X3_give l hl0 dC dI cy ek a k (lI lZ 1 ((L.1 1))) (uI σ 1902 ((L.1 2))) r1 hc1 z H.size) (cwV 1 hts g_f_X3_endFunc_X3_give_V391 rfl rfl rfl hd_f_X3_give ⟨Nat.le_of_ble_eq_true rfl, Nat.le_of_ble_eq_true rfl⟩) ⟨nb_blindF, va_recv hK hP (ci := 3) (q0 := 18) rfl rfl, (kx_pre hK hG hE hT hA hP hD hS)⟩ rfl rfl hl.1 rfl (lv_room (Nat.le_of_ble_eq_true rfl)) dX3_endFunc_107 ⟨Nat.le_trans (Nat.add_le_add_left hle1.1 _) (Nat.le_of_eq hc), Nat.le_trans (Nat.add_le_add_left hle1.2 _) (Nat.le_of_eq hs)⟩) hK hA hzk hP hD hS (by decide) hno hlocks ?_
        rcases h9 with ⟨h00, y1, hny1, hy⟩ | ⟨h00, hy⟩
        · subst hy
          have h := hny1
          refine Or.inl ⟨h00, fun z H locs hz1 hzk hP hD hS => ?_⟩
          replace hc := (Nat.add_assoc _ _ _).trans hc
          replace hs := (Nat.add_assoc _ _ _).trans hs
          obtain rfl := Option.some.inj h
          subst hc
          subst hs
          exact xr_v hx hb hr hK hzk hP hD hS hlocks dX3_endFunc_110
        · subst hy
          exact Or.inr ⟨h00, rfl, hc, hs⟩
  exact (blk k0).1 z 0 0 L0 σ0 r0 h0 (zk_rf _ _) ((Nat.zero_add _).trans hmc) ((Nat.zero_add _).trans hms) s.heap [] ls hP hD hS hl
/-! X3_callProc -/
def f_X3_callProc : Nat → Nat → LV → CS → Option RS
  | 0, _, _, _ => none
  | k + 1, 0, L, σ => if ((σ.1 1908)) < 50 then (f_X3_callProc k 1 L σ) else (op (y_X3_fail k 0 (lI lZ 1 7) σ) (fun r2 => some ((0, 0), r2.2, (0, 0))))
  | k + 1, 1, L, σ => oP (sPr σ) (fun b1 => if ¬ (((L.1 1)) < 0 ∨ 42 ≤ ((L.1 1)).toNatClampNeg) then (oP (sPr σ) (fun b3 => if ¬ (((L.1 1)) < 0 ∨ 42 ≤ ((L.1 1)).toNatClampNeg) then (f_X3_callProc k 2 (lI (lI L 3 ((((σ.2.2.1 (pR17 b3) ((L.1 1)).toNatClampNeg)) - ((σ.2.2.1 (pR14 b1) ((L.1 1)).toNatClampNeg))))) 4 ((((σ.1 1902)) - ((σ.2.2.1 (pR14 b1) ((L.1 1)).toNatClampNeg))))) σ) else none)) else none)
  | k + 1, 2, L, σ => if ((σ.1 1902)) ≤ ((L.1 4)) then (f_X3_callProc k 3 L σ) else (if ¬ (((L.1 4)) < 0 ∨ (sN σ 20) ≤ ((L.1 4)).toNatClampNeg) then (op (y_X1_size k 0 (lI lZ 1 ((σ.2.2.1 20 ((L.1 4)).toNatClampNeg))) σ) (fun r3 => f_X3_callProc k 2 (lI (lI L 3 ((((L.1 3)) + r3.1))) 4 ((((L.1 4)) + 1))) r3.2)) else none)
  | k + 1, 3, L, σ => if ((((((σ.1 1909)) + ((L.1 3)))) + ((σ.1 1911)))) ≤ 40000 then (f_X3_callProc k 4 L σ) else (op (y_X3_fail k 0 (lI lZ 1 6) σ) (fun r2 => some ((0, 0), r2.2, (0, 0))))
  | k + 1, 4, L, σ => ox (f_X3_enter k 0 (lI (lI (lI (lI lZ 1 ((L.1 1))) 2 ((σ.1 1900))) 3 ((L.1 1))) 4 ((σ.1 1910))) σ) (fun r1 => f_X3_callProc k 5 L (uI (uI (uI r1.2.1 1908 ((((r1.2.1.1 1908)) + 1))) 1909 (((((uI r1.2.1 1908 ((((r1.2.1.1 1908)) + 1))).1 1909)) + ((L.1 3))))) 1910 ((L.1 3))))
  | k + 1, 5, L, σ => some ((0, 0), σ, (0, 0))
  | _ + 1, _ + 6, _, _ => none
def o_f_X3_callProc : List Cond := [.fieldLink RX3 14 "SetHouse$Machine" "run" "LSetHouse$Run;", .methodLink RX3 313 yX3_fail, .instanceMethod yX3_fail, .selects RX3 yX3_fail yX3_fail, .initialized RX3, .fieldLink RX3 58 "SetHouse$Machine" "program" "LSetHouse$Program;", .fieldLink RX3 39 "SetHouse$Machine" "heap" "LSetHouse$Heap;", .fieldLink RX3 18 "SetHouse$Machine" "stack" "[I", .methodLink RX3 316 yX1_size, .instanceMethod yX1_size, .selects RX1 yX1_size yX1_size, .initialized RX1, .constant RX3 394 (40000), .methodLink RX3 378 yX3_enter, .instanceMethod yX3_enter, .selects RX3 yX3_enter yX3_enter]
theorem o_f_X3_callProc_good : o_f_X3_callProc.all goodWord = true := by decide +kernel
def p_f_X3_callProc : List Cond := o_f_X3_callProc ++ ((.code yX3_fail cX3_fail 2 none :: p_y_X3_fail) ++ ((.code yX1_size cX1_size 3 (some .int) :: p_y_X1_size) ++ ((.code yX3_enter cX3_enter 6 none :: p_f_X3_enter) ++ [])))
theorem p_f_X3_callProc_good : p_f_X3_callProc.all goodWord = true := nb_all2 o_f_X3_callProc_good (nb_all2 (nb_allc (by decide +kernel) p_y_X3_fail_good) (nb_all2 (nb_allc (by decide +kernel) p_y_X1_size_good) (nb_all2 (nb_allc (by decide +kernel) p_f_X3_enter_good) rfl)))
def w_f_X3_callProc : List Cond := .code yX3_callProc cX3_callProc 5 none :: (p_f_X3_callProc ++ fC)
theorem w_f_X3_callProc_good : w_f_X3_callProc.all goodWord = true := nb_allc (by decide +kernel) (nb_all2 p_f_X3_callProc_good fC_good)
theorem in_f_X3_callProc_X3 : ∀ w ∈ wsX30, w ∈ w_f_X3_callProc := fun _ h => List.mem_cons_of_mem _ (List.mem_append_right _ (List.mem_append_right _ (List.mem_append_right _ (List.mem_append_right _ (List.mem_append_left _ h)))))
theorem in_f_X3_callProc_X7 : ∀ w ∈ wsX70, w ∈ w_f_X3_callProc := fun _ h => List.mem_cons_of_mem _ (List.mem_append_right _ (List.mem_append_right _ (List.mem_append_right _ (List.mem_append_right _ (List.mem_append_right _ (List.mem_append_right _ (List.mem_append_right _ (List.mem_append_left _ h))))))))
theorem in_f_X3_callProc_X8 : ∀ w ∈ wsX80, w ∈ w_f_X3_callProc := fun _ h => List.mem_cons_of_mem _ (List.mem_append_right _ (List.mem_append_right _ (List.mem_append_right _ (List.mem_append_right _ (List.mem_append_right _ (List.mem_append_right _ (List.mem_append_right _ (List.mem_append_right _ (List.mem_append_left _ h)))))))))
theorem hd_f_X3_callProc : yX3_callProc.cls = RX3 ∧ yX3_callProc.cls ≠ "java/lang/invoke/MethodHandle" ∧ yX3_callProc.cls ≠ "java/lang/invoke/VarHandle" ∧ (parseMethodDescriptor yX3_callProc.desc).map (fun d => d.parameters.length) = some 1 := by decide +kernel
theorem gg_f_X3_callProc_X3_enter : GoodIn w_f_X3_callProc w_f_X3_enter := goodIn_sub (fun w h => (List.mem_cons.mp h).elim (fun e => (List.mem_cons_of_mem _ (List.mem_append_left _ (List.mem_append_right _ (List.mem_append_right _ (List.mem_append_right _ (List.mem_append_left _ (List.mem_cons.mpr (Or.inl e))))))))) (fun h => (List.mem_append.mp h).elim (fun h => (List.mem_cons_of_mem _ (List.mem_append_left _ (List.mem_append_right _ (List.mem_append_right _ (List.mem_append_right _ (List.mem_append_left _ (List.mem_cons_of_mem _ h)))))))) (fun h => List.mem_cons_of_mem _ (List.mem_append_right _ h)))) w_f_X3_enter_good
theorem g_f_X3_callProc_X3_enter_V378 : GoodIn w_f_X3_callProc (wsV RX3 378 RX3 yX3_enter w_f_X3_enter) := goodIn_app (nb_g4 (List.mem_cons_of_mem _ (List.mem_append_left _ (List.mem_append_left _ (List.mem_of_getElem? (i := 13) rfl)))) (List.mem_cons_of_mem _ (List.mem_append_left _ (List.mem_append_left _ (List.mem_of_getElem? (i := 14) rfl)))) (List.mem_cons_of_mem _ (List.mem_append_left _ (List.mem_append_left _ (List.mem_of_getElem? (i := 15) rfl)))) (List.mem_cons_of_mem _ (List.mem_append_left _ (List.mem_append_left _ (List.mem_of_getElem? (i := 4) rfl)))) (by decide +kernel)) gg_f_X3_callProc_X3_enter
theorem gg_f_X3_callProc_X1_size : GoodIn w_f_X3_callProc w_y_X1_size := goodIn_sub (fun w h => (List.mem_cons.mp h).elim (fun e => (List.mem_cons_of_mem _ (List.mem_append_left _ (List.mem_append_right _ (List.mem_append_right _ (List.mem_append_left _ (List.mem_cons.mpr (Or.inl e)))))))) (fun h => (List.mem_append.mp h).elim (fun h => (List.mem_cons_of_mem _ (List.mem_append_left _ (List.mem_append_right _ (List.mem_append_right _ (List.mem_append_left _ (List.mem_cons_of_mem _ h))))))) (fun h => List.mem_cons_of_mem _ (List.mem_append_right _ h)))) w_y_X1_size_good
theorem g_y_X3_callProc_X1_size_V316 : GoodIn w_f_X3_callProc (wsV RX3 316 RX1 yX1_size w_y_X1_size) := goodIn_app (nb_g4 (List.mem_cons_of_mem _ (List.mem_append_left _ (List.mem_append_left _ (List.mem_of_getElem? (i := 8) rfl)))) (List.mem_cons_of_mem _ (List.mem_append_left _ (List.mem_append_left _ (List.mem_of_getElem? (i := 9) rfl)))) (List.mem_cons_of_mem _ (List.mem_append_left _ (List.mem_append_left _ (List.mem_of_getElem? (i := 10) rfl)))) (List.mem_cons_of_mem _ (List.mem_append_left _ (List.mem_append_left _ (List.mem_of_getElem? (i := 11) rfl)))) (by decide +kernel)) gg_f_X3_callProc_X1_size
theorem gg_f_X3_callProc_X3_fail : GoodIn w_f_X3_callProc w_y_X3_fail := goodIn_sub (fun w h => (List.mem_cons.mp h).elim (fun e => (List.mem_cons_of_mem _ (List.mem_append_left _ (List.mem_append_right _ (List.mem_append_left _ (List.mem_cons.mpr (Or.inl e))))))) (fun h => (List.mem_append.mp h).elim (fun h => (List.mem_cons_of_mem _ (List.mem_append_left _ (List.mem_append_right _ (List.mem_append_left _ (List.mem_cons_of_mem _ h)))))) (fun h => List.mem_cons_of_mem _ (List.mem_append_right _ h)))) w_y_X3_fail_good
theorem g_y_X3_callProc_X3_fail_V313 : GoodIn w_f_X3_callProc (wsV RX3 313 RX3 yX3_fail w_y_X3_fail) := goodIn_app (nb_g4 (List.mem_cons_of_mem _ (List.mem_append_left _ (List.mem_append_left _ (List.mem_of_getElem? (i := 1) rfl)))) (List.mem_cons_of_mem _ (List.mem_append_left _ (List.mem_append_left _ (List.mem_of_getElem? (i := 2) rfl)))) (List.mem_cons_of_mem _ (List.mem_append_left _ (List.mem_append_left _ (List.mem_of_getElem? (i := 3) rfl)))) (List.mem_cons_of_mem _ (List.mem_append_left _ (List.mem_append_left _ (List.mem_of_getElem? (i := 4) rfl)))) (by decide +kernel)) gg_f_X3_callProc_X3_fail
set_option maxHeartbeats 40000000 in
set_option maxRecDepth 100000 in
theorem c_f_X3_callProc (l : Launch) (hl0 : l.stackTraces = false) (dC : Nat → ClassId) (dI : Nat → Nat → Nat) (cy : Nat → ClassId) (ek a : Nat → Nat) (k0 : Nat) (L0 : LV) (σ0 : CS) (r0 : RS) (h0 : f_X3_callProc k0 0 L0 σ0 = some r0) (z : Nat → Nat) (sz : Nat) : vx_Met l yX3_callProc w_f_X3_callProc ({ frames := 6, cells := r0.2.2.1, slots := r0.2.2.2, locals := 183 }) (va_Pc [.ref (a 18), .int (L0.1 1)] (nInF (dC, dI) cy ek sz (vC cy a z σ0))) (xV dC dI cy a (va_A (vC cy a z σ0) sz) [20] z r0) (xX dC dI cy a (va_A (vC cy a z σ0) sz) [20] z r0) r0.2.2.1 r0.2.2.2 (va_A (vC cy a z σ0) sz) := by
  refine vx_ofW (cc := cX3_callProc) (maxL := 5) (ret := none) (by decide) rfl ?_
  intro p e s m args below meth c s₁ B hml hno hv
  obtain ⟨rfl, ⟨⟨hsz, hP, hK, hD0, hG⟩, hE⟩, hT⟩ := hv
  have hx := B.exec
  have hb := B.bytes
  have hr := B.returns
  have hts := atoms_spec (ws := w_f_X3_callProc) B.pre
  have hown : s.vm.findClass RX3 = some m.cls := findClass_of_methodNamed B.named
  have hlocks := B.notSynchronized
  subst hsz
  have hD := hD0.self (sz := s.heap.size)
  generalize hAe : va_A (vC cy a z σ0) s.heap.size = A at hD hE hT ⊢
  have hA : ∀ q : Nat, s.heap.size ≤ q → A q := fun q h => by rw [← hAe]; exact Or.inr h
  have hS : va_S A s.heap s.heap [] := va_S.rf
  have hl := lv_entry ([.ref (a 18), .int (L0.1 1)]) (n := 5) (Nat.le_of_ble_eq_true rfl)
  rw [lg_entry_eq]
  generalize (lg_sl ([.ref (a 18), .int (L0.1 1)]) ++ List.replicate (5 - (lg_sl ([.ref (a 18), .int (L0.1 1)])).length) Slot.unset).toArray = ls at hl ⊢
  have hl : lv_has ls 5 [(0, .ref (a 18)), (1, .int (L0.1 1))] := hl
  generalize hmc : r0.2.2.1 = mc
  generalize hms : r0.2.2.2 = ms
  have blk : ∀ k : Nat, (bX p l e (headSpec w_f_X3_callProc ({ frames := 6, cells := mc, slots := ms, locals := 183 })).room s m #[.ref (a 18), .int (L0.1 1)] below meth c dC dI cy a A (fun r => vx_MQ below (xV dC dI cy a A [20] z r) (xX dC dI cy a A [20] z r) #[.ref (a 18), .int (L0.1 1)] s mc ms A) [20] z mc ms 5 (f_X3_callProc k 0) (fun z L => [(0, .ref (a 18)), (1, .int (L.1 1))]) 0 (fun z L => [])) ∧ (bX p l e (headSpec w_f_X3_callProc ({ frames := 6, cells := mc, slots := ms, locals := 183 })).room s m #[.ref (a 18), .int (L0.1 1)] below meth c dC dI cy a A (fun r => vx_MQ below (xV dC dI cy a A [20] z r) (xX dC dI cy a A [20] z r) #[.ref (a 18), .int (L0.1 1)] s mc ms A) [20] z mc ms 5 (f_X3_callProc k 1) (fun z L => [(0, .ref (a 18)), (1, .int (L.1 1))]) 19 (fun z L => [])) ∧ (bX p l e (headSpec w_f_X3_callProc ({ frames := 6, cells := mc, slots := ms, locals := 183 })).room s m #[.ref (a 18), .int (L0.1 1)] below meth c dC dI cy a A (fun r => vx_MQ below (xV dC dI cy a A [20] z r) (xX dC dI cy a A [20] z r) #[.ref (a 18), .int (L0.1 1)] s mc ms A) [20] z mc ms 5 (f_X3_callProc k 2) (fun z L => [(0, .ref (a 18)), (1, .int (L.1 1)), (3, .int (L.1 3)), (4, .int (L.1 4))]) 52 (fun z L => [])) ∧ (bX p l e (headSpec w_f_X3_callProc ({ frames := 6, cells := mc, slots := ms, locals := 183 })).room s m #[.ref (a 18), .int (L0.1 1)] below meth c dC dI cy a A (fun r => vx_MQ below (xV dC dI cy a A [20] z r) (xX dC dI cy a A [20] z r) #[.ref (a 18), .int (L0.1 1)] s mc ms A) [20] z mc ms 5 (f_X3_callProc k 3) (fun z L => [(0, .ref (a 18)), (1, .int (L.1 1)), (3, .int (L.1 3))]) 87 (fun z L => [])) ∧ (bX p l e (headSpec w_f_X3_callProc ({ frames := 6, cells := mc, slots := ms, locals := 183 })).room s m #[.ref (a 18), .int (L0.1 1)] below meth c dC dI cy a A (fun r => vx_MQ below (xV dC dI cy a A [20] z r) (xX dC dI cy a A [20] z r) #[.ref (a 18), .int (L0.1 1)] s mc ms A) [20] z mc ms 5 (f_X3_callProc k 4) (fun z L => [(0, .ref (a 18)), (1, .int (L.1 1)), (3, .int (L.1 3))]) 117 (fun z L => [])) ∧ (bX p l e (headSpec w_f_X3_callProc ({ frames := 6, cells := mc, slots := ms, locals := 183 })).room s m #[.ref (a 18), .int (L0.1 1)] below meth c dC dI cy a A (fun r => vx_MQ below (xV dC dI cy a A [20] z r) (xX dC dI cy a A [20] z r) #[.ref (a 18), .int (L0.1 1)] s mc ms A) [20] z mc ms 5 (f_X3_callProc k 5) (fun z L => []) 174 (fun z L => [])) := by
    intro k
    induction k with
    | zero => exact ⟨fun z c1 c2 L σ r h => (by cases h), fun z c1 c2 L σ r h => (by cases h), fun z c1 c2 L σ r h => (by cases h), fun z c1 c2 L σ r h => (by cases h), fun z c1 c2 L σ r h => (by cases h), fun z c1 c2 L σ r h => (by cases h)⟩
    | succ k ih =>
      refine ⟨?_, ?_, ?_, ?_, ?_, ?_⟩
      · intro z cells slots L σ r h hzk hc hs H locs ls hP hD hS hl
        rw [f_X3_callProc] at h
        refine lv_aload_n hx hb dX3_callProc_0 rfl (lv_at hl 0 rfl) ?_
        refine hg_18_5 hx hb hts in_f_X3_callProc_X3 hown hK hP (hts _ (List.mem_cons_of_mem _ (List.mem_append_left _ (List.mem_append_left _ (List.mem_of_getElem? (i := 0) rfl))))) dX3_callProc_1 ?_
        refine hg_19_8n hx hb hts in_f_X3_callProc_X8 hown hK hP (va_Nw.use rfl (hG.1 _ (List.mem_of_getElem? (i := 23) rfl))) dX3_callProc_4 ?_
        refine lv_bipush (v := 50) hx hb dX3_callProc_7 (by decide) ?_
        refine lv_icmp_lt (tgt := 19) hx hb dX3_callProc_9 (by decide) (fun c1 => ?_) (fun c1 => ?_)
        · rw [if_pos c1] at h
          exact ih.2.1 z _ _ L σ _ h hzk hc hs H locs ls hP hD hS (lv_sub hl [0, 1] rfl)
        · rw [if_neg c1] at h
          refine lv_aload_n hx hb dX3_callProc_12 rfl (lv_at hl 0 rfl) ?_
          refine lv_bipush (v := 7) hx hb dX3_callProc_13 (by decide) ?_
          obtain ⟨r2, hc2, h⟩ := op_ex h
          refine kc_v (va_runV (As := [.int 7]) (rest := []) ⟨hx, hb, hml, hown, hts⟩ (c_y_X3_fail l dC dI cy a z k (lI lZ 1 7) σ r2 hc2 H.size) (cwV 1 hts g_y_X3_callProc_X3_fail_V313 rfl rfl rfl hd_y_X3_fail ⟨Nat.le_of_ble_eq_true rfl, Nat.le_of_ble_eq_true rfl⟩) ⟨nb_blind, va_recv hK hP (ci := 3) (q0 := 18) rfl rfl, (kb_pre hK hG hP hD)⟩ rfl rfl hl.1 rfl (lv_room (Nat.le_of_ble_eq_true rfl)) dX3_callProc_15 ⟨(Nat.le_trans (Nat.le_add_right _ _) (Nat.le_of_eq hc)), (Nat.le_trans (Nat.le_add_right _ _) (Nat.le_of_eq hs))⟩) hA hP hD hS (fun H locs hP hD hS => ?_)
          obtain rfl := Option.some.inj h
          subst hc
          subst hs
          exact xr_v hx hb hr hK hzk hP hD hS hlocks dX3_callProc_18
      · intro z cells slots L σ r h hzk hc hs H locs ls hP hD hS hl
        rw [f_X3_callProc] at h
        refine lv_aload_n hx hb dX3_callProc_19 rfl (lv_at hl 0 rfl) ?_
        obtain ⟨b1, hb1, h⟩ := oP_ex h
        refine hgq_18_6 hx hb hts in_f_X3_callProc_X3 hown hK hP (hts _ (List.mem_cons_of_mem _ (List.mem_append_left _ (List.mem_append_left _ (List.mem_of_getElem? (i := 5) rfl))))) hb1 dX3_callProc_20 ?_
        refine hg_P_14n b1 hx hb hts in_f_X3_callProc_X7 hown hK hP (va_Nw.use rfl (hG.1 _ (List.mem_of_getElem? (i := 86) rfl))) dX3_callProc_23 ?_
        refine lv_iload_n hx hb dX3_callProc_26 rfl (lv_at hl 1 rfl) ?_
        obtain ⟨q2, h⟩ := kr_ite1 h
        refine hl_P14 b1 hx hb hK hP q2 dX3_callProc_27 ?_
        refine lv_istore_n (lv' := [(2, .int (σ.2.2.1 (pR14 b1) ((L.1 1)).toNatClampNeg)), (0, .ref (a 18)), (1, .int (L.1 1))]) hx hb dX3_callProc_28 rfl hl (by decide) rfl (fun ls hl => ?_)
        refine lv_aload_n hx hb dX3_callProc_29 rfl (lv_at hl 1 rfl) ?_
        obtain ⟨b3, hb3, h⟩ := oP_ex h
        refine hgq_18_6 hx hb hts in_f_X3_callProc_X3 hown hK hP (hts _ (List.mem_cons_of_mem _ (List.mem_append_left _ (List.mem_append_left _ (List.mem_of_getElem? (i := 5) rfl))))) hb3 dX3_callProc_30 ?_
        refine hg_P_17n b3 hx hb hts in_f_X3_callProc_X7 hown hK hP (va_Nw.use rfl (hG.1 _ (List.mem_of_getElem? (i := 90) rfl))) dX3_callProc_33 ?_
        refine lv_iload_n hx hb dX3_callProc_36 rfl (lv_at hl 2 rfl) ?_
        obtain ⟨q4, h⟩ := kr_ite1 h
        refine hl_P17 b3 hx hb hK hP q4 dX3_callProc_37 ?_
        refine lv_iload_n hx hb dX3_callProc_38 rfl (lv_at hl 0 rfl) ?_
        refine lv_isub hx hb dX3_callProc_39 ?_
        refine lv_istore_n (lv' := [(3, .int (((σ.2.2.1 (pR17 b3) ((L.1 1)).toNatClampNeg)) - ((σ.2.2.1 (pR14 b1) ((L.1 1)).toNatClampNeg)))), (2, .int (σ.2.2.1 (pR14 b1) ((L.1 1)).toNatClampNeg)), (0, .ref (a 18)), (1, .int (L.1 1))]) hx hb dX3_callProc_40 rfl hl (by decide) rfl (fun ls hl => ?_)
        refine lv_aload_n hx hb dX3_callProc_41 rfl (lv_at hl 2 rfl) ?_
        refine hg_18_5 hx hb hts in_f_X3_callProc_X3 hown hK hP (hts _ (List.mem_cons_of_mem _ (List.mem_append_left _ (List.mem_append_left _ (List.mem_of_getElem? (i := 0) rfl))))) dX3_callProc_42 ?_
        refine hg_19_2n hx hb hts in_f_X3_callProc_X8 hown hK hP (va_Nw.use rfl (hG.1 _ (List.mem_of_getElem? (i := 10) rfl))) dX3_callProc_45 ?_
        refine lv_iload_n hx hb dX3_callProc_48 rfl (lv_at hl 1 rfl) ?_
        refine lv_isub hx hb dX3_callProc_49 ?_
        refine lv_istore (lv' := [(4, .int (((σ.1 1902)) - ((σ.2.2.1 (pR14 b1) ((L.1 1)).toNatClampNeg)))), (3, .int (((σ.2.2.1 (pR17 b3) ((L.1 1)).toNatClampNeg)) - ((σ.2.2.1 (pR14 b1) ((L.1 1)).toNatClampNeg)))), (2, .int (σ.2.2.1 (pR14 b1) ((L.1 1)).toNatClampNeg)), (0, .ref (a 18)), (1, .int (L.1 1))]) hx hb dX3_callProc_50 hl (by decide) rfl (fun ls hl => ?_)
        exact ih.2.2.1 z _ _ (lI (lI L 3 ((((σ.2.2.1 (pR17 b3) ((L.1 1)).toNatClampNeg)) - ((σ.2.2.1 (pR14 b1) ((L.1 1)).toNatClampNeg))))) 4 ((((σ.1 1902)) - ((σ.2.2.1 (pR14 b1) ((L.1 1)).toNatClampNeg))))) σ _ h hzk hc hs H locs ls hP hD hS (lv_sub hl [3, 4, 1, 0] rfl)
      · intro z cells slots L σ r h hzk hc hs H locs ls hP hD hS hl
        rw [f_X3_callProc] at h
        refine lv_iload hx hb dX3_callProc_52 (lv_at hl 3 rfl) ?_
        refine lv_aload_n hx hb dX3_callProc_54 rfl (lv_at hl 0 rfl) ?_
        refine hg_18_5 hx hb hts in_f_X3_callProc_X3 hown hK hP (hts _ (List.mem_cons_of_mem _ (List.mem_append_left _ (List.mem_append_left _ (List.mem_of_getElem? (i := 0) rfl))))) dX3_callProc_55 ?_
        refine hg_19_2n hx hb hts in_f_X3_callProc_X8 hown hK hP (va_Nw.use rfl (hG.1 _ (List.mem_of_getElem? (i := 10) rfl))) dX3_callProc_58 ?_
        refine lv_icmp_ge (tgt := 87) hx hb dX3_callProc_61 (by decide) (fun c1 => ?_) (fun c1 => ?_)
        · rw [if_pos c1] at h
          exact ih.2.2.2.1 z _ _ L σ _ h hzk hc hs H locs ls hP hD hS (lv_sub hl [0, 1, 2] rfl)
        · rw [if_neg c1] at h
          refine lv_iload_n hx hb dX3_callProc_64 rfl (lv_at hl 2 rfl) ?_
          refine lv_aload_n hx hb dX3_callProc_65 rfl (lv_at hl 0 rfl) ?_
          refine hg_18_0 hx hb hts in_f_X3_callProc_X3 hown hK hP (hts _ (List.mem_cons_of_mem _ (List.mem_append_left _ (List.mem_append_left _ (List.mem_of_getElem? (i := 6) rfl))))) dX3_callProc_66 ?_
          refine lv_aload_n hx hb dX3_callProc_69 rfl (lv_at hl 0 rfl) ?_
          refine hg_18_7 hx hb hts in_f_X3_callProc_X3 hown hK hP (hts _ (List.mem_cons_of_mem _ (List.mem_append_left _ (List.mem_append_left _ (List.mem_of_getElem? (i := 7) rfl))))) dX3_callProc_70 ?_
          refine lv_iload hx hb dX3_callProc_73 (lv_at hl 3 rfl) ?_
          obtain ⟨q2, h⟩ := kr_ite1 h
          refine hl_20 hx hb hK hP q2 dX3_callProc_75 ?_
          obtain ⟨r3, hc3, h⟩ := op_ex h
          refine kc_i (va_runV (As := [.int (σ.2.2.1 20 ((L.1 4)).toNatClampNeg)]) (rest := [.int (L.1 3)]) ⟨hx, hb, hml, hown, hts⟩ (c_y_X1_size l dC dI cy a z k (lI lZ 1 ((σ.2.2.1 20 ((L.1 4)).toNatClampNeg))) σ r3 hc3 H.size) (cwV 1 hts g_y_X3_callProc_X1_size_V316 rfl rfl rfl hd_y_X1_size ⟨Nat.le_of_ble_eq_true rfl, Nat.le_of_ble_eq_true rfl⟩) ⟨nb_blind, va_recv hK hP (ci := 1) (q0 := 0) rfl rfl, (kb_pre hK hG hP hD)⟩ rfl rfl hl.1 rfl (lv_room (Nat.le_of_ble_eq_true rfl)) dX3_callProc_76 ⟨(Nat.le_trans (Nat.le_add_right _ _) (Nat.le_of_eq hc)), (Nat.le_trans (Nat.le_add_right _ _) (Nat.le_of_eq hs))⟩) hA hP hD hS (fun H locs hP hD hS => ?_)
          refine lv_iadd hx hb dX3_callProc_79 ?_
          refine lv_istore_n (lv' := [(3, .int (((L.1 3)) + r3.1)), (0, .ref (a 18)), (1, .int (L.1 1)), (4, .int (L.1 4))]) hx hb dX3_callProc_80 rfl hl (by decide) rfl (fun ls hl => ?_)
          refine lv_iinc (v := ((L.1 4)) + 1) (lv' := [(4, .int (((L.1 4)) + 1)), (3, .int (((L.1 3)) + r3.1)), (0, .ref (a 18)), (1, .int (L.1 1))]) hx hb dX3_callProc_81 hl (k := 3) rfl rfl (by decide) rfl (fun ls hl => ?_)
          refine lv_goto (tgt := 52) hx hb dX3_callProc_84 (by decide) ?_
          exact ih.2.2.1 z _ _ (lI (lI L 3 ((((L.1 3)) + r3.1))) 4 ((((L.1 4)) + 1))) r3.2 _ h hzk hc hs H locs ls hP hD hS (lv_sub hl [2, 3, 1, 0] rfl)
      · intro z cells slots L σ r h hzk hc hs H locs ls hP hD hS hl
        rw [f_X3_callProc] at h
        refine lv_aload_n hx hb dX3_callProc_87 rfl (lv_at hl 0 rfl) ?_
        refine hg_18_5 hx hb hts in_f_X3_callProc_X3 hown hK hP (hts _ (List.mem_cons_of_mem _ (List.mem_append_left _ (List.mem_append_left _ (List.mem_of_getElem? (i := 0) rfl))))) dX3_callProc_88 ?_
        refine hg_19_9n hx hb hts in_f_X3_callProc_X8 hown hK hP (va_Nw.use rfl (hG.1 _ (List.mem_of_getElem? (i := 25) rfl))) dX3_callProc_91 ?_
        refine lv_iload_n hx hb dX3_callProc_94 rfl (lv_at hl 2 rfl) ?_
        refine lv_iadd hx hb dX3_callProc_95 ?_
        refine lv_aload_n hx hb dX3_callProc_96 rfl (lv_at hl 0 rfl) ?_
        refine hg_18_5 hx hb hts in_f_X3_callProc_X3 hown hK hP (hts _ (List.mem_cons_of_mem _ (List.mem_append_left _ (List.mem_append_left _ (List.mem_of_getElem? (i := 0) rfl))))) dX3_callProc_97 ?_
        refine hg_19_11n hx hb hts in_f_X3_callProc_X8 hown hK hP (va_Nw.use rfl (hG.1 _ (List.mem_of_getElem? (i := 29) rfl))) dX3_callProc_100 ?_
        refine lv_iadd hx hb dX3_callProc_103 ?_
        refine lv_ldcw (v := 40000) hx hb hown (hts _ (List.mem_cons_of_mem _ (List.mem_append_left _ (List.mem_append_left _ (List.mem_of_getElem? (i := 12) rfl))))) dX3_callProc_104 ?_
        refine lv_icmp_le (tgt := 117) hx hb dX3_callProc_107 (by decide) (fun c1 => ?_) (fun c1 => ?_)
        · rw [if_pos c1] at h
          exact ih.2.2.2.2.1 z _ _ L σ _ h hzk hc hs H locs ls hP hD hS (lv_sub hl [0, 1, 2] rfl)
        · rw [if_neg c1] at h
          refine lv_aload_n hx hb dX3_callProc_110 rfl (lv_at hl 0 rfl) ?_
          refine lv_bipush (v := 6) hx hb dX3_callProc_111 (by decide) ?_
          obtain ⟨r2, hc2, h⟩ := op_ex h
          refine kc_v (va_runV (As := [.int 6]) (rest := []) ⟨hx, hb, hml, hown, hts⟩ (c_y_X3_fail l dC dI cy a z k (lI lZ 1 6) σ r2 hc2 H.size) (cwV 1 hts g_y_X3_callProc_X3_fail_V313 rfl rfl rfl hd_y_X3_fail ⟨Nat.le_of_ble_eq_true rfl, Nat.le_of_ble_eq_true rfl⟩) ⟨nb_blind, va_recv hK hP (ci := 3) (q0 := 18) rfl rfl, (kb_pre hK hG hP hD)⟩ rfl rfl hl.1 rfl (lv_room (Nat.le_of_ble_eq_true rfl)) dX3_callProc_113 ⟨(Nat.le_trans (Nat.le_add_right _ _) (Nat.le_of_eq hc)), (Nat.le_trans (Nat.le_add_right _ _) (Nat.le_of_eq hs))⟩) hA hP hD hS (fun H locs hP hD hS => ?_)
          obtain rfl := Option.some.inj h
          subst hc
          subst hs
          exact xr_v hx hb hr hK hzk hP hD hS hlocks dX3_callProc_116
      · intro z cells slots L σ r h hzk hc hs H locs ls hP hD hS hl
        rw [f_X3_callProc] at h
        refine lv_aload_n hx hb dX3_callProc_117 rfl (lv_at hl 0 rfl) ?_
        refine lv_iload_n hx hb dX3_callProc_118 rfl (lv_at hl 1 rfl) ?_
        refine lv_aload_n hx hb dX3_callProc_119 rfl (lv_at hl 0 rfl) ?_
        refine hg_18_5 hx hb hts in_f_X3_callProc_X3 hown hK hP (hts _ (List.mem_cons_of_mem _ (List.mem_append_left _ (List.mem_append_left _ (List.mem_of_getElem? (i := 0) rfl))))) dX3_callProc_120 ?_
        refine hg_19_0n hx hb hts in_f_X3_callProc_X8 hown hK hP (va_Nw.use rfl (hG.1 _ (List.mem_of_getElem? (i := 8) rfl))) dX3_callProc_123 ?_
        refine lv_iload_n hx hb dX3_callProc_126 rfl (lv_at hl 1 rfl) ?_
        refine lv_aload_n hx hb dX3_callProc_127 rfl (lv_at hl 0 rfl) ?_
        refine hg_18_5 hx hb hts in_f_X3_callProc_X3 hown hK hP (hts _ (List.mem_cons_of_mem _ (List.mem_append_left _ (List.mem_append_left _ (List.mem_of_getElem? (i := 0) rfl))))) dX3_callProc_128 ?_
        refine hg_19_10n hx hb hts in_f_X3_callProc_X8 hown hK hP (va_Nw.use rfl (hG.1 _ (List.mem_of_getElem? (i := 28) rfl))) dX3_callProc_131 ?_
        obtain ⟨r1, hc1, hle1, h9⟩ := ox_ex h
        clear h
        refine kx_v (vx_runV (As := [.int (L.1 1), .int (σ.1 1900), .int (L.1 1), .int (σ.1 1910)]) (rest := []) ⟨hx, hb, hml, hown, hts⟩ (c_f_X3_enter l hl0 dC dI cy ek a k (lI (lI (lI (lI lZ 1 ((L.1 1))) 2 ((σ.1 1900))) 3 ((L.1 1))) 4 ((σ.1 1910))) σ r1 hc1 z H.size) (cwV 4 hts g_f_X3_callProc_X3_enter_V378 rfl rfl rfl hd_f_X3_enter ⟨Nat.le_of_ble_eq_true rfl, Nat.le_of_ble_eq_true rfl⟩) ⟨nb_blindF, va_recv hK hP (ci := 3) (q0 := 18) rfl rfl, (kx_pre hK hG hE hT hA hP hD hS)⟩ rfl rfl hl.1 rfl (lv_room (Nat.le_of_ble_eq_true rfl)) dX3_callProc_134 ⟨Nat.le_trans (Nat.add_le_add_left hle1.1 _) (Nat.le_of_eq hc), Nat.le_trans (Nat.add_le_add_left hle1.2 _) (Nat.le_of_eq hs)⟩) hK hA hzk hP hD hS (by decide) hno hlocks ?_
        rcases h9 with ⟨h00, y1, hny1, hy⟩ | ⟨h00, hy⟩
        · subst hy
          have h := hny1
          refine Or.inl ⟨h00, fun z H locs hz1 hzk hP hD hS => ?_⟩
          replace hc := (Nat.add_assoc _ _ _).trans hc
          replace hs := (Nat.add_assoc _ _ _).trans hs
          refine lv_aload_n hx hb dX3_callProc_137 rfl (lv_at hl 0 rfl) ?_
          refine hg_18_5 hx hb hts in_f_X3_callProc_X3 hown hK hP (hts _ (List.mem_cons_of_mem _ (List.mem_append_left _ (List.mem_append_left _ (List.mem_of_getElem? (i := 0) rfl))))) dX3_callProc_138 ?_
          refine lv_dup hx hb dX3_callProc_141 rfl ?_
          refine hg_19_8n hx hb hts in_f_X3_callProc_X8 hown hK hP (va_Nw.use rfl (hG.1 _ (List.mem_of_getElem? (i := 23) rfl))) dX3_callProc_142 ?_
          refine lv_iconst (v := 1) hx hb dX3_callProc_145 (by decide) ?_
          refine lv_iadd hx hb dX3_callProc_146 ?_
          refine hp_19_8n hx hb hts in_f_X3_callProc_X8 hown hK hP hD hS (va_Nw.use rfl (hG.1 _ (List.mem_of_getElem? (i := 23) rfl))) dX3_callProc_147 (fun H locs hP hD hS => ?_)
          refine lv_aload_n hx hb dX3_callProc_150 rfl (lv_at hl 0 rfl) ?_
          refine hg_18_5 hx hb hts in_f_X3_callProc_X3 hown hK hP (hts _ (List.mem_cons_of_mem _ (List.mem_append_left _ (List.mem_append_left _ (List.mem_of_getElem? (i := 0) rfl))))) dX3_callProc_151 ?_
          refine lv_aload_n hx hb dX3_callProc_154 rfl (lv_at hl 0 rfl) ?_
          refine hg_18_5 hx hb hts in_f_X3_callProc_X3 hown hK hP (hts _ (List.mem_cons_of_mem _ (List.mem_append_left _ (List.mem_append_left _ (List.mem_of_getElem? (i := 0) rfl))))) dX3_callProc_155 ?_
          refine hg_19_9n hx hb hts in_f_X3_callProc_X8 hown hK hP (va_Nw.use rfl (hG.1 _ (List.mem_of_getElem? (i := 25) rfl))) dX3_callProc_158 ?_
          refine lv_iload_n hx hb dX3_callProc_161 rfl (lv_at hl 2 rfl) ?_
          refine lv_iadd hx hb dX3_callProc_162 ?_
          refine hp_19_9n hx hb hts in_f_X3_callProc_X8 hown hK hP hD hS (va_Nw.use rfl (hG.1 _ (List.mem_of_getElem? (i := 25) rfl))) dX3_callProc_163 (fun H locs hP hD hS => ?_)
          refine lv_aload_n hx hb dX3_callProc_166 rfl (lv_at hl 0 rfl) ?_
          refine hg_18_5 hx hb hts in_f_X3_callProc_X3 hown hK hP (hts _ (List.mem_cons_of_mem _ (List.mem_append_left _ (List.mem_append_left _ (List.mem_of_getElem? (i := 0) rfl))))) dX3_callProc_167 ?_
          refine lv_iload_n hx hb dX3_callProc_170 rfl (lv_at hl 2 rfl) ?_
          refine hp_19_10n hx hb hts in_f_X3_callProc_X8 hown hK hP hD hS (va_Nw.use rfl (hG.1 _ (List.mem_of_getElem? (i := 28) rfl))) dX3_callProc_171 (fun H locs hP hD hS => ?_)
          exact ih.2.2.2.2.2 z _ _ L (uI (uI (uI r1.2.1 1908 ((((r1.2.1.1 1908)) + 1))) 1909 (((((uI r1.2.1 1908 ((((r1.2.1.1 1908)) + 1))).1 1909)) + ((L.1 3))))) 1910 ((L.1 3))) _ h hzk hc hs H locs ls hP hD hS (lv_sub hl [] rfl)
        · subst hy
          exact Or.inr ⟨h00, rfl, hc, hs⟩
      · intro z cells slots L σ r h hzk hc hs H locs ls hP hD hS hl
        rw [f_X3_callProc] at h
        obtain rfl := Option.some.inj h
        subst hc
        subst hs
        exact xr_v hx hb hr hK hzk hP hD hS hlocks dX3_callProc_174
  exact (blk k0).1 z 0 0 L0 σ0 r0 h0 (zk_rf _ _) ((Nat.zero_add _).trans hmc) ((Nat.zero_add _).trans hms) s.heap [] ls hP hD hS hl
/-! X3_makePoint -/
def f_X3_makePoint : Nat → Nat → LV → CS → Option RS
  | 0, _, _, _ => none
  | k + 1, 0, L, σ => if 20 ≤ ((σ.1 1912)) then (f_X3_makePoint k 1 L σ) else (if ((((((σ.1 1909)) + ((σ.1 1909)))) + ((σ.1 1911)))) ≤ 40000 then (f_X3_makePoint k 2 L σ) else (f_X3_makePoint k 1 L σ))
  | k + 1, 1, L, σ => op (y_X3_fail k 0 (lI lZ 1 6) σ) (fun r1 => some ((0, 0), r1.2, (0, 0)))
  | k + 1, 2, L, σ => if ¬ (44200 : Int32) < 0 ∧ (44200 : Int32).toNatClampNeg < 134217728 ∧ (sN σ 21) < 2147483648 then (if nI (sN σ 21) < ((((((σ.1 1913)) + ((σ.1 1902)))) + 6)) ∧ (sN σ 21) < (44200 : Int32).toNatClampNeg then (adR (1, (44200 : Int32).toNatClampNeg) (f_X3_makePoint k 3 (lI L 1 ((σ.1 1913))) (uZ σ 21 (44200 : Int32).toNatClampNeg))) else (f_X3_makePoint k 3 (lI L 1 ((σ.1 1913))) σ)) else none
  | k + 1, 3, L, σ => if ((((((L.1 1)) + ((σ.1 1902)))) + 6)) ≤ ((Int32.ofNat (sN σ 21))) then (f_X3_makePoint k 4 L σ) else (op (y_X3_fail k 0 (lI lZ 1 6) σ) (fun r2 => some ((0, 0), r2.2, (0, 0))))
  | k + 1, 4, L, σ => if ¬ (0 : Int32) < 0 ∧ ¬ ((L.1 1)) < 0 ∧ ¬ ((σ.1 1902)) < 0 ∧ (0 : Int32).toNatClampNeg + ((σ.1 1902)).toNatClampNeg ≤ (sN σ 20) ∧ ((L.1 1)).toNatClampNeg + ((σ.1 1902)).toNatClampNeg ≤ (sN σ 21) then (f_X3_makePoint k 5 L (uF σ 21 (va_cpy (σ.2.2.1 20) (σ.2.2.1 21) (0 : Int32).toNatClampNeg ((L.1 1)).toNatClampNeg ((σ.1 1902)).toNatClampNeg))) else none
  | k + 1, 5, L, σ => op (y_X11_raw k 0 (lI lZ 0 ((σ.1 1900))) σ) (fun r1 => if ¬ (((((L.1 1)) + ((σ.1 1902)))) < 0 ∨ (sN r1.2 21) ≤ ((((L.1 1)) + ((σ.1 1902)))).toNatClampNeg) then (f_X3_makePoint k 6 (lI L 1 ((((L.1 1)) + ((σ.1 1902))))) (uA r1.2 21 ((((L.1 1)) + ((σ.1 1902)))).toNatClampNeg r1.1)) else none)
  | k + 1, 6, L, σ => op (y_X11_raw k 0 (lI lZ 0 ((σ.1 1901))) σ) (fun r1 => if ¬ (((((L.1 1)) + 1)) < 0 ∨ (sN r1.2 21) ≤ ((((L.1 1)) + 1)).toNatClampNeg) then (op (y_X11_raw k 0 (lI lZ 0 (((uA r1.2 21 ((((L.1 1)) + 1)).toNatClampNeg r1.1).1 1902))) (uA r1.2 21 ((((L.1 1)) + 1)).toNatClampNeg r1.1)) (fun r3 => f_X3_makePoint k 7 (lI (lI L 100 r3.1) 101 ((((L.1 1)) + 2))) r3.2)) else none)
  | k + 1, 7, L, σ => if ¬ (((L.1 101)) < 0 ∨ (sN σ 21) ≤ ((L.1 101)).toNatClampNeg) then (op (y_X11_raw k 0 (lI lZ 0 (((uA σ 21 ((L.1 101)).toNatClampNeg ((L.1 100))).1 1908))) (uA σ 21 ((L.1 101)).toNatClampNeg ((L.1 100)))) (fun r2 => if ¬ (((((L.1 1)) + 3)) < 0 ∨ (sN r2.2 21) ≤ ((((L.1 1)) + 3)).toNatClampNeg) then (f_X3_makePoint k 8 L (uA r2.2 21 ((((L.1 1)) + 3)).toNatClampNeg r2.1)) else none)) else none
  | k + 1, 8, L, σ => op (y_X11_raw k 0 (lI lZ 0 ((σ.1 1909))) σ) (fun r1 => if ¬ (((((L.1 1)) + 4)) < 0 ∨ (sN r1.2 21) ≤ ((((L.1 1)) + 4)).toNatClampNeg) then (op (y_X11_raw k 0 (lI lZ 0 (((uA r1.2 21 ((((L.1 1)) + 4)).toNatClampNeg r1.1).1 1910))) (uA r1.2 21 ((((L.1 1)) + 4)).toNatClampNeg r1.1)) (fun r3 => f_X3_makePoint k 9 (lI (lI L 100 r3.1) 101 ((((L.1 1)) + 5))) r3.2)) else none)
  | k + 1, 9, L, σ => if ¬ (((L.1 101)) < 0 ∨ (sN σ 21) ≤ ((L.1 101)).toNatClampNeg) then (f_X3_makePoint k 10 L (uI (uI (uA σ 21 ((L.1 101)).toNatClampNeg ((L.1 100))) 1913 ((((L.1 1)) + 6))) 1912 (((((uI (uA σ 21 ((L.1 101)).toNatClampNeg ((L.1 100))) 1913 ((((L.1 1)) + 6))).1 1912)) + 1)))) else none
  | k + 1, 10, L, σ => ox (f_X3_push k 0 (lI lZ 1 ((-1879048191))) (uI σ 1911 ((((σ.1 1911)) + ((σ.1 1909)))))) (fun r1 => some ((0, 0), r1.2.1, (0, 0)))
  | _ + 1, _ + 11, _, _ => none
def o_f_X3_makePoint : List Cond := [.fieldLink RX3 14 "SetHouse$Machine" "run" "LSetHouse$Run;", .constant RX3 394 (40000), .methodLink RX3 313 yX3_fail, .instanceMethod yX3_fail, .selects RX3 yX3_fail yX3_fail, .initialized RX3, .fieldLink RX3 22 "SetHouse$Machine" "points" "[I", .constant RX3 395 (44200), .initialized RX11, .static yX11_widened, .fieldLink RX3 18 "SetHouse$Machine" "stack" "[I", .methodLink RX3 176 arraycopyName, .native arraycopyName, .static arraycopyName, .initialized "java/lang/System", .static yX11_raw, .constant RX3 325 (-1879048191), .methodLink RX3 322 yX3_push, .instanceMethod yX3_push, .selects RX3 yX3_push yX3_push]
theorem o_f_X3_makePoint_good : o_f_X3_makePoint.all goodWord = true := by decide +kernel
def p_f_X3_makePoint : List Cond := o_f_X3_makePoint ++ ((.code yX3_fail cX3_fail 2 none :: p_y_X3_fail) ++ ((.code yX11_widened cX11_widened 3 (some (.array .int)) :: p_f_X11_widened) ++ ((.code yX11_raw cX11_raw 1 (some .int) :: p_y_X11_raw) ++ ((.code yX3_push cX3_push 2 none :: p_f_X3_push) ++ []))))
theorem p_f_X3_makePoint_good : p_f_X3_makePoint.all goodWord = true := nb_all2 o_f_X3_makePoint_good (nb_all2 (nb_allc (by decide +kernel) p_y_X3_fail_good) (nb_all2 (nb_allc (by decide +kernel) p_f_X11_widened_good) (nb_all2 (nb_allc (by decide +kernel) p_y_X11_raw_good) (nb_all2 (nb_allc (by decide +kernel) p_f_X3_push_good) rfl))))
def w_f_X3_makePoint : List Cond := .code yX3_makePoint cX3_makePoint 2 none :: (p_f_X3_makePoint ++ fC)
theorem w_f_X3_makePoint_good : w_f_X3_makePoint.all goodWord = true := nb_allc (by decide +kernel) (nb_all2 p_f_X3_makePoint_good fC_good)
theorem in_f_X3_makePoint_X3 : ∀ w ∈ wsX30, w ∈ w_f_X3_makePoint := fun _ h => List.mem_cons_of_mem _ (List.mem_append_right _ (List.mem_append_right _ (List.mem_append_right _ (List.mem_append_right _ (List.mem_append_left _ h)))))
theorem in_f_X3_makePoint_X8 : ∀ w ∈ wsX80, w ∈ w_f_X3_makePoint := fun _ h => List.mem_cons_of_mem _ (List.mem_append_right _ (List.mem_append_right _ (List.mem_append_right _ (List.mem_append_right _ (List.mem_append_right _ (List.mem_append_right _ (List.mem_append_right _ (List.mem_append_right _ (List.mem_append_left _ h)))))))))
theorem hd_f_X3_makePoint : yX3_makePoint.cls = RX3 ∧ yX3_makePoint.cls ≠ "java/lang/invoke/MethodHandle" ∧ yX3_makePoint.cls ≠ "java/lang/invoke/VarHandle" ∧ (parseMethodDescriptor yX3_makePoint.desc).map (fun d => d.parameters.length) = some 0 := by decide +kernel
theorem gg_f_X3_makePoint_X11_widened : GoodIn w_f_X3_makePoint w_f_X11_widened := goodIn_sub (fun w h => (List.mem_cons.mp h).elim (fun e => (List.mem_cons_of_mem _ (List.mem_append_left _ (List.mem_append_right _ (List.mem_append_right _ (List.mem_append_left _ (List.mem_cons.mpr (Or.inl e)))))))) (fun h => (List.mem_append.mp h).elim (fun h => (List.mem_cons_of_mem _ (List.mem_append_left _ (List.mem_append_right _ (List.mem_append_right _ (List.mem_append_left _ (List.mem_cons_of_mem _ h))))))) (fun h => List.mem_cons_of_mem _ (List.mem_append_right _ h)))) w_f_X11_widened_good
theorem g_f_X3_makePoint_X11_widened_SN306 : GoodIn w_f_X3_makePoint w_f_X11_widened := gg_f_X3_makePoint_X11_widened
theorem gg_f_X3_makePoint_X3_push : GoodIn w_f_X3_makePoint w_f_X3_push := goodIn_sub (fun w h => (List.mem_cons.mp h).elim (fun e => (List.mem_cons_of_mem _ (List.mem_append_left _ (List.mem_append_right _ (List.mem_append_right _ (List.mem_append_right _ (List.mem_append_right _ (List.mem_append_left _ (List.mem_cons.mpr (Or.inl e)))))))))) (fun h => (List.mem_append.mp h).elim (fun h => (List.mem_cons_of_mem _ (List.mem_append_left _ (List.mem_append_right _ (List.mem_append_right _ (List.mem_append_right _ (List.mem_append_right _ (List.mem_append_left _ (List.mem_cons_of_mem _ h))))))))) (fun h => List.mem_cons_of_mem _ (List.mem_append_right _ h)))) w_f_X3_push_good
theorem g_f_X3_makePoint_X3_push_V322 : GoodIn w_f_X3_makePoint (wsV RX3 322 RX3 yX3_push w_f_X3_push) := goodIn_app (nb_g4 (List.mem_cons_of_mem _ (List.mem_append_left _ (List.mem_append_left _ (List.mem_of_getElem? (i := 17) rfl)))) (List.mem_cons_of_mem _ (List.mem_append_left _ (List.mem_append_left _ (List.mem_of_getElem? (i := 18) rfl)))) (List.mem_cons_of_mem _ (List.mem_append_left _ (List.mem_append_left _ (List.mem_of_getElem? (i := 19) rfl)))) (List.mem_cons_of_mem _ (List.mem_append_left _ (List.mem_append_left _ (List.mem_of_getElem? (i := 5) rfl)))) (by decide +kernel)) gg_f_X3_makePoint_X3_push
theorem gg_f_X3_makePoint_X11_raw : GoodIn w_f_X3_makePoint w_y_X11_raw := goodIn_sub (fun w h => (List.mem_cons.mp h).elim (fun e => (List.mem_cons_of_mem _ (List.mem_append_left _ (List.mem_append_right _ (List.mem_append_right _ (List.mem_append_right _ (List.mem_append_left _ (List.mem_cons.mpr (Or.inl e))))))))) (fun h => (List.mem_append.mp h).elim (fun h => (List.mem_cons_of_mem _ (List.mem_append_left _ (List.mem_append_right _ (List.mem_append_right _ (List.mem_append_right _ (List.mem_append_left _ (List.mem_cons_of_mem _ h)))))))) (fun h => List.mem_cons_of_mem _ (List.mem_append_right _ h)))) w_y_X11_raw_good
theorem g_y_X3_makePoint_X11_raw_SN182 : GoodIn w_f_X3_makePoint w_y_X11_raw := gg_f_X3_makePoint_X11_raw
theorem gg_f_X3_makePoint_X3_fail : GoodIn w_f_X3_makePoint w_y_X3_fail := goodIn_sub (fun w h => (List.mem_cons.mp h).elim (fun e => (List.mem_cons_of_mem _ (List.mem_append_left _ (List.mem_append_right _ (List.mem_append_left _ (List.mem_cons.mpr (Or.inl e))))))) (fun h => (List.mem_append.mp h).elim (fun h => (List.mem_cons_of_mem _ (List.mem_append_left _ (List.mem_append_right _ (List.mem_append_left _ (List.mem_cons_of_mem _ h)))))) (fun h => List.mem_cons_of_mem _ (List.mem_append_right _ h)))) w_y_X3_fail_good
theorem g_y_X3_makePoint_X3_fail_V313 : GoodIn w_f_X3_makePoint (wsV RX3 313 RX3 yX3_fail w_y_X3_fail) := goodIn_app (nb_g4 (List.mem_cons_of_mem _ (List.mem_append_left _ (List.mem_append_left _ (List.mem_of_getElem? (i := 2) rfl)))) (List.mem_cons_of_mem _ (List.mem_append_left _ (List.mem_append_left _ (List.mem_of_getElem? (i := 3) rfl)))) (List.mem_cons_of_mem _ (List.mem_append_left _ (List.mem_append_left _ (List.mem_of_getElem? (i := 4) rfl)))) (List.mem_cons_of_mem _ (List.mem_append_left _ (List.mem_append_left _ (List.mem_of_getElem? (i := 5) rfl)))) (by decide +kernel)) gg_f_X3_makePoint_X3_fail
set_option maxHeartbeats 40000000 in
set_option maxRecDepth 100000 in
theorem c_f_X3_makePoint (l : Launch) (hl0 : l.stackTraces = false) (dC : Nat → ClassId) (dI : Nat → Nat → Nat) (cy : Nat → ClassId) (ek a : Nat → Nat) (k0 : Nat) (L0 : LV) (σ0 : CS) (r0 : RS) (h0 : f_X3_makePoint k0 0 L0 σ0 = some r0) (z : Nat → Nat) (sz : Nat) : vx_Met l yX3_makePoint w_f_X3_makePoint ({ frames := 5, cells := r0.2.2.1, slots := r0.2.2.2, locals := 156 }) (va_Pc [.ref (a 18)] (nInF (dC, dI) cy ek sz (vC cy a z σ0))) (xV dC dI cy a (va_A (vC cy a z σ0) sz) [20, 21] z r0) (xX dC dI cy a (va_A (vC cy a z σ0) sz) [20, 21] z r0) r0.2.2.1 r0.2.2.2 (va_A (vC cy a z σ0) sz) := by
  refine vx_ofW (cc := cX3_makePoint) (maxL := 2) (ret := none) (by decide) rfl ?_
  intro p e s m args below meth c s₁ B hml hno hv
  obtain ⟨rfl, ⟨⟨hsz, hP, hK, hD0, hG⟩, hE⟩, hT⟩ := hv
  have hx := B.exec
  have hb := B.bytes
  have hr := B.returns
  have hts := atoms_spec (ws := w_f_X3_makePoint) B.pre
  have hown : s.vm.findClass RX3 = some m.cls := findClass_of_methodNamed B.named
  have hlocks := B.notSynchronized
  subst hsz
  have hD := hD0.self (sz := s.heap.size)
  generalize hAe : va_A (vC cy a z σ0) s.heap.size = A at hD hE hT ⊢
  have hA : ∀ q : Nat, s.heap.size ≤ q → A q := fun q h => by rw [← hAe]; exact Or.inr h
  have hS : va_S A s.heap s.heap [] := va_S.rf
  have hl := lv_entry ([.ref (a 18)]) (n := 2) (Nat.le_of_ble_eq_true rfl)
  rw [lg_entry_eq]
  generalize (lg_sl ([.ref (a 18)]) ++ List.replicate (2 - (lg_sl ([.ref (a 18)])).length) Slot.unset).toArray = ls at hl ⊢
  have hl : lv_has ls 2 [(0, .ref (a 18))] := hl
  generalize hmc : r0.2.2.1 = mc
  generalize hms : r0.2.2.2 = ms
  have blk : ∀ k : Nat, (bX p l e (headSpec w_f_X3_makePoint ({ frames := 5, cells := mc, slots := ms, locals := 156 })).room s m #[.ref (a 18)] below meth c dC dI cy a A (fun r => vx_MQ below (xV dC dI cy a A [20, 21] z r) (xX dC dI cy a A [20, 21] z r) #[.ref (a 18)] s mc ms A) [20, 21] z mc ms 2 (f_X3_makePoint k 0) (fun z L => [(0, .ref (a 18))]) 0 (fun z L => [])) ∧ (bX p l e (headSpec w_f_X3_makePoint ({ frames := 5, cells := mc, slots := ms, locals := 156 })).room s m #[.ref (a 18)] below meth c dC dI cy a A (fun r => vx_MQ below (xV dC dI cy a A [20, 21] z r) (xX dC dI cy a A [20, 21] z r) #[.ref (a 18)] s mc ms A) [20, 21] z mc ms 2 (f_X3_makePoint k 1) (fun z L => [(0, .ref (a 18))]) 41 (fun z L => [])) ∧ (bX p l e (headSpec w_f_X3_makePoint ({ frames := 5, cells := mc, slots := ms, locals := 156 })).room s m #[.ref (a 18)] below meth c dC dI cy a A (fun r => vx_MQ below (xV dC dI cy a A [20, 21] z r) (xX dC dI cy a A [20, 21] z r) #[.ref (a 18)] s mc ms A) [20, 21] z mc ms 2 (f_X3_makePoint k 2) (fun z L => [(0, .ref (a 18))]) 48 (fun z L => [])) ∧ (bX p l e (headSpec w_f_X3_makePoint ({ frames := 5, cells := mc, slots := ms, locals := 156 })).room s m #[.ref (a 18)] below meth c dC dI cy a A (fun r => vx_MQ below (xV dC dI cy a A [20, 21] z r) (xX dC dI cy a A [20, 21] z r) #[.ref (a 18)] s mc ms A) [20, 21] z mc ms 2 (f_X3_makePoint k 3) (fun z L => [(0, .ref (a 18)), (1, .int (L.1 1))]) 82 (fun z L => [])) ∧ (bX p l e (headSpec w_f_X3_makePoint ({ frames := 5, cells := mc, slots := ms, locals := 156 })).room s m #[.ref (a 18)] below meth c dC dI cy a A (fun r => vx_MQ below (xV dC dI cy a A [20, 21] z r) (xX dC dI cy a A [20, 21] z r) #[.ref (a 18)] s mc ms A) [20, 21] z mc ms 2 (f_X3_makePoint k 4) (fun z L => [(0, .ref (a 18)), (1, .int (L.1 1))]) 109 (fun z L => [])) ∧ (bX p l e (headSpec w_f_X3_makePoint ({ frames := 5, cells := mc, slots := ms, locals := 156 })).room s m #[.ref (a 18)] below meth c dC dI cy a A (fun r => vx_MQ below (xV dC dI cy a A [20, 21] z r) (xX dC dI cy a A [20, 21] z r) #[.ref (a 18)] s mc ms A) [20, 21] z mc ms 2 (f_X3_makePoint k 5) (fun z L => [(0, .ref (a 18)), (1, .int (L.1 1))]) 129 (fun z L => [])) ∧ (bX p l e (headSpec w_f_X3_makePoint ({ frames := 5, cells := mc, slots := ms, locals := 156 })).room s m #[.ref (a 18)] below meth c dC dI cy a A (fun r => vx_MQ below (xV dC dI cy a A [20, 21] z r) (xX dC dI cy a A [20, 21] z r) #[.ref (a 18)] s mc ms A) [20, 21] z mc ms 2 (f_X3_makePoint k 6) (fun z L => [(0, .ref (a 18)), (1, .int (L.1 1))]) 155 (fun z L => [])) ∧ (bX p l e (headSpec w_f_X3_makePoint ({ frames := 5, cells := mc, slots := ms, locals := 156 })).room s m #[.ref (a 18)] below meth c dC dI cy a A (fun r => vx_MQ below (xV dC dI cy a A [20, 21] z r) (xX dC dI cy a A [20, 21] z r) #[.ref (a 18)] s mc ms A) [20, 21] z mc ms 2 (f_X3_makePoint k 7) (fun z L => [(0, .ref (a 18)), (1, .int (L.1 1))]) 190 (fun z L => [.int (L.1 100), .int (L.1 101), .ref (z 21)])) ∧ (bX p l e (headSpec w_f_X3_makePoint ({ frames := 5, cells := mc, slots := ms, locals := 156 })).room s m #[.ref (a 18)] below meth c dC dI cy a A (fun r => vx_MQ below (xV dC dI cy a A [20, 21] z r) (xX dC dI cy a A [20, 21] z r) #[.ref (a 18)] s mc ms A) [20, 21] z mc ms 2 (f_X3_makePoint k 8) (fun z L => [(0, .ref (a 18)), (1, .int (L.1 1))]) 209 (fun z L => [])) ∧ (bX p l e (headSpec w_f_X3_makePoint ({ frames := 5, cells := mc, slots := ms, locals := 156 })).room s m #[.ref (a 18)] below meth c dC dI cy a A (fun r => vx_MQ below (xV dC dI cy a A [20, 21] z r) (xX dC dI cy a A [20, 21] z r) #[.ref (a 18)] s mc ms A) [20, 21] z mc ms 2 (f_X3_makePoint k 9) (fun z L => [(0, .ref (a 18)), (1, .int (L.1 1))]) 244 (fun z L => [.int (L.1 100), .int (L.1 101), .ref (z 21)])) ∧ (bX p l e (headSpec w_f_X3_makePoint ({ frames := 5, cells := mc, slots := ms, locals := 156 })).room s m #[.ref (a 18)] below meth c dC dI cy a A (fun r => vx_MQ below (xV dC dI cy a A [20, 21] z r) (xX dC dI cy a A [20, 21] z r) #[.ref (a 18)] s mc ms A) [20, 21] z mc ms 2 (f_X3_makePoint k 10) (fun z L => [(0, .ref (a 18))]) 269 (fun z L => [])) := by
    intro k
    induction k with
    | zero => exact ⟨fun z c1 c2 L σ r h => (by cases h), fun z c1 c2 L σ r h => (by cases h), fun z c1 c2 L σ r h => (by cases h), fun z c1 c2 L σ r h => (by cases h), fun z c1 c2 L σ r h => (by cases h), fun z c1 c2 L σ r h => (by cases h), fun z c1 c2 L σ r h => (by cases h), fun z c1 c2 L σ r h => (by cases h), fun z c1 c2 L σ r h => (by cases h), fun z c1 c2 L σ r h => (by cases h), fun z c1 c2 L σ r h => (by cases h)⟩
    | succ k ih =>
      refine ⟨?_, ?_, ?_, ?_, ?_, ?_, ?_, ?_, ?_, ?_, ?_⟩
      · intro z cells slots L σ r h hzk hc hs H locs ls hP hD hS hl
        rw [f_X3_makePoint] at h
        refine lv_aload_n hx hb dX3_makePoint_0 rfl (lv_at hl 0 rfl) ?_
        refine hg_18_5 hx hb hts in_f_X3_makePoint_X3 hown hK hP (hts _ (List.mem_cons_of_mem _ (List.mem_append_left _ (List.mem_append_left _ (List.mem_of_getElem? (i := 0) rfl))))) dX3_makePoint_1 ?_
        refine hg_19_12n hx hb hts in_f_X3_makePoint_X8 hown hK hP (va_Nw.use rfl (hG.1 _ (List.mem_of_getElem? (i := 32) rfl))) dX3_makePoint_4 ?_
        refine lv_bipush (v := 20) hx hb dX3_makePoint_7 (by decide) ?_
        refine lv_icmp_ge (tgt := 41) hx hb dX3_makePoint_9 (by decide) (fun c1 => ?_) (fun c1 => ?_)
        · rw [if_pos c1] at h
          exact ih.2.1 z _ _ L σ _ h hzk hc hs H locs ls hP hD hS (lv_sub hl [0] rfl)
        · rw [if_neg c1] at h
          refine lv_aload_n hx hb dX3_makePoint_12 rfl (lv_at hl 0 rfl) ?_
          refine hg_18_5 hx hb hts in_f_X3_makePoint_X3 hown hK hP (hts _ (List.mem_cons_of_mem _ (List.mem_append_left _ (List.mem_append_left _ (List.mem_of_getElem? (i := 0) rfl))))) dX3_makePoint_13 ?_
          refine hg_19_9n hx hb hts in_f_X3_makePoint_X8 hown hK hP (va_Nw.use rfl (hG.1 _ (List.mem_of_getElem? (i := 25) rfl))) dX3_makePoint_16 ?_
          refine lv_aload_n hx hb dX3_makePoint_19 rfl (lv_at hl 0 rfl) ?_
          refine hg_18_5 hx hb hts in_f_X3_makePoint_X3 hown hK hP (hts _ (List.mem_cons_of_mem _ (List.mem_append_left _ (List.mem_append_left _ (List.mem_of_getElem? (i := 0) rfl))))) dX3_makePoint_20 ?_
          refine hg_19_9n hx hb hts in_f_X3_makePoint_X8 hown hK hP (va_Nw.use rfl (hG.1 _ (List.mem_of_getElem? (i := 25) rfl))) dX3_makePoint_23 ?_
          refine lv_iadd hx hb dX3_makePoint_26 ?_
          refine lv_aload_n hx hb dX3_makePoint_27 rfl (lv_at hl 0 rfl) ?_
          refine hg_18_5 hx hb hts in_f_X3_makePoint_X3 hown hK hP (hts _ (List.mem_cons_of_mem _ (List.mem_append_left _ (List.mem_append_left _ (List.mem_of_getElem? (i := 0) rfl))))) dX3_makePoint_28 ?_
          refine hg_19_11n hx hb hts in_f_X3_makePoint_X8 hown hK hP (va_Nw.use rfl (hG.1 _ (List.mem_of_getElem? (i := 29) rfl))) dX3_makePoint_31 ?_
          refine lv_iadd hx hb dX3_makePoint_34 ?_
          refine lv_ldcw (v := 40000) hx hb hown (hts _ (List.mem_cons_of_mem _ (List.mem_append_left _ (List.mem_append_left _ (List.mem_of_getElem? (i := 1) rfl))))) dX3_makePoint_35 ?_
          refine lv_icmp_le (tgt := 48) hx hb dX3_makePoint_38 (by decide) (fun c2 => ?_) (fun c2 => ?_)
          · rw [if_pos c2] at h
            exact ih.2.2.1 z _ _ L σ _ h hzk hc hs H locs ls hP hD hS (lv_sub hl [0] rfl)
          · rw [if_neg c2] at h
            exact ih.2.1 z _ _ L σ _ h hzk hc hs H locs ls hP hD hS (lv_sub hl [0] rfl)
      · intro z cells slots L σ r h hzk hc hs H locs ls hP hD hS hl
        rw [f_X3_makePoint] at h
        refine lv_aload_n hx hb dX3_makePoint_41 rfl (lv_at hl 0 rfl) ?_
        refine lv_bipush (v := 6) hx hb dX3_makePoint_42 (by decide) ?_
        obtain ⟨r1, hc1, h⟩ := op_ex h
        refine kc_v (va_runV (As := [.int 6]) (rest := []) ⟨hx, hb, hml, hown, hts⟩ (c_y_X3_fail l dC dI cy a z k (lI lZ 1 6) σ r1 hc1 H.size) (cwV 1 hts g_y_X3_makePoint_X3_fail_V313 rfl rfl rfl hd_y_X3_fail ⟨Nat.le_of_ble_eq_true rfl, Nat.le_of_ble_eq_true rfl⟩) ⟨nb_blind, va_recv hK hP (ci := 3) (q0 := 18) rfl rfl, (kb_pre hK hG hP hD)⟩ rfl rfl hl.1 rfl (lv_room (Nat.le_of_ble_eq_true rfl)) dX3_makePoint_44 ⟨(Nat.le_trans (Nat.le_add_right _ _) (Nat.le_of_eq hc)), (Nat.le_trans (Nat.le_add_right _ _) (Nat.le_of_eq hs))⟩) hA hP hD hS (fun H locs hP hD hS => ?_)
        obtain rfl := Option.some.inj h
        subst hc
        subst hs
        exact xr_v hx hb hr hK hzk hP hD hS hlocks dX3_makePoint_47
      · intro z cells slots L σ r h hzk hc hs H locs ls hP hD hS hl
        rw [f_X3_makePoint] at h
        refine lv_aload_n hx hb dX3_makePoint_48 rfl (lv_at hl 0 rfl) ?_
        refine hg_18_5 hx hb hts in_f_X3_makePoint_X3 hown hK hP (hts _ (List.mem_cons_of_mem _ (List.mem_append_left _ (List.mem_append_left _ (List.mem_of_getElem? (i := 0) rfl))))) dX3_makePoint_49 ?_
        refine hg_19_13n hx hb hts in_f_X3_makePoint_X8 hown hK hP (va_Nw.use rfl (hG.1 _ (List.mem_of_getElem? (i := 34) rfl))) dX3_makePoint_52 ?_
        refine lv_istore_n (lv' := [(1, .int (σ.1 1913)), (0, .ref (a 18))]) hx hb dX3_makePoint_55 rfl hl (by decide) rfl (fun ls hl => ?_)
        refine lv_aload_n hx hb dX3_makePoint_56 rfl (lv_at hl 1 rfl) ?_
        refine lv_aload_n hx hb dX3_makePoint_57 rfl (lv_at hl 1 rfl) ?_
        refine hg_18_8 hx hb hts in_f_X3_makePoint_X3 hown hK hP (hts _ (List.mem_cons_of_mem _ (List.mem_append_left _ (List.mem_append_left _ (List.mem_of_getElem? (i := 6) rfl))))) dX3_makePoint_58 ?_
        refine lv_iload_n hx hb dX3_makePoint_61 rfl (lv_at hl 0 rfl) ?_
        refine lv_aload_n hx hb dX3_makePoint_62 rfl (lv_at hl 1 rfl) ?_
        refine hg_18_5 hx hb hts in_f_X3_makePoint_X3 hown hK hP (hts _ (List.mem_cons_of_mem _ (List.mem_append_left _ (List.mem_append_left _ (List.mem_of_getElem? (i := 0) rfl))))) dX3_makePoint_63 ?_
        refine hg_19_2n hx hb hts in_f_X3_makePoint_X8 hown hK hP (va_Nw.use rfl (hG.1 _ (List.mem_of_getElem? (i := 10) rfl))) dX3_makePoint_66 ?_
        refine lv_iadd hx hb dX3_makePoint_69 ?_
        refine lv_bipush (v := 6) hx hb dX3_makePoint_70 (by decide) ?_
        refine lv_iadd hx hb dX3_makePoint_72 ?_
        refine lv_ldcw (v := 44200) hx hb hown (hts _ (List.mem_cons_of_mem _ (List.mem_append_left _ (List.mem_append_left _ (List.mem_of_getElem? (i := 7) rfl))))) dX3_makePoint_73 ?_
        obtain ⟨q1, h⟩ := kr_ite1 h
        by_cases q2 : nI (sN σ 21) < ((((((σ.1 1913)) + ((σ.1 1902)))) + 6)) ∧ (sN σ 21) < (44200 : Int32).toNatClampNeg
        · rw [if_pos q2] at h
          obtain ⟨y3, hny3, hy⟩ := adR_ex h
          subst hy
          have h := hny3
          refine hw_21_new ⟨hx, hb, hml, hown, hts⟩ ⟨va_cnB 3 hts g_f_X3_makePoint_X11_widened_SN306 rfl rfl rfl (hG.1 _ (List.mem_of_getElem? (i := 98) rfl)) (hts _ (List.mem_cons_of_mem _ (List.mem_append_left _ (List.mem_append_left _ (List.mem_of_getElem? (i := 8) rfl))))) (by decide +kernel) ⟨Nat.le_of_ble_eq_true rfl, Nat.le_of_ble_eq_true rfl⟩, (hts _ (List.mem_cons_of_mem _ (List.mem_append_left _ (List.mem_append_left _ (List.mem_of_getElem? (i := 9) rfl))))), trivial⟩ in_f_X3_makePoint_X3 hK hG hA hP hD hS q1 q2 hl.1 (Nat.le_of_ble_eq_true rfl) dX3_makePoint_76 (hts _ (List.mem_cons_of_mem _ (List.mem_append_left _ (List.mem_append_left _ (List.mem_of_getElem? (i := 6) rfl))))) dX3_makePoint_79 (Nat.le_trans (Nat.add_le_add_left (Nat.le_add_right _ _) _) (Nat.le_of_eq hc)) (Nat.le_trans (Nat.add_le_add_left (Nat.le_add_right _ _) _) (Nat.le_of_eq hs)) (fun z H locs hz3 hP hD hS => ?_)
          have hzk := zk_tr hzk hz3 (by decide)
          replace hc := (Nat.add_assoc _ _ _).trans hc
          replace hs := (Nat.add_assoc _ _ _).trans hs
          exact ih.2.2.2.1 z _ _ (lI L 1 ((σ.1 1913))) (uZ σ 21 (44200 : Int32).toNatClampNeg) _ h hzk hc hs H locs ls hP hD hS (lv_sub hl [1, 0] rfl)
        · rw [if_neg q2] at h
          refine hw_21_same ⟨hx, hb, hml, hown, hts⟩ ⟨va_cnB 3 hts g_f_X3_makePoint_X11_widened_SN306 rfl rfl rfl (hG.1 _ (List.mem_of_getElem? (i := 98) rfl)) (hts _ (List.mem_cons_of_mem _ (List.mem_append_left _ (List.mem_append_left _ (List.mem_of_getElem? (i := 8) rfl))))) (by decide +kernel) ⟨Nat.le_of_ble_eq_true rfl, Nat.le_of_ble_eq_true rfl⟩, (hts _ (List.mem_cons_of_mem _ (List.mem_append_left _ (List.mem_append_left _ (List.mem_of_getElem? (i := 9) rfl))))), trivial⟩ in_f_X3_makePoint_X3 hK hG hA hP hD hS q1 q2 hl.1 (Nat.le_of_ble_eq_true rfl) dX3_makePoint_76 (hts _ (List.mem_cons_of_mem _ (List.mem_append_left _ (List.mem_append_left _ (List.mem_of_getElem? (i := 6) rfl))))) dX3_makePoint_79 (Nat.le_trans (Nat.le_add_right _ _) (Nat.le_of_eq hc)) (Nat.le_trans (Nat.le_add_right _ _) (Nat.le_of_eq hs)) (fun H locs hP hD hS => ?_)
          exact ih.2.2.2.1 z _ _ (lI L 1 ((σ.1 1913))) σ _ h hzk hc hs H locs ls hP hD hS (lv_sub hl [1, 0] rfl)
      · intro z cells slots L σ r h hzk hc hs H locs ls hP hD hS hl
        rw [f_X3_makePoint] at h
        refine lv_iload_n hx hb dX3_makePoint_82 rfl (lv_at hl 1 rfl) ?_
        refine lv_aload_n hx hb dX3_makePoint_83 rfl (lv_at hl 0 rfl) ?_
        refine hg_18_5 hx hb hts in_f_X3_makePoint_X3 hown hK hP (hts _ (List.mem_cons_of_mem _ (List.mem_append_left _ (List.mem_append_left _ (List.mem_of_getElem? (i := 0) rfl))))) dX3_makePoint_84 ?_
        refine hg_19_2n hx hb hts in_f_X3_makePoint_X8 hown hK hP (va_Nw.use rfl (hG.1 _ (List.mem_of_getElem? (i := 10) rfl))) dX3_makePoint_87 ?_
        refine lv_iadd hx hb dX3_makePoint_90 ?_
        refine lv_bipush (v := 6) hx hb dX3_makePoint_91 (by decide) ?_
        refine lv_iadd hx hb dX3_makePoint_93 ?_
        refine lv_aload_n hx hb dX3_makePoint_94 rfl (lv_at hl 0 rfl) ?_
        refine hg_18_8 hx hb hts in_f_X3_makePoint_X3 hown hK hP (hts _ (List.mem_cons_of_mem _ (List.mem_append_left _ (List.mem_append_left _ (List.mem_of_getElem? (i := 6) rfl))))) dX3_makePoint_95 ?_
        refine hn_21 hx hb hK hP dX3_makePoint_98 ?_
        refine lv_icmp_le (tgt := 109) hx hb dX3_makePoint_99 (by decide) (fun c1 => ?_) (fun c1 => ?_)
        · rw [if_pos c1] at h
          exact ih.2.2.2.2.1 z _ _ L σ _ h hzk hc hs H locs ls hP hD hS (lv_sub hl [0, 1] rfl)
        · rw [if_neg c1] at h
          refine lv_aload_n hx hb dX3_makePoint_102 rfl (lv_at hl 0 rfl) ?_
          refine lv_bipush (v := 6) hx hb dX3_makePoint_103 (by decide) ?_
          obtain ⟨r2, hc2, h⟩ := op_ex h
          refine kc_v (va_runV (As := [.int 6]) (rest := []) ⟨hx, hb, hml, hown, hts⟩ (c_y_X3_fail l dC dI cy a z k (lI lZ 1 6) σ r2 hc2 H.size) (cwV 1 hts g_y_X3_makePoint_X3_fail_V313 rfl rfl rfl hd_y_X3_fail ⟨Nat.le_of_ble_eq_true rfl, Nat.le_of_ble_eq_true rfl⟩) ⟨nb_blind, va_recv hK hP (ci := 3) (q0 := 18) rfl rfl, (kb_pre hK hG hP hD)⟩ rfl rfl hl.1 rfl (lv_room (Nat.le_of_ble_eq_true rfl)) dX3_makePoint_105 ⟨(Nat.le_trans (Nat.le_add_right _ _) (Nat.le_of_eq hc)), (Nat.le_trans (Nat.le_add_right _ _) (Nat.le_of_eq hs))⟩) hA hP hD hS (fun H locs hP hD hS => ?_)
          obtain rfl := Option.some.inj h
          subst hc
          subst hs
          exact xr_v hx hb hr hK hzk hP hD hS hlocks dX3_makePoint_108
      · intro z cells slots L σ r h hzk hc hs H locs ls hP hD hS hl
        rw [f_X3_makePoint] at h
        refine lv_aload_n hx hb dX3_makePoint_109 rfl (lv_at hl 0 rfl) ?_
        refine hg_18_7 hx hb hts in_f_X3_makePoint_X3 hown hK hP (hts _ (List.mem_cons_of_mem _ (List.mem_append_left _ (List.mem_append_left _ (List.mem_of_getElem? (i := 10) rfl))))) dX3_makePoint_110 ?_
        refine lv_iconst (v := 0) hx hb dX3_makePoint_113 (by decide) ?_
        refine lv_aload_n hx hb dX3_makePoint_114 rfl (lv_at hl 0 rfl) ?_
        refine hg_18_8 hx hb hts in_f_X3_makePoint_X3 hown hK hP (hts _ (List.mem_cons_of_mem _ (List.mem_append_left _ (List.mem_append_left _ (List.mem_of_getElem? (i := 6) rfl))))) dX3_makePoint_115 ?_
        refine lv_iload_n hx hb dX3_makePoint_118 rfl (lv_at hl 1 rfl) ?_
        refine lv_aload_n hx hb dX3_makePoint_119 rfl (lv_at hl 0 rfl) ?_
        refine hg_18_5 hx hb hts in_f_X3_makePoint_X3 hown hK hP (hts _ (List.mem_cons_of_mem _ (List.mem_append_left _ (List.mem_append_left _ (List.mem_of_getElem? (i := 0) rfl))))) dX3_makePoint_120 ?_
        refine hg_19_2n hx hb hts in_f_X3_makePoint_X8 hown hK hP (va_Nw.use rfl (hG.1 _ (List.mem_of_getElem? (i := 10) rfl))) dX3_makePoint_123 ?_
        obtain ⟨q1, h⟩ := kr_ite1 h
        refine va_copyi (ty := .int) hx hb (hml.trans hl.1.symm) hown (hts _ (List.mem_cons_of_mem _ (List.mem_append_left _ (List.mem_append_left _ (List.mem_of_getElem? (i := 11) rfl))))) (hts _ (List.mem_cons_of_mem _ (List.mem_append_left _ (List.mem_append_left _ (List.mem_of_getElem? (i := 12) rfl))))) (hts _ (List.mem_cons_of_mem _ (List.mem_append_left _ (List.mem_append_left _ (List.mem_of_getElem? (i := 13) rfl))))) (hts _ (List.mem_cons_of_mem _ (List.mem_append_left _ (List.mem_append_left _ (List.mem_of_getElem? (i := 14) rfl))))) hK hP hD hS 20 21 1 1 rfl rfl rfl rfl rfl q1.1 q1.2.1 q1.2.2.1 q1.2.2.2.1 q1.2.2.2.2 (fun _ _ => rfl) (Nat.le_of_ble_eq_true rfl) (Nat.le_of_ble_eq_true rfl) dX3_makePoint_126 (fun H locs hP hD hS => ?_)
        have hP : va_P (dC, dI) nCl (vC cy a z (uF σ 21 (va_cpy (σ.2.2.1 20) (σ.2.2.1 21) (0 : Int32).toNatClampNeg ((L.1 1)).toNatClampNeg ((σ.1 1902)).toNatClampNeg))) H := hP
        have hD : va_D A (vC cy a z (uF σ 21 (va_cpy (σ.2.2.1 20) (σ.2.2.1 21) (0 : Int32).toNatClampNeg ((L.1 1)).toNatClampNeg ((σ.1 1902)).toNatClampNeg))) := hD
        exact ih.2.2.2.2.2.1 z _ _ L (uF σ 21 (va_cpy (σ.2.2.1 20) (σ.2.2.1 21) (0 : Int32).toNatClampNeg ((L.1 1)).toNatClampNeg ((σ.1 1902)).toNatClampNeg)) _ h hzk hc hs H locs ls hP hD hS (lv_sub hl [0, 1] rfl)
      · intro z cells slots L σ r h hzk hc hs H locs ls hP hD hS hl
        rw [f_X3_makePoint] at h
        refine lv_iload_n hx hb dX3_makePoint_129 rfl (lv_at hl 1 rfl) ?_
        refine lv_aload_n hx hb dX3_makePoint_130 rfl (lv_at hl 0 rfl) ?_
        refine hg_18_5 hx hb hts in_f_X3_makePoint_X3 hown hK hP (hts _ (List.mem_cons_of_mem _ (List.mem_append_left _ (List.mem_append_left _ (List.mem_of_getElem? (i := 0) rfl))))) dX3_makePoint_131 ?_
        refine hg_19_2n hx hb hts in_f_X3_makePoint_X8 hown hK hP (va_Nw.use rfl (hG.1 _ (List.mem_of_getElem? (i := 10) rfl))) dX3_makePoint_134 ?_
        refine lv_iadd hx hb dX3_makePoint_137 ?_
        refine lv_istore_n (lv' := [(1, .int (((L.1 1)) + ((σ.1 1902)))), (0, .ref (a 18))]) hx hb dX3_makePoint_138 rfl hl (by decide) rfl (fun ls hl => ?_)
        refine lv_aload_n hx hb dX3_makePoint_139 rfl (lv_at hl 1 rfl) ?_
        refine hg_18_8 hx hb hts in_f_X3_makePoint_X3 hown hK hP (hts _ (List.mem_cons_of_mem _ (List.mem_append_left _ (List.mem_append_left _ (List.mem_of_getElem? (i := 6) rfl))))) dX3_makePoint_140 ?_
        refine lv_iload_n hx hb dX3_makePoint_143 rfl (lv_at hl 0 rfl) ?_
        refine lv_aload_n hx hb dX3_makePoint_144 rfl (lv_at hl 1 rfl) ?_
        refine hg_18_5 hx hb hts in_f_X3_makePoint_X3 hown hK hP (hts _ (List.mem_cons_of_mem _ (List.mem_append_left _ (List.mem_append_left _ (List.mem_of_getElem? (i := 0) rfl))))) dX3_makePoint_145 ?_
        refine hg_19_0n hx hb hts in_f_X3_makePoint_X8 hown hK hP (va_Nw.use rfl (hG.1 _ (List.mem_of_getElem? (i := 8) rfl))) dX3_makePoint_148 ?_
        obtain ⟨r1, hc1, h⟩ := op_ex h
        refine kc_i (va_runSN (As := [.int (σ.1 1900)]) (rest := [.int (((L.1 1)) + ((σ.1 1902))), .ref (z 21)]) ⟨hx, hb, hml, hown, hts⟩ (c_y_X11_raw l dC dI cy a z k (lI lZ 0 ((σ.1 1900))) σ r1 hc1 H.size) ⟨va_cnB 1 hts g_y_X3_makePoint_X11_raw_SN182 rfl rfl rfl (hG.1 _ (List.mem_of_getElem? (i := 103) rfl)) (hts _ (List.mem_cons_of_mem _ (List.mem_append_left _ (List.mem_append_left _ (List.mem_of_getElem? (i := 8) rfl))))) hd_y_X11_raw ⟨Nat.le_of_ble_eq_true rfl, Nat.le_of_ble_eq_true rfl⟩, (hts _ (List.mem_cons_of_mem _ (List.mem_append_left _ (List.mem_append_left _ (List.mem_of_getElem? (i := 15) rfl))))), trivial⟩ ⟨nb_blind, (kb_pre hK hG hP hD)⟩ rfl rfl hl.1 rfl (lv_room (Nat.le_of_ble_eq_true rfl)) dX3_makePoint_151 ⟨(Nat.le_trans (Nat.le_add_right _ _) (Nat.le_of_eq hc)), (Nat.le_trans (Nat.le_add_right _ _) (Nat.le_of_eq hs))⟩) hA hP hD hS (fun H locs hP hD hS => ?_)
        obtain ⟨q2, h⟩ := kr_ite1 h
        refine hs_21 hx hb hK hP hD hS q2 dX3_makePoint_154 (fun H locs hP hD hS => ?_)
        exact ih.2.2.2.2.2.2.1 z _ _ (lI L 1 ((((L.1 1)) + ((σ.1 1902))))) (uA r1.2 21 ((((L.1 1)) + ((σ.1 1902)))).toNatClampNeg r1.1) _ h hzk hc hs H locs ls hP hD hS (lv_sub hl [1, 0] rfl)
      · intro z cells slots L σ r h hzk hc hs H locs ls hP hD hS hl
        rw [f_X3_makePoint] at h
        refine lv_aload_n hx hb dX3_makePoint_155 rfl (lv_at hl 0 rfl) ?_
        refine hg_18_8 hx hb hts in_f_X3_makePoint_X3 hown hK hP (hts _ (List.mem_cons_of_mem _ (List.mem_append_left _ (List.mem_append_left _ (List.mem_of_getElem? (i := 6) rfl))))) dX3_makePoint_156 ?_
        refine lv_iload_n hx hb dX3_makePoint_159 rfl (lv_at hl 1 rfl) ?_
        refine lv_iconst (v := 1) hx hb dX3_makePoint_160 (by decide) ?_
        refine lv_iadd hx hb dX3_makePoint_161 ?_
        refine lv_aload_n hx hb dX3_makePoint_162 rfl (lv_at hl 0 rfl) ?_
        refine hg_18_5 hx hb hts in_f_X3_makePoint_X3 hown hK hP (hts _ (List.mem_cons_of_mem _ (List.mem_append_left _ (List.mem_append_left _ (List.mem_of_getElem? (i := 0) rfl))))) dX3_makePoint_163 ?_
        refine hg_19_1n hx hb hts in_f_X3_makePoint_X8 hown hK hP (va_Nw.use rfl (hG.1 _ (List.mem_of_getElem? (i := 9) rfl))) dX3_makePoint_166 ?_
        obtain ⟨r1, hc1, h⟩ := op_ex h
        refine kc_i (va_runSN (As := [.int (σ.1 1901)]) (rest := [.int (((L.1 1)) + 1), .ref (z 21)]) ⟨hx, hb, hml, hown, hts⟩ (c_y_X11_raw l dC dI cy a z k (lI lZ 0 ((σ.1 1901))) σ r1 hc1 H.size) ⟨va_cnB 1 hts g_y_X3_makePoint_X11_raw_SN182 rfl rfl rfl (hG.1 _ (List.mem_of_getElem? (i := 103) rfl)) (hts _ (List.mem_cons_of_mem _ (List.mem_append_left _ (List.mem_append_left _ (List.mem_of_getElem? (i := 8) rfl))))) hd_y_X11_raw ⟨Nat.le_of_ble_eq_true rfl, Nat.le_of_ble_eq_true rfl⟩, (hts _ (List.mem_cons_of_mem _ (List.mem_append_left _ (List.mem_append_left _ (List.mem_of_getElem? (i := 15) rfl))))), trivial⟩ ⟨nb_blind, (kb_pre hK hG hP hD)⟩ rfl rfl hl.1 rfl (lv_room (Nat.le_of_ble_eq_true rfl)) dX3_makePoint_169 ⟨(Nat.le_trans (Nat.le_add_right _ _) (Nat.le_of_eq hc)), (Nat.le_trans (Nat.le_add_right _ _) (Nat.le_of_eq hs))⟩) hA hP hD hS (fun H locs hP hD hS => ?_)
        obtain ⟨q2, h⟩ := kr_ite1 h
        refine hs_21 hx hb hK hP hD hS q2 dX3_makePoint_172 (fun H locs hP hD hS => ?_)
        refine lv_aload_n hx hb dX3_makePoint_173 rfl (lv_at hl 0 rfl) ?_
        refine hg_18_8 hx hb hts in_f_X3_makePoint_X3 hown hK hP (hts _ (List.mem_cons_of_mem _ (List.mem_append_left _ (List.mem_append_left _ (List.mem_of_getElem? (i := 6) rfl))))) dX3_makePoint_174 ?_
        refine lv_iload_n hx hb dX3_makePoint_177 rfl (lv_at hl 1 rfl) ?_
        refine lv_iconst (v := 2) hx hb dX3_makePoint_178 (by decide) ?_
        refine lv_iadd hx hb dX3_makePoint_179 ?_
        refine lv_aload_n hx hb dX3_makePoint_180 rfl (lv_at hl 0 rfl) ?_
        refine hg_18_5 hx hb hts in_f_X3_makePoint_X3 hown hK hP (hts _ (List.mem_cons_of_mem _ (List.mem_append_left _ (List.mem_append_left _ (List.mem_of_getElem? (i := 0) rfl))))) dX3_makePoint_181 ?_
        refine hg_19_2n hx hb hts in_f_X3_makePoint_X8 hown hK hP (va_Nw.use rfl (hG.1 _ (List.mem_of_getElem? (i := 10) rfl))) dX3_makePoint_184 ?_
        obtain ⟨r3, hc3, h⟩ := op_ex h
        refine kc_i (va_runSN (As := [.int ((uA r1.2 21 ((((L.1 1)) + 1)).toNatClampNeg r1.1).1 1902)]) (rest := [.int (((L.1 1)) + 2), .ref (z 21)]) ⟨hx, hb, hml, hown, hts⟩ (c_y_X11_raw l dC dI cy a z k (lI lZ 0 (((uA r1.2 21 ((((L.1 1)) + 1)).toNatClampNeg r1.1).1 1902))) (uA r1.2 21 ((((L.1 1)) + 1)).toNatClampNeg r1.1) r3 hc3 H.size) ⟨va_cnB 1 hts g_y_X3_makePoint_X11_raw_SN182 rfl rfl rfl (hG.1 _ (List.mem_of_getElem? (i := 103) rfl)) (hts _ (List.mem_cons_of_mem _ (List.mem_append_left _ (List.mem_append_left _ (List.mem_of_getElem? (i := 8) rfl))))) hd_y_X11_raw ⟨Nat.le_of_ble_eq_true rfl, Nat.le_of_ble_eq_true rfl⟩, (hts _ (List.mem_cons_of_mem _ (List.mem_append_left _ (List.mem_append_left _ (List.mem_of_getElem? (i := 15) rfl))))), trivial⟩ ⟨nb_blind, (kb_pre hK hG hP hD)⟩ rfl rfl hl.1 rfl (lv_room (Nat.le_of_ble_eq_true rfl)) dX3_makePoint_187 ⟨(Nat.le_trans (Nat.le_add_right _ _) (Nat.le_of_eq hc)), (Nat.le_trans (Nat.le_add_right _ _) (Nat.le_of_eq hs))⟩) hA hP hD hS (fun H locs hP hD hS => ?_)
        exact ih.2.2.2.2.2.2.2.1 z _ _ (lI (lI L 100 r3.1) 101 ((((L.1 1)) + 2))) r3.2 _ h hzk hc hs H locs ls hP hD hS (lv_sub hl [0, 1] rfl)
      · intro z cells slots L σ r h hzk hc hs H locs ls hP hD hS hl
        rw [f_X3_makePoint] at h
        obtain ⟨q1, h⟩ := kr_ite1 h
        refine hs_21 hx hb hK hP hD hS q1 dX3_makePoint_190 (fun H locs hP hD hS => ?_)
        refine lv_aload_n hx hb dX3_makePoint_191 rfl (lv_at hl 0 rfl) ?_
        refine hg_18_8 hx hb hts in_f_X3_makePoint_X3 hown hK hP (hts _ (List.mem_cons_of_mem _ (List.mem_append_left _ (List.mem_append_left _ (List.mem_of_getElem? (i := 6) rfl))))) dX3_makePoint_192 ?_
        refine lv_iload_n hx hb dX3_makePoint_195 rfl (lv_at hl 1 rfl) ?_
        refine lv_iconst (v := 3) hx hb dX3_makePoint_196 (by decide) ?_
        refine lv_iadd hx hb dX3_makePoint_197 ?_
        refine lv_aload_n hx hb dX3_makePoint_198 rfl (lv_at hl 0 rfl) ?_
        refine hg_18_5 hx hb hts in_f_X3_makePoint_X3 hown hK hP (hts _ (List.mem_cons_of_mem _ (List.mem_append_left _ (List.mem_append_left _ (List.mem_of_getElem? (i := 0) rfl))))) dX3_makePoint_199 ?_
        refine hg_19_8n hx hb hts in_f_X3_makePoint_X8 hown hK hP (va_Nw.use rfl (hG.1 _ (List.mem_of_getElem? (i := 23) rfl))) dX3_makePoint_202 ?_
        obtain ⟨r2, hc2, h⟩ := op_ex h
        refine kc_i (va_runSN (As := [.int ((uA σ 21 ((L.1 101)).toNatClampNeg ((L.1 100))).1 1908)]) (rest := [.int (((L.1 1)) + 3), .ref (z 21)]) ⟨hx, hb, hml, hown, hts⟩ (c_y_X11_raw l dC dI cy a z k (lI lZ 0 (((uA σ 21 ((L.1 101)).toNatClampNeg ((L.1 100))).1 1908))) (uA σ 21 ((L.1 101)).toNatClampNeg ((L.1 100))) r2 hc2 H.size) ⟨va_cnB 1 hts g_y_X3_makePoint_X11_raw_SN182 rfl rfl rfl (hG.1 _ (List.mem_of_getElem? (i := 103) rfl)) (hts _ (List.mem_cons_of_mem _ (List.mem_append_left _ (List.mem_append_left _ (List.mem_of_getElem? (i := 8) rfl))))) hd_y_X11_raw ⟨Nat.le_of_ble_eq_true rfl, Nat.le_of_ble_eq_true rfl⟩, (hts _ (List.mem_cons_of_mem _ (List.mem_append_left _ (List.mem_append_left _ (List.mem_of_getElem? (i := 15) rfl))))), trivial⟩ ⟨nb_blind, (kb_pre hK hG hP hD)⟩ rfl rfl hl.1 rfl (lv_room (Nat.le_of_ble_eq_true rfl)) dX3_makePoint_205 ⟨(Nat.le_trans (Nat.le_add_right _ _) (Nat.le_of_eq hc)), (Nat.le_trans (Nat.le_add_right _ _) (Nat.le_of_eq hs))⟩) hA hP hD hS (fun H locs hP hD hS => ?_)
        obtain ⟨q3, h⟩ := kr_ite1 h
        refine hs_21 hx hb hK hP hD hS q3 dX3_makePoint_208 (fun H locs hP hD hS => ?_)
        exact ih.2.2.2.2.2.2.2.2.1 z _ _ L (uA r2.2 21 ((((L.1 1)) + 3)).toNatClampNeg r2.1) _ h hzk hc hs H locs ls hP hD hS (lv_sub hl [0, 1] rfl)
      · intro z cells slots L σ r h hzk hc hs H locs ls hP hD hS hl
        rw [f_X3_makePoint] at h
        refine lv_aload_n hx hb dX3_makePoint_209 rfl (lv_at hl 0 rfl) ?_
        refine hg_18_8 hx hb hts in_f_X3_makePoint_X3 hown hK hP (hts _ (List.mem_cons_of_mem _ (List.mem_append_left _ (List.mem_append_left _ (List.mem_of_getElem? (i := 6) rfl))))) dX3_makePoint_210 ?_
        refine lv_iload_n hx hb dX3_makePoint_213 rfl (lv_at hl 1 rfl) ?_
        refine lv_iconst (v := 4) hx hb dX3_makePoint_214 (by decide) ?_
        refine lv_iadd hx hb dX3_makePoint_215 ?_
        refine lv_aload_n hx hb dX3_makePoint_216 rfl (lv_at hl 0 rfl) ?_
        refine hg_18_5 hx hb hts in_f_X3_makePoint_X3 hown hK hP (hts _ (List.mem_cons_of_mem _ (List.mem_append_left _ (List.mem_append_left _ (List.mem_of_getElem? (i := 0) rfl))))) dX3_makePoint_217 ?_
        refine hg_19_9n hx hb hts in_f_X3_makePoint_X8 hown hK hP (va_Nw.use rfl (hG.1 _ (List.mem_of_getElem? (i := 25) rfl))) dX3_makePoint_220 ?_
        obtain ⟨r1, hc1, h⟩ := op_ex h
        refine kc_i (va_runSN (As := [.int (σ.1 1909)]) (rest := [.int (((L.1 1)) + 4), .ref (z 21)]) ⟨hx, hb, hml, hown, hts⟩ (c_y_X11_raw l dC dI cy a z k (lI lZ 0 ((σ.1 1909))) σ r1 hc1 H.size) ⟨va_cnB 1 hts g_y_X3_makePoint_X11_raw_SN182 rfl rfl rfl (hG.1 _ (List.mem_of_getElem? (i := 103) rfl)) (hts _ (List.mem_cons_of_mem _ (List.mem_append_left _ (List.mem_append_left _ (List.mem_of_getElem? (i := 8) rfl))))) hd_y_X11_raw ⟨Nat.le_of_ble_eq_true rfl, Nat.le_of_ble_eq_true rfl⟩, (hts _ (List.mem_cons_of_mem _ (List.mem_append_left _ (List.mem_append_left _ (List.mem_of_getElem? (i := 15) rfl))))), trivial⟩ ⟨nb_blind, (kb_pre hK hG hP hD)⟩ rfl rfl hl.1 rfl (lv_room (Nat.le_of_ble_eq_true rfl)) dX3_makePoint_223 ⟨(Nat.le_trans (Nat.le_add_right _ _) (Nat.le_of_eq hc)), (Nat.le_trans (Nat.le_add_right _ _) (Nat.le_of_eq hs))⟩) hA hP hD hS (fun H locs hP hD hS => ?_)
        obtain ⟨q2, h⟩ := kr_ite1 h
        refine hs_21 hx hb hK hP hD hS q2 dX3_makePoint_226 (fun H locs hP hD hS => ?_)
        refine lv_aload_n hx hb dX3_makePoint_227 rfl (lv_at hl 0 rfl) ?_
        refine hg_18_8 hx hb hts in_f_X3_makePoint_X3 hown hK hP (hts _ (List.mem_cons_of_mem _ (List.mem_append_left _ (List.mem_append_left _ (List.mem_of_getElem? (i := 6) rfl))))) dX3_makePoint_228 ?_
        refine lv_iload_n hx hb dX3_makePoint_231 rfl (lv_at hl 1 rfl) ?_
        refine lv_iconst (v := 5) hx hb dX3_makePoint_232 (by decide) ?_
        refine lv_iadd hx hb dX3_makePoint_233 ?_
        refine lv_aload_n hx hb dX3_makePoint_234 rfl (lv_at hl 0 rfl) ?_
        refine hg_18_5 hx hb hts in_f_X3_makePoint_X3 hown hK hP (hts _ (List.mem_cons_of_mem _ (List.mem_append_left _ (List.mem_append_left _ (List.mem_of_getElem? (i := 0) rfl))))) dX3_makePoint_235 ?_
        refine hg_19_10n hx hb hts in_f_X3_makePoint_X8 hown hK hP (va_Nw.use rfl (hG.1 _ (List.mem_of_getElem? (i := 28) rfl))) dX3_makePoint_238 ?_
        obtain ⟨r3, hc3, h⟩ := op_ex h
        refine kc_i (va_runSN (As := [.int ((uA r1.2 21 ((((L.1 1)) + 4)).toNatClampNeg r1.1).1 1910)]) (rest := [.int (((L.1 1)) + 5), .ref (z 21)]) ⟨hx, hb, hml, hown, hts⟩ (c_y_X11_raw l dC dI cy a z k (lI lZ 0 (((uA r1.2 21 ((((L.1 1)) + 4)).toNatClampNeg r1.1).1 1910))) (uA r1.2 21 ((((L.1 1)) + 4)).toNatClampNeg r1.1) r3 hc3 H.size) ⟨va_cnB 1 hts g_y_X3_makePoint_X11_raw_SN182 rfl rfl rfl (hG.1 _ (List.mem_of_getElem? (i := 103) rfl)) (hts _ (List.mem_cons_of_mem _ (List.mem_append_left _ (List.mem_append_left _ (List.mem_of_getElem? (i := 8) rfl))))) hd_y_X11_raw ⟨Nat.le_of_ble_eq_true rfl, Nat.le_of_ble_eq_true rfl⟩, (hts _ (List.mem_cons_of_mem _ (List.mem_append_left _ (List.mem_append_left _ (List.mem_of_getElem? (i := 15) rfl))))), trivial⟩ ⟨nb_blind, (kb_pre hK hG hP hD)⟩ rfl rfl hl.1 rfl (lv_room (Nat.le_of_ble_eq_true rfl)) dX3_makePoint_241 ⟨(Nat.le_trans (Nat.le_add_right _ _) (Nat.le_of_eq hc)), (Nat.le_trans (Nat.le_add_right _ _) (Nat.le_of_eq hs))⟩) hA hP hD hS (fun H locs hP hD hS => ?_)
        exact ih.2.2.2.2.2.2.2.2.2.1 z _ _ (lI (lI L 100 r3.1) 101 ((((L.1 1)) + 5))) r3.2 _ h hzk hc hs H locs ls hP hD hS (lv_sub hl [0, 1] rfl)
      · intro z cells slots L σ r h hzk hc hs H locs ls hP hD hS hl
        rw [f_X3_makePoint] at h
        obtain ⟨q1, h⟩ := kr_ite1 h
        refine hs_21 hx hb hK hP hD hS q1 dX3_makePoint_244 (fun H locs hP hD hS => ?_)
        refine lv_aload_n hx hb dX3_makePoint_245 rfl (lv_at hl 0 rfl) ?_
        refine hg_18_5 hx hb hts in_f_X3_makePoint_X3 hown hK hP (hts _ (List.mem_cons_of_mem _ (List.mem_append_left _ (List.mem_append_left _ (List.mem_of_getElem? (i := 0) rfl))))) dX3_makePoint_246 ?_
        refine lv_iload_n hx hb dX3_makePoint_249 rfl (lv_at hl 1 rfl) ?_
        refine lv_bipush (v := 6) hx hb dX3_makePoint_250 (by decide) ?_
        refine lv_iadd hx hb dX3_makePoint_252 ?_
        refine hp_19_13n hx hb hts in_f_X3_makePoint_X8 hown hK hP hD hS (va_Nw.use rfl (hG.1 _ (List.mem_of_getElem? (i := 34) rfl))) dX3_makePoint_253 (fun H locs hP hD hS => ?_)
        refine lv_aload_n hx hb dX3_makePoint_256 rfl (lv_at hl 0 rfl) ?_
        refine hg_18_5 hx hb hts in_f_X3_makePoint_X3 hown hK hP (hts _ (List.mem_cons_of_mem _ (List.mem_append_left _ (List.mem_append_left _ (List.mem_of_getElem? (i := 0) rfl))))) dX3_makePoint_257 ?_
        refine lv_dup hx hb dX3_makePoint_260 rfl ?_
        refine hg_19_12n hx hb hts in_f_X3_makePoint_X8 hown hK hP (va_Nw.use rfl (hG.1 _ (List.mem_of_getElem? (i := 32) rfl))) dX3_makePoint_261 ?_
        refine lv_iconst (v := 1) hx hb dX3_makePoint_264 (by decide) ?_
        refine lv_iadd hx hb dX3_makePoint_265 ?_
        refine hp_19_12n hx hb hts in_f_X3_makePoint_X8 hown hK hP hD hS (va_Nw.use rfl (hG.1 _ (List.mem_of_getElem? (i := 32) rfl))) dX3_makePoint_266 (fun H locs hP hD hS => ?_)
        exact ih.2.2.2.2.2.2.2.2.2.2 z _ _ L (uI (uI (uA σ 21 ((L.1 101)).toNatClampNeg ((L.1 100))) 1913 ((((L.1 1)) + 6))) 1912 (((((uI (uA σ 21 ((L.1 101)).toNatClampNeg ((L.1 100))) 1913 ((((L.1 1)) + 6))).1 1912)) + 1))) _ h hzk hc hs H locs ls hP hD hS (lv_sub hl [0] rfl)
      · intro z cells slots L σ r h hzk hc hs H locs ls hP hD hS hl
        rw [f_X3_makePoint] at h
        refine lv_aload_n hx hb dX3_makePoint_269 rfl (lv_at hl 0 rfl) ?_
        refine hg_18_5 hx hb hts in_f_X3_makePoint_X3 hown hK hP (hts _ (List.mem_cons_of_mem _ (List.mem_append_left _ (List.mem_append_left _ (List.mem_of_getElem? (i := 0) rfl))))) dX3_makePoint_270 ?_
        refine lv_aload_n hx hb dX3_makePoint_273 rfl (lv_at hl 0 rfl) ?_
        refine hg_18_5 hx hb hts in_f_X3_makePoint_X3 hown hK hP (hts _ (List.mem_cons_of_mem _ (List.mem_append_left _ (List.mem_append_left _ (List.mem_of_getElem? (i := 0) rfl))))) dX3_makePoint_274 ?_
        refine hg_19_11n hx hb hts in_f_X3_makePoint_X8 hown hK hP (va_Nw.use rfl (hG.1 _ (List.mem_of_getElem? (i := 29) rfl))) dX3_makePoint_277 ?_
        refine lv_aload_n hx hb dX3_makePoint_280 rfl (lv_at hl 0 rfl) ?_
        refine hg_18_5 hx hb hts in_f_X3_makePoint_X3 hown hK hP (hts _ (List.mem_cons_of_mem _ (List.mem_append_left _ (List.mem_append_left _ (List.mem_of_getElem? (i := 0) rfl))))) dX3_makePoint_281 ?_
        refine hg_19_9n hx hb hts in_f_X3_makePoint_X8 hown hK hP (va_Nw.use rfl (hG.1 _ (List.mem_of_getElem? (i := 25) rfl))) dX3_makePoint_284 ?_
        refine lv_iadd hx hb dX3_makePoint_287 ?_
        refine hp_19_11n hx hb hts in_f_X3_makePoint_X8 hown hK hP hD hS (va_Nw.use rfl (hG.1 _ (List.mem_of_getElem? (i := 29) rfl))) dX3_makePoint_288 (fun H locs hP hD hS => ?_)
        refine lv_aload_n hx hb dX3_makePoint_291 rfl (lv_at hl 0 rfl) ?_
        refine lv_ldcw (v := (-1879048191)) hx hb hown (hts _ (List.mem_cons_of_mem _ (List.mem_append_left _ (List.mem_append_left _ (List.mem_of_getElem? (i := 16) rfl))))) dX3_makePoint_292 ?_
        obtain ⟨r1, hc1, hle1, h9⟩ := ox_ex h
        clear h
        refine kx_v (vx_runV (As := [.int (-1879048191)]) (rest := []) ⟨hx, hb, hml, hown, hts⟩ (c_f_X3_push l hl0 dC dI cy ek a k (lI lZ 1 ((-1879048191))) (uI σ 1911 ((((σ.1 1911)) + ((σ.1 1909))))) r1 hc1 z H.size) (cwV 1 hts g_f_X3_makePoint_X3_push_V322 rfl rfl rfl hd_f_X3_push ⟨Nat.le_of_ble_eq_true rfl, Nat.le_of_ble_eq_true rfl⟩) ⟨nb_blindF, va_recv hK hP (ci := 3) (q0 := 18) rfl rfl, (kx_pre hK hG hE hT hA hP hD hS)⟩ rfl rfl hl.1 rfl (lv_room (Nat.le_of_ble_eq_true rfl)) dX3_makePoint_295 ⟨Nat.le_trans (Nat.add_le_add_left hle1.1 _) (Nat.le_of_eq hc), Nat.le_trans (Nat.add_le_add_left hle1.2 _) (Nat.le_of_eq hs)⟩) hK hA hzk hP hD hS (by decide) hno hlocks ?_
        rcases h9 with ⟨h00, y1, hny1, hy⟩ | ⟨h00, hy⟩
        · subst hy
          have h := hny1
          refine Or.inl ⟨h00, fun z H locs hz1 hzk hP hD hS => ?_⟩
          replace hc := (Nat.add_assoc _ _ _).trans hc
          replace hs := (Nat.add_assoc _ _ _).trans hs
          obtain rfl := Option.some.inj h
          subst hc
          subst hs
          exact xr_v hx hb hr hK hzk hP hD hS hlocks dX3_makePoint_298
        · subst hy
          exact Or.inr ⟨h00, rfl, hc, hs⟩
  exact (blk k0).1 z 0 0 L0 σ0 r0 h0 (zk_rf _ _) ((Nat.zero_add _).trans hmc) ((Nat.zero_add _).trans hms) s.heap [] ls hP hD hS hl

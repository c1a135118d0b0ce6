/-! X5_taking -/
def f_X5_taking : Nat → Nat → LV → CS → Option RS
  | 0, _, _, _ => none
  | k + 1, 0, L, σ => if ¬ (((((L.1 1)) + 2)) < 0 ∨ (sN σ 41) ≤ ((((L.1 1)) + 2)).toNatClampNeg) then (if ¬ (((((L.1 2)) + 2)) < 0 ∨ (sN σ 41) ≤ ((((L.1 2)) + 2)).toNatClampNeg) then (ox (f_X5_emitTarget k 0 (lI (lI (lI lZ 1 176) 2 ((L.1 2))) 3 ((σ.2.2.1 41 ((((L.1 2)) + 2)).toNatClampNeg))) σ) (fun r3 => oP (sPp r3.2.1) (fun b4 => ox (f_X7_emit__P k 0 (lI (lI (lB lZ 0 b4) 1 101) 2 ((L.1 3))) r3.2.1) (fun r5 => oP (sPp r5.2.1) (fun b6 => ox (f_X7_word__P k 0 (lI (lB lZ 0 b6) 1 0) r5.2.1) (fun r7 => ox (f_X5_emitTarget k 0 (lI (lI (lI lZ 1 192) 2 ((L.1 2))) 3 ((((σ.2.2.1 41 ((((L.1 2)) + 2)).toNatClampNeg)) + 2))) r7.2.1) (fun r8 => oP (sPp r8.2.1) (fun b9 => oP (sPp r8.2.1) (fun b10 => if ¬ (((r5.1.2 + 1)) < 0 ∨ (sN r8.2.1 (pR0 ((sKd r8.2.1 b9)))) ≤ ((r5.1.2 + 1)).toNatClampNeg) then (oP (sPp (uA r8.2.1 (pR0 ((sKd r8.2.1 b9))) ((r5.1.2 + 1)).toNatClampNeg ((((r8.2.1.1 (fP b10 1))) - r5.1.2)))) (fun b12 => ox (f_X7_emit__P k 0 (lI (lI (lB lZ 0 b12) 1 37) 2 1) (uA r8.2.1 (pR0 ((sKd r8.2.1 b9))) ((r5.1.2 + 1)).toNatClampNeg ((((r8.2.1.1 (fP b10 1))) - r5.1.2)))) (fun r13 => ox (f_X5_emitTarget k 0 (lI (lI (lI lZ 1 192) 2 ((L.1 1))) 3 ((((((σ.2.2.1 41 ((((L.1 1)) + 2)).toNatClampNeg)) + ((σ.2.2.1 41 ((((L.1 2)) + 2)).toNatClampNeg)))) + 1))) r13.2.1) (fun r14 => oP (sPp r14.2.1) (fun b15 => ox (f_X7_emit__P k 0 (lI (lI (lB lZ 0 b15) 1 37) 2 ((((((σ.2.2.1 41 ((((L.1 1)) + 2)).toNatClampNeg)) + ((σ.2.2.1 41 ((((L.1 2)) + 2)).toNatClampNeg)))) + 1))) r14.2.1) (fun r16 => some ((0, 0), r16.2.1, (0, 0)))))))) else none))))))))) else none) else none
  | _ + 1, _ + 1, _, _ => none
def o_f_X5_taking : List Cond := [.fieldLink RX5 9 "SetHouse$Parser" "marks" "[I", .methodLink RX5 316 yX5_emitTarget, .instanceMethod yX5_emitTarget, .selects RX5 yX5_emitTarget yX5_emitTarget, .initialized RX5, .fieldLink RX5 93 "SetHouse$Parser" "p" "LSetHouse$Program;", .methodLink RX5 66 yX7_emit, .instanceMethod yX7_emit, .selects RX7 yX7_emit yX7_emit, .initialized RX7, .methodLink RX5 243 yX7_word, .instanceMethod yX7_word, .selects RX7 yX7_word yX7_word]
theorem o_f_X5_taking_good : o_f_X5_taking.all goodWord = true := by decide +kernel
def p_f_X5_taking : List Cond := o_f_X5_taking ++ ((.code yX5_emitTarget cX5_emitTarget 5 none :: p_f_X5_emitTarget) ++ ((.code yX7_emit cX7_emit 3 (some .int) :: p_f_X7_emit__P) ++ ((.code yX7_word cX7_word 2 (some .int) :: p_f_X7_word__P) ++ [])))
theorem p_f_X5_taking_good : p_f_X5_taking.all goodWord = true := nb_all2 o_f_X5_taking_good (nb_all2 (nb_allc (by decide +kernel) p_f_X5_emitTarget_good) (nb_all2 (nb_allc (by decide +kernel) p_f_X7_emit__P_good) (nb_all2 (nb_allc (by decide +kernel) p_f_X7_word__P_good) rfl)))
def w_f_X5_taking : List Cond := .code yX5_taking cX5_taking 7 none :: (p_f_X5_taking ++ fC)
theorem w_f_X5_taking_good : w_f_X5_taking.all goodWord = true := nb_allc (by decide +kernel) (nb_all2 p_f_X5_taking_good fC_good)
theorem in_f_X5_taking_X5 : ∀ w ∈ wsX50, w ∈ w_f_X5_taking := fun _ h => List.mem_cons_of_mem _ (List.mem_append_right _ (List.mem_append_right _ (List.mem_append_right _ (List.mem_append_right _ (List.mem_append_right _ (List.mem_append_left _ h))))))
theorem in_f_X5_taking_X7 : ∀ w ∈ wsX70, w ∈ w_f_X5_taking := fun _ h => List.mem_cons_of_mem _ (List.mem_append_right _ (List.mem_append_right _ (List.mem_append_right _ (List.mem_append_right _ (List.mem_append_right _ (List.mem_append_right _ (List.mem_append_right _ (List.mem_append_left _ h))))))))
theorem hd_f_X5_taking : yX5_taking.cls = RX5 ∧ yX5_taking.cls ≠ "java/lang/invoke/MethodHandle" ∧ yX5_taking.cls ≠ "java/lang/invoke/VarHandle" ∧ (parseMethodDescriptor yX5_taking.desc).map (fun d => d.parameters.length) = some 3 := by decide +kernel
theorem gg_f_X5_taking_X5_emitTarget : GoodIn w_f_X5_taking w_f_X5_emitTarget := goodIn_sub (fun w h => (List.mem_cons.mp h).elim (fun e => (List.mem_cons_of_mem _ (List.mem_append_left _ (List.mem_append_right _ (List.mem_append_left _ (List.mem_cons.mpr (Or.inl e))))))) (fun h => (List.mem_append.mp h).elim (fun h => (List.mem_cons_of_mem _ (List.mem_append_left _ (List.mem_append_right _ (List.mem_append_left _ (List.mem_cons_of_mem _ h)))))) (fun h => List.mem_cons_of_mem _ (List.mem_append_right _ h)))) w_f_X5_emitTarget_good
theorem g_f_X5_taking_X5_emitTarget_V316 : GoodIn w_f_X5_taking (wsV RX5 316 RX5 yX5_emitTarget w_f_X5_emitTarget) := goodIn_app (nb_g4 (List.mem_cons_of_mem _ (List.mem_append_left _ (List.mem_append_left _ (List.mem_of_getElem? (i := 1) rfl)))) (List.mem_cons_of_mem _ (List.mem_append_left _ (List.mem_append_left _ (List.mem_of_getElem? (i := 2) rfl)))) (List.mem_cons_of_mem _ (List.mem_append_left _ (List.mem_append_left _ (List.mem_of_getElem? (i := 3) rfl)))) (List.mem_cons_of_mem _ (List.mem_append_left _ (List.mem_append_left _ (List.mem_of_getElem? (i := 4) rfl)))) (by decide +kernel)) gg_f_X5_taking_X5_emitTarget
theorem gg_f_X5_taking_X7_emit__P : GoodIn w_f_X5_taking w_f_X7_emit__P := goodIn_sub (fun w h => (List.mem_cons.mp h).elim (fun e => (List.mem_cons_of_mem _ (List.mem_append_left _ (List.mem_append_right _ (List.mem_append_right _ (List.mem_append_left _ (List.mem_cons.mpr (Or.inl e)))))))) (fun h => (List.mem_append.mp h).elim (fun h => (List.mem_cons_of_mem _ (List.mem_append_left _ (List.mem_append_right _ (List.mem_append_right _ (List.mem_append_left _ (List.mem_cons_of_mem _ h))))))) (fun h => List.mem_cons_of_mem _ (List.mem_append_right _ h)))) w_f_X7_emit__P_good
theorem g_f_X5_taking_X7_emit__P_V66 : GoodIn w_f_X5_taking (wsV RX5 66 RX7 yX7_emit w_f_X7_emit__P) := goodIn_app (nb_g4 (List.mem_cons_of_mem _ (List.mem_append_left _ (List.mem_append_left _ (List.mem_of_getElem? (i := 6) rfl)))) (List.mem_cons_of_mem _ (List.mem_append_left _ (List.mem_append_left _ (List.mem_of_getElem? (i := 7) rfl)))) (List.mem_cons_of_mem _ (List.mem_append_left _ (List.mem_append_left _ (List.mem_of_getElem? (i := 8) rfl)))) (List.mem_cons_of_mem _ (List.mem_append_left _ (List.mem_append_left _ (List.mem_of_getElem? (i := 9) rfl)))) (by decide +kernel)) gg_f_X5_taking_X7_emit__P
theorem gg_f_X5_taking_X7_word__P : GoodIn w_f_X5_taking w_f_X7_word__P := goodIn_sub (fun w h => (List.mem_cons.mp h).elim (fun e => (List.mem_cons_of_mem _ (List.mem_append_left _ (List.mem_append_right _ (List.mem_append_right _ (List.mem_append_right _ (List.mem_append_left _ (List.mem_cons.mpr (Or.inl e))))))))) (fun h => (List.mem_append.mp h).elim (fun h => (List.mem_cons_of_mem _ (List.mem_append_left _ (List.mem_append_right _ (List.mem_append_right _ (List.mem_append_right _ (List.mem_append_left _ (List.mem_cons_of_mem _ h)))))))) (fun h => List.mem_cons_of_mem _ (List.mem_append_right _ h)))) w_f_X7_word__P_good
theorem g_f_X5_taking_X7_word__P_V243 : GoodIn w_f_X5_taking (wsV RX5 243 RX7 yX7_word w_f_X7_word__P) := goodIn_app (nb_g4 (List.mem_cons_of_mem _ (List.mem_append_left _ (List.mem_append_left _ (List.mem_of_getElem? (i := 10) rfl)))) (List.mem_cons_of_mem _ (List.mem_append_left _ (List.mem_append_left _ (List.mem_of_getElem? (i := 11) rfl)))) (List.mem_cons_of_mem _ (List.mem_append_left _ (List.mem_append_left _ (List.mem_of_getElem? (i := 12) rfl)))) (List.mem_cons_of_mem _ (List.mem_append_left _ (List.mem_append_left _ (List.mem_of_getElem? (i := 9) rfl)))) (by decide +kernel)) gg_f_X5_taking_X7_word__P
set_option maxHeartbeats 40000000 in
set_option maxRecDepth 100000 in
theorem c_f_X5_taking (l : Launch) (hl0 : l.stackTraces = false) (dC : Nat → ClassId) (dI : Nat → Nat → Nat) (cy : Nat → ClassId) (ek a : Nat → Nat) (k0 : Nat) (L0 : LV) (σ0 : CS) (r0 : RS) (h0 : f_X5_taking k0 0 L0 σ0 = some r0) (z : Nat → Nat) (sz : Nat) : vx_Met l yX5_taking w_f_X5_taking ({ frames := 9, cells := r0.2.2.1, slots := r0.2.2.2, locals := 168 }) (va_Pc [.ref (a 40), .int (L0.1 1), .int (L0.1 2), .int (L0.1 3)] (nInF (dC, dI) cy ek sz (vC cy a z σ0))) (xV dC dI cy a (va_A (vC cy a z σ0) sz) [43, 51] z r0) (xX dC dI cy a (va_A (vC cy a z σ0) sz) [43, 51] z r0) r0.2.2.1 r0.2.2.2 (va_A (vC cy a z σ0) sz) := by
  refine vx_ofW (cc := cX5_taking) (maxL := 7) (ret := none) (by decide) rfl ?_
  intro p e s m args below meth c s₁ B hml hno hv
  obtain ⟨rfl, ⟨⟨hsz, hP, hK, hD0, hG⟩, hE⟩, hT⟩ := hv
  have hx := B.exec
  have hb := B.bytes
  have hr := B.returns
  have hts := atoms_spec (ws := w_f_X5_taking) B.pre
  have hown : s.vm.findClass RX5 = some m.cls := findClass_of_methodNamed B.named
  have hlocks := B.notSynchronized
  subst hsz
  have hD := hD0.self (sz := s.heap.size)
  generalize hAe : va_A (vC cy a z σ0) s.heap.size = A at hD hE hT ⊢
  have hA : ∀ q : Nat, s.heap.size ≤ q → A q := fun q h => by rw [← hAe]; exact Or.inr h
  have hS : va_S A s.heap s.heap [] := va_S.rf
  have hl := lv_entry ([.ref (a 40), .int (L0.1 1), .int (L0.1 2), .int (L0.1 3)]) (n := 7) (Nat.le_of_ble_eq_true rfl)
  rw [lg_entry_eq]
  generalize (lg_sl ([.ref (a 40), .int (L0.1 1), .int (L0.1 2), .int (L0.1 3)]) ++ List.replicate (7 - (lg_sl ([.ref (a 40), .int (L0.1 1), .int (L0.1 2), .int (L0.1 3)])).length) Slot.unset).toArray = ls at hl ⊢
  have hl : lv_has ls 7 [(0, .ref (a 40)), (1, .int (L0.1 1)), (2, .int (L0.1 2)), (3, .int (L0.1 3))] := hl
  generalize hmc : r0.2.2.1 = mc
  generalize hms : r0.2.2.2 = ms
  have blk : ∀ k : Nat, (bX p l e (headSpec w_f_X5_taking ({ frames := 9, cells := mc, slots := ms, locals := 168 })).room s m #[.ref (a 40), .int (L0.1 1), .int (L0.1 2), .int (L0.1 3)] below meth c dC dI cy a A (fun r => vx_MQ below (xV dC dI cy a A [43, 51] z r) (xX dC dI cy a A [43, 51] z r) #[.ref (a 40), .int (L0.1 1), .int (L0.1 2), .int (L0.1 3)] s mc ms A) [43, 51] z mc ms 7 (f_X5_taking k 0) (fun z L => [(0, .ref (a 40)), (1, .int (L.1 1)), (2, .int (L.1 2)), (3, .int (L.1 3))]) 0 (fun z L => [])) := by
    intro k
    induction k with
    | zero => exact fun z c1 c2 L σ r h => (by cases h)
    | succ k ih =>
      skip
      · intro z cells slots L σ r h hzk hc hs H locs ls hP hD hS hl
        rw [f_X5_taking] at h
        refine lv_aload_n hx hb dX5_taking_0 rfl (lv_at hl 0 rfl) ?_
        refine hg_40_10 hx hb hts in_f_X5_taking_X5 hown hK hP (hts _ (List.mem_cons_of_mem _ (List.mem_append_left _ (List.mem_append_left _ (List.mem_of_getElem? (i := 0) rfl))))) dX5_taking_1 ?_
        refine lv_iload_n hx hb dX5_taking_4 rfl (lv_at hl 1 rfl) ?_
        refine lv_iconst (v := 2) hx hb dX5_taking_5 (by decide) ?_
        refine lv_iadd hx hb dX5_taking_6 ?_
        obtain ⟨q1, h⟩ := kr_ite1 h
        refine hl_41 hx hb hK hP q1 dX5_taking_7 ?_
        refine lv_istore (lv' := [(4, .int (σ.2.2.1 41 ((((L.1 1)) + 2)).toNatClampNeg)), (0, .ref (a 40)), (1, .int (L.1 1)), (2, .int (L.1 2)), (3, .int (L.1 3))]) hx hb dX5_taking_8 hl (by decide) rfl (fun ls hl => ?_)
        refine lv_aload_n hx hb dX5_taking_10 rfl (lv_at hl 1 rfl) ?_
        refine hg_40_10 hx hb hts in_f_X5_taking_X5 hown hK hP (hts _ (List.mem_cons_of_mem _ (List.mem_append_left _ (List.mem_append_left _ (List.mem_of_getElem? (i := 0) rfl))))) dX5_taking_11 ?_
        refine lv_iload_n hx hb dX5_taking_14 rfl (lv_at hl 3 rfl) ?_
        refine lv_iconst (v := 2) hx hb dX5_taking_15 (by decide) ?_
        refine lv_iadd hx hb dX5_taking_16 ?_
        obtain ⟨q2, h⟩ := kr_ite1 h
        refine hl_41 hx hb hK hP q2 dX5_taking_17 ?_
        refine lv_istore (lv' := [(5, .int (σ.2.2.1 41 ((((L.1 2)) + 2)).toNatClampNeg)), (4, .int (σ.2.2.1 41 ((((L.1 1)) + 2)).toNatClampNeg)), (0, .ref (a 40)), (1, .int (L.1 1)), (2, .int (L.1 2)), (3, .int (L.1 3))]) hx hb dX5_taking_18 hl (by decide) rfl (fun ls hl => ?_)
        refine lv_aload_n hx hb dX5_taking_20 rfl (lv_at hl 2 rfl) ?_
        refine lv_sipush (v := 176) hx hb dX5_taking_21 (by decide) ?_
        refine lv_iload_n hx hb dX5_taking_24 rfl (lv_at hl 4 rfl) ?_
        refine lv_iload hx hb dX5_taking_25 (lv_at hl 0 rfl) ?_
        obtain ⟨r3, hc3, hle3, h9⟩ := ox_ex h
        clear h
        refine kx_v (vx_runV (As := [.int 176, .int (L.1 2), .int (σ.2.2.1 41 ((((L.1 2)) + 2)).toNatClampNeg)]) (rest := []) ⟨hx, hb, hml, hown, hts⟩ (c_f_X5_emitTarget l hl0 dC dI cy ek a k (lI (lI (lI lZ 1 176) 2 ((L.1 2))) 3 ((σ.2.2.1 41 ((((L.1 2)) + 2)).toNatClampNeg))) σ r3 hc3 z H.size) (cwV 3 hts g_f_X5_taking_X5_emitTarget_V316 rfl rfl rfl hd_f_X5_emitTarget ⟨Nat.le_of_ble_eq_true rfl, Nat.le_of_ble_eq_true rfl⟩) ⟨nb_blindF, va_recv hK hP (ci := 4) (q0 := 40) rfl rfl, (kx_pre hK hG hE hT hA hP hD hS)⟩ rfl rfl hl.1 rfl (lv_room (Nat.le_of_ble_eq_true rfl)) dX5_taking_27 ⟨Nat.le_trans (Nat.add_le_add_left hle3.1 _) (Nat.le_of_eq hc), Nat.le_trans (Nat.add_le_add_left hle3.2 _) (Nat.le_of_eq hs)⟩) hK hA hzk hP hD hS (by decide) hno hlocks ?_
        rcases h9 with ⟨h00, y3, hny3, hy⟩ | ⟨h00, hy⟩
        · subst hy
          have h := hny3
          refine Or.inl ⟨h00, fun z H locs hz3 hzk hP hD hS => ?_⟩
          replace hc := (Nat.add_assoc _ _ _).trans hc
          replace hs := (Nat.add_assoc _ _ _).trans hs
          refine lv_aload_n hx hb dX5_taking_30 rfl (lv_at hl 2 rfl) ?_
          obtain ⟨b4, hb4, h⟩ := oP_ex h
          refine hgq_40_2 hx hb hts in_f_X5_taking_X5 hown hK hP (hts _ (List.mem_cons_of_mem _ (List.mem_append_left _ (List.mem_append_left _ (List.mem_of_getElem? (i := 5) rfl))))) hb4 dX5_taking_31 ?_
          refine lv_bipush (v := 101) hx hb dX5_taking_34 (by decide) ?_
          refine lv_iload_n hx hb dX5_taking_36 rfl (lv_at hl 5 rfl) ?_
          obtain ⟨r5, hc5, hle5, h9⟩ := ox_ex h
          clear h
          refine kx_i (r := y3) (vx_runV (As := [.int 101, .int (L.1 3)]) (rest := []) ⟨hx, hb, hml, hown, hts⟩ (c_f_X7_emit__P l hl0 dC dI cy ek a k (lI (lI (lB lZ 0 b4) 1 101) 2 ((L.1 3))) r3.2.1 r5 hc5 z H.size) (cwV 2 hts g_f_X5_taking_X7_emit__P_V66 rfl rfl rfl hd_f_X7_emit__P ⟨Nat.le_of_ble_eq_true rfl, Nat.le_of_ble_eq_true rfl⟩) ⟨nb_blindF, recvP b4 hK hP, (kx_pre hK hG hE hT hA hP hD hS)⟩ rfl rfl hl.1 rfl (lv_room (Nat.le_of_ble_eq_true rfl)) dX5_taking_37 ⟨Nat.le_trans (Nat.add_le_add_left hle5.1 _) (Nat.le_of_eq hc), Nat.le_trans (Nat.add_le_add_left hle5.2 _) (Nat.le_of_eq hs)⟩) hK hA hzk hP hD hS (by decide) hno hlocks ?_
          rcases h9 with ⟨h00, y5, hny5, hy⟩ | ⟨h00, hy⟩
          · subst hy
            have h := hny5
            refine Or.inl ⟨h00, fun z H locs hz5 hzk hP hD hS => ?_⟩
            replace hc := (Nat.add_assoc _ _ _).trans hc
            replace hs := (Nat.add_assoc _ _ _).trans hs
            refine lv_istore (lv' := [(6, .int r5.1.2), (5, .int (σ.2.2.1 41 ((((L.1 2)) + 2)).toNatClampNeg)), (4, .int (σ.2.2.1 41 ((((L.1 1)) + 2)).toNatClampNeg)), (0, .ref (a 40)), (1, .int (L.1 1)), (2, .int (L.1 2)), (3, .int (L.1 3))]) hx hb dX5_taking_40 hl (by decide) rfl (fun ls hl => ?_)
            refine lv_aload_n hx hb dX5_taking_42 rfl (lv_at hl 3 rfl) ?_
            obtain ⟨b6, hb6, h⟩ := oP_ex h
            refine hgq_40_2 hx hb hts in_f_X5_taking_X5 hown hK hP (hts _ (List.mem_cons_of_mem _ (List.mem_append_left _ (List.mem_append_left _ (List.mem_of_getElem? (i := 5) rfl))))) hb6 dX5_taking_43 ?_
            refine lv_iconst (v := 0) hx hb dX5_taking_46 (by decide) ?_
            obtain ⟨r7, hc7, hle7, h9⟩ := ox_ex h
            clear h
            refine kx_i (r := y5) (vx_runV (As := [.int 0]) (rest := []) ⟨hx, hb, hml, hown, hts⟩ (c_f_X7_word__P l hl0 dC dI cy ek a k (lI (lB lZ 0 b6) 1 0) r5.2.1 r7 hc7 z H.size) (cwV 1 hts g_f_X5_taking_X7_word__P_V243 rfl rfl rfl hd_f_X7_word__P ⟨Nat.le_of_ble_eq_true rfl, Nat.le_of_ble_eq_true rfl⟩) ⟨nb_blindF, recvP b6 hK hP, (kx_pre hK hG hE hT hA hP hD hS)⟩ rfl rfl hl.1 rfl (lv_room (Nat.le_of_ble_eq_true rfl)) dX5_taking_47 ⟨Nat.le_trans (Nat.add_le_add_left hle7.1 _) (Nat.le_of_eq hc), Nat.le_trans (Nat.add_le_add_left hle7.2 _) (Nat.le_of_eq hs)⟩) hK hA hzk hP hD hS (by decide) hno hlocks ?_
            rcases h9 with ⟨h00, y7, hny7, hy⟩ | ⟨h00, hy⟩
            · subst hy
              have h := hny7
              refine Or.inl ⟨h00, fun z H locs hz7 hzk hP hD hS => ?_⟩
              replace hc := (Nat.add_assoc _ _ _).trans hc
              replace hs := (Nat.add_assoc _ _ _).trans hs
              refine lv_pop hx hb dX5_taking_50 rfl ?_
              refine lv_aload_n hx hb dX5_taking_51 rfl (lv_at hl 3 rfl) ?_
              refine lv_sipush (v := 192) hx hb dX5_taking_52 (by decide) ?_
              refine lv_iload_n hx hb dX5_taking_55 rfl (lv_at hl 5 rfl) ?_
              refine lv_iload hx hb dX5_taking_56 (lv_at hl 1 rfl) ?_
              refine lv_iconst (v := 2) hx hb dX5_taking_58 (by decide) ?_
              refine lv_iadd hx hb dX5_taking_59 ?_
              obtain ⟨r8, hc8, hle8, h9⟩ := ox_ex h
              clear h
              refine kx_v (r := y7) (vx_runV (As := [.int 192, .int (L.1 2), .int (((σ.2.2.1 41 ((((L.1 2)) + 2)).toNatClampNeg)) + 2)]) (rest := []) ⟨hx, hb, hml, hown, hts⟩ (c_f_X5_emitTarget l hl0 dC dI cy ek a k (lI (lI (lI lZ 1 192) 2 ((L.1 2))) 3 ((((σ.2.2.1 41 ((((L.1 2)) + 2)).toNatClampNeg)) + 2))) r7.2.1 r8 hc8 z H.size) (cwV 3 hts g_f_X5_taking_X5_emitTarget_V316 rfl rfl rfl hd_f_X5_emitTarget ⟨Nat.le_of_ble_eq_true rfl, Nat.le_of_ble_eq_true rfl⟩) ⟨nb_blindF, va_recv hK hP (ci := 4) (q0 := 40) rfl rfl, (kx_pre hK hG hE hT hA hP hD hS)⟩ rfl rfl hl.1 rfl (lv_room (Nat.le_of_ble_eq_true rfl)) dX5_taking_60 ⟨Nat.le_trans (Nat.add_le_add_left hle8.1 _) (Nat.le_of_eq hc), Nat.le_trans (Nat.add_le_add_left hle8.2 _) (Nat.le_of_eq hs)⟩) hK hA hzk hP hD hS (by decide) hno hlocks ?_
              rcases h9 with ⟨h00, y8, hny8, hy⟩ | ⟨h00, hy⟩
              · subst hy
                have h := hny8
                refine Or.inl ⟨h00, fun z H locs hz8 hzk hP hD hS => ?_⟩
                replace hc := (Nat.add_assoc _ _ _).trans hc
                replace hs := (Nat.add_assoc _ _ _).trans hs
                refine lv_aload_n hx hb dX5_taking_63 rfl (lv_at hl 3 rfl) ?_
                obtain ⟨b9, hb9, h⟩ := oP_ex h
                refine hgq_40_2 hx hb hts in_f_X5_taking_X5 hown hK hP (hts _ (List.mem_cons_of_mem _ (List.mem_append_left _ (List.mem_append_left _ (List.mem_of_getElem? (i := 5) rfl))))) hb9 dX5_taking_64 ?_
                refine hg_P_0n b9 hx hb hts in_f_X5_taking_X7 hown hK hP (va_Nw.use rfl (hG.1 _ (List.mem_of_getElem? (i := 67) rfl))) dX5_taking_67 ?_
                refine lv_iload hx hb dX5_taking_70 (lv_at hl 0 rfl) ?_
                refine lv_iconst (v := 1) hx hb dX5_taking_72 (by decide) ?_
                refine lv_iadd hx hb dX5_taking_73 ?_
                refine lv_aload_n hx hb dX5_taking_74 rfl (lv_at hl 3 rfl) ?_
                obtain ⟨b10, hb10, h⟩ := oP_ex h
                refine hgq_40_2 hx hb hts in_f_X5_taking_X5 hown hK hP (hts _ (List.mem_cons_of_mem _ (List.mem_append_left _ (List.mem_append_left _ (List.mem_of_getElem? (i := 5) rfl))))) hb10 dX5_taking_75 ?_
                refine hg_P_1n b10 hx hb hts in_f_X5_taking_X7 hown hK hP (va_Nw.use rfl (hG.1 _ (List.mem_of_getElem? (i := 68) rfl))) dX5_taking_78 ?_
                refine lv_iload hx hb dX5_taking_81 (lv_at hl 0 rfl) ?_
                refine lv_isub hx hb dX5_taking_83 ?_
                obtain ⟨q11, h⟩ := kr_ite1 h
                refine hs_P0 ((sKd r8.2.1 b9)) hx hb hK hP hD hS q11 dX5_taking_84 (fun H locs hP hD hS => ?_)
                refine lv_aload_n hx hb dX5_taking_85 rfl (lv_at hl 3 rfl) ?_
                obtain ⟨b12, hb12, h⟩ := oP_ex h
                refine hgq_40_2 hx hb hts in_f_X5_taking_X5 hown hK hP (hts _ (List.mem_cons_of_mem _ (List.mem_append_left _ (List.mem_append_left _ (List.mem_of_getElem? (i := 5) rfl))))) hb12 dX5_taking_86 ?_
                refine lv_bipush (v := 37) hx hb dX5_taking_89 (by decide) ?_
                refine lv_iconst (v := 1) hx hb dX5_taking_91 (by decide) ?_
                obtain ⟨r13, hc13, hle13, h9⟩ := ox_ex h
                clear h
                refine kx_i (r := y8) (vx_runV (As := [.int 37, .int 1]) (rest := []) ⟨hx, hb, hml, hown, hts⟩ (c_f_X7_emit__P l hl0 dC dI cy ek a k (lI (lI (lB lZ 0 b12) 1 37) 2 1) (uA r8.2.1 (pR0 ((sKd r8.2.1 b9))) ((r5.1.2 + 1)).toNatClampNeg ((((r8.2.1.1 (fP b10 1))) - r5.1.2))) r13 hc13 z H.size) (cwV 2 hts g_f_X5_taking_X7_emit__P_V66 rfl rfl rfl hd_f_X7_emit__P ⟨Nat.le_of_ble_eq_true rfl, Nat.le_of_ble_eq_true rfl⟩) ⟨nb_blindF, recvP b12 hK hP, (kx_pre hK hG hE hT hA hP hD hS)⟩ rfl rfl hl.1 rfl (lv_room (Nat.le_of_ble_eq_true rfl)) dX5_taking_92 ⟨Nat.le_trans (Nat.add_le_add_left hle13.1 _) (Nat.le_of_eq hc), Nat.le_trans (Nat.add_le_add_left hle13.2 _) (Nat.le_of_eq hs)⟩) hK hA hzk hP hD hS (by decide) hno hlocks ?_
                rcases h9 with ⟨h00, y13, hny13, hy⟩ | ⟨h00, hy⟩
                · subst hy
                  have h := hny13
                  refine Or.inl ⟨h00, fun z H locs hz13 hzk hP hD hS => ?_⟩
                  replace hc := (Nat.add_assoc _ _ _).trans hc
                  replace hs := (Nat.add_assoc _ _ _).trans hs
                  refine lv_pop hx hb dX5_taking_95 rfl ?_
                  refine lv_aload_n hx hb dX5_taking_96 rfl (lv_at hl 3 rfl) ?_
                  refine lv_sipush (v := 192) hx hb dX5_taking_97 (by decide) ?_
                  refine lv_iload_n hx hb dX5_taking_100 rfl (lv_at hl 4 rfl) ?_
                  refine lv_iload hx hb dX5_taking_101 (lv_at hl 2 rfl) ?_
                  refine lv_iload hx hb dX5_taking_103 (lv_at hl 1 rfl) ?_
                  refine lv_iadd hx hb dX5_taking_105 ?_
                  refine lv_iconst (v := 1) hx hb dX5_taking_106 (by decide) ?_
                  refine lv_iadd hx hb dX5_taking_107 ?_
                  obtain ⟨r14, hc14, hle14, h9⟩ := ox_ex h
                  clear h
                  refine kx_v (r := y13) (vx_runV (As := [.int 192, .int (L.1 1), .int (((((σ.2.2.1 41 ((((L.1 1)) + 2)).toNatClampNeg)) + ((σ.2.2.1 41 ((((L.1 2)) + 2)).toNatClampNeg)))) + 1)]) (rest := []) ⟨hx, hb, hml, hown, hts⟩ (c_f_X5_emitTarget l hl0 dC dI cy ek a k (lI (lI (lI lZ 1 192) 2 ((L.1 1))) 3 ((((((σ.2.2.1 41 ((((L.1 1)) + 2)).toNatClampNeg)) + ((σ.2.2.1 41 ((((L.1 2)) + 2)).toNatClampNeg)))) + 1))) r13.2.1 r14 hc14 z H.size) (cwV 3 hts g_f_X5_taking_X5_emitTarget_V316 rfl rfl rfl hd_f_X5_emitTarget ⟨Nat.le_of_ble_eq_true rfl, Nat.le_of_ble_eq_true rfl⟩) ⟨nb_blindF, va_recv hK hP (ci := 4) (q0 := 40) rfl rfl, (kx_pre hK hG hE hT hA hP hD hS)⟩ rfl rfl hl.1 rfl (lv_room (Nat.le_of_ble_eq_true rfl)) dX5_taking_108 ⟨Nat.le_trans (Nat.add_le_add_left hle14.1 _) (Nat.le_of_eq hc), Nat.le_trans (Nat.add_le_add_left hle14.2 _) (Nat.le_of_eq hs)⟩) hK hA hzk hP hD hS (by decide) hno hlocks ?_
                  rcases h9 with ⟨h00, y14, hny14, hy⟩ | ⟨h00, hy⟩
                  · subst hy
                    have h := hny14
                    refine Or.inl ⟨h00, fun z H locs hz14 hzk hP hD hS => ?_⟩
                    replace hc := (Nat.add_assoc _ _ _).trans hc
                    replace hs := (Nat.add_assoc _ _ _).trans hs
                    refine lv_aload_n hx hb dX5_taking_111 rfl (lv_at hl 3 rfl) ?_
                    obtain ⟨b15, hb15, h⟩ := oP_ex h
                    refine hgq_40_2 hx hb hts in_f_X5_taking_X5 hown hK hP (hts _ (List.mem_cons_of_mem _ (List.mem_append_left _ (List.mem_append_left _ (List.mem_of_getElem? (i := 5) rfl))))) hb15 dX5_taking_112 ?_
                    refine lv_bipush (v := 37) hx hb dX5_taking_115 (by decide) ?_
                    refine lv_iload hx hb dX5_taking_117 (lv_at hl 2 rfl) ?_
                    refine lv_iload hx hb dX5_taking_119 (lv_at hl 1 rfl) ?_
                    refine lv_iadd hx hb dX5_taking_121 ?_
                    refine lv_iconst (v := 1) hx hb dX5_taking_122 (by decide) ?_
                    refine lv_iadd hx hb dX5_taking_123 ?_
                    obtain ⟨r16, hc16, hle16, h9⟩ := ox_ex h
                    clear h
                    refine kx_i (r := y14) (vx_runV (As := [.int 37, .int (((((σ.2.2.1 41 ((((L.1 1)) + 2)).toNatClampNeg)) + ((σ.2.2.1 41 ((((L.1 2)) + 2)).toNatClampNeg)))) + 1)]) (rest := []) ⟨hx, hb, hml, hown, hts⟩ (c_f_X7_emit__P l hl0 dC dI cy ek a k (lI (lI (lB lZ 0 b15) 1 37) 2 ((((((σ.2.2.1 41 ((((L.1 1)) + 2)).toNatClampNeg)) + ((σ.2.2.1 41 ((((L.1 2)) + 2)).toNatClampNeg)))) + 1))) r14.2.1 r16 hc16 z H.size) (cwV 2 hts g_f_X5_taking_X7_emit__P_V66 rfl rfl rfl hd_f_X7_emit__P ⟨Nat.le_of_ble_eq_true rfl, Nat.le_of_ble_eq_true rfl⟩) ⟨nb_blindF, recvP b15 hK hP, (kx_pre hK hG hE hT hA hP hD hS)⟩ rfl rfl hl.1 rfl (lv_room (Nat.le_of_ble_eq_true rfl)) dX5_taking_124 ⟨Nat.le_trans (Nat.add_le_add_left hle16.1 _) (Nat.le_of_eq hc), Nat.le_trans (Nat.add_le_add_left hle16.2 _) (Nat.le_of_eq hs)⟩) hK hA hzk hP hD hS (by decide) hno hlocks ?_
                    rcases h9 with ⟨h00, y16, hny16, hy⟩ | ⟨h00, hy⟩
                    · subst hy
                      have h := hny16
                      refine Or.inl ⟨h00, fun z H locs hz16 hzk hP hD hS => ?_⟩
                      replace hc := (Nat.add_assoc _ _ _).trans hc
                      replace hs := (Nat.add_assoc _ _ _).trans hs
                      refine lv_pop hx hb dX5_taking_127 rfl ?_
                      obtain rfl := Option.some.inj h
                      subst hc
                      subst hs
                      exact xr_v hx hb hr hK hzk hP hD hS hlocks dX5_taking_128
                    · subst hy
                      exact Or.inr ⟨h00, rfl, hc, hs⟩
                  · subst hy
                    exact Or.inr ⟨h00, rfl, hc, hs⟩
                · subst hy
                  exact Or.inr ⟨h00, rfl, hc, hs⟩
              · subst hy
                exact Or.inr ⟨h00, rfl, hc, hs⟩
            · subst hy
              exact Or.inr ⟨h00, rfl, hc, hs⟩
          · subst hy
            exact Or.inr ⟨h00, rfl, hc, hs⟩
        · subst hy
          exact Or.inr ⟨h00, rfl, hc, hs⟩
  exact (blk k0) z 0 0 L0 σ0 r0 h0 (zk_rf _ _) ((Nat.zero_add _).trans hmc) ((Nat.zero_add _).trans hms) s.heap [] ls hP hD hS hl
/-! X5_nameStatement -/
def f_X5_nameStatement : Nat → Nat → LV → CS → Option RS
  | 0, _, _, _ => none
  | k + 1, 0, L, σ => ox (f_X5_takenName k 0 lZ σ) (fun r1 => if r1.1.2 = ((-1)) then (f_X5_nameStatement k 2 (lI (lI (lI L 1 ((σ.1 3703))) 2 r1.1.2) 100 1) r1.2.1) else (f_X5_nameStatement k 1 (lI (lI L 1 ((σ.1 3703))) 2 r1.1.2) r1.2.1))
  | k + 1, 1, L, σ => oP (sPp σ) (fun b1 => if ¬ (((L.1 2)) < 0 ∨ 256 ≤ ((L.1 2)).toNatClampNeg) then (f_X5_nameStatement k 2 (lI L 100 ((σ.2.2.1 (pR7 b1) ((L.1 2)).toNatClampNeg))) σ) else none)
  | k + 1, 2, L, σ => if ((L.1 100)) = 1 then (f_X5_nameStatement k 3 (lI L 3 ((L.1 100))) σ) else (if ((L.1 100)) = 2 then (if ((σ.1 3702)) = 10 then (f_X5_nameStatement k 4 (lI L 3 ((L.1 100))) σ) else (f_X5_nameStatement k 3 (lI L 3 ((L.1 100))) σ)) else (f_X5_nameStatement k 4 (lI L 3 ((L.1 100))) σ))
  | k + 1, 3, L, σ => ox (f_X5_refuse k 0 (lI (lI lZ 1 5) 2 ((L.1 1))) σ) (fun r1 => f_X5_nameStatement k 4 L r1.2.1)
  | k + 1, 4, L, σ => if ((L.1 3)) = 2 then (oP (sPp (uI σ 4013 0)) (fun b2 => if ¬ (((L.1 2)) < 0 ∨ 256 ≤ ((L.1 2)).toNatClampNeg) then (ox (f_X5_call k 0 (lI (lI lZ 1 (((uI σ 4013 0).2.2.1 (pR9 b2) ((L.1 2)).toNatClampNeg))) 2 0) (uI σ 4013 0)) (fun r4 => oP (sPp r4.2.1) (fun b5 => oP (sPp r4.2.1) (fun b6 => oP (sPp r4.2.1) (fun b7 => if ¬ (((L.1 2)) < 0 ∨ 256 ≤ ((L.1 2)).toNatClampNeg) then (if ¬ (((r4.2.1.2.2.1 (pR9 b7) ((L.1 2)).toNatClampNeg)) < 0 ∨ 42 ≤ ((r4.2.1.2.2.1 (pR9 b7) ((L.1 2)).toNatClampNeg)).toNatClampNeg) then (ox (f_X7_emit__P k 0 (lI (lI (lB lZ 0 b5) 1 37) 2 ((1 + ((r4.2.1.2.2.1 (pR14 b6) ((r4.2.1.2.2.1 (pR9 b7) ((L.1 2)).toNatClampNeg)).toNatClampNeg))))) r4.2.1) (fun r10 => some ((0, 0), r10.2.1, (0, 0)))) else none) else none))))) else none)) else (f_X5_nameStatement k 5 L σ)
  | k + 1, 5, L, σ => oP (sPp σ) (fun b1 => ox (f_X5_target k 0 (lI lZ 1 ((L.1 2))) σ) (fun r2 => if ((r2.2.1.1 3702)) = (5 : Int32) then (f_X5_nameStatement k 6 (lI (lI L 4 ((σ.1 (fP b1 1)))) 5 r2.1.2) r2.2.1) else (if ((r2.2.1.1 3702)) = (6 : Int32) then (f_X5_nameStatement k 7 (lI L 5 r2.1.2) r2.2.1) else (if ((r2.2.1.1 3702)) = (7 : Int32) then (f_X5_nameStatement k 7 (lI L 5 r2.1.2) r2.2.1) else (if ((r2.2.1.1 3702)) = (8 : Int32) then (f_X5_nameStatement k 7 (lI L 5 r2.1.2) r2.2.1) else (if ((r2.2.1.1 3702)) = (57 : Int32) then (f_X5_nameStatement k 8 (lI L 5 r2.1.2) r2.2.1) else (if ((r2.2.1.1 3702)) = (58 : Int32) then (f_X5_nameStatement k 8 (lI L 5 r2.1.2) r2.2.1) else (if ((r2.2.1.1 3702)) = (59 : Int32) then (f_X5_nameStatement k 8 (lI L 5 r2.1.2) r2.2.1) else (f_X5_nameStatement k 9 (lI L 5 r2.1.2) r2.2.1)))))))))
  | k + 1, 6, L, σ => ox (f_X2_advance k 0 lZ σ) (fun r1 => if ((r1.2.1.1 3702)) = 2 then (oP (sPp r1.2.1) (fun b3 => op (y_X7_found__P k 0 (lJ (lJ (lB lZ 0 b3) 1 ((r1.2.1.2.1 3705))) 3 ((r1.2.1.2.1 3706))) r1.2.1) (fun r4 => f_X5_nameStatement k 11 (lI L 100 r4.1) r4.2))) else (f_X5_nameStatement k 10 L r1.2.1))
  | k + 1, 7, L, σ => ox (f_X5_operation k 0 (lI (lI lZ 1 ((L.1 5))) 2 ((σ.1 3702))) σ) (fun r1 => f_X5_nameStatement k 12 L r1.2.1)
  | k + 1, 8, L, σ => ox (f_X2_advance k 0 lZ σ) (fun r1 => ox (f_X5_target k 0 (lI lZ 1 ((-1))) r1.2.1) (fun r2 => ox (f_X5_taking k 0 (lI (lI (lI lZ 1 ((L.1 5))) 2 r2.1.2) 3 ((((σ.1 3702)) - 57))) r2.2.1) (fun r3 => f_X5_nameStatement k 12 L r3.2.1)))
  | k + 1, 9, L, σ => ox (f_X5_refuse k 0 (lI (lI lZ 1 2) 2 ((σ.1 3703))) σ) (fun r1 => f_X5_nameStatement k 12 L r1.2.1)
  | k + 1, 10, L, σ => f_X5_nameStatement k 11 (lI L 100 ((-1))) σ
  | k + 1, 11, L, σ => if ((L.1 100)) = ((-1)) then (f_X5_nameStatement k 13 L σ) else (oP (sPp σ) (fun b2 => if ¬ (((L.1 100)) < 0 ∨ 256 ≤ ((L.1 100)).toNatClampNeg) then (if ((σ.2.2.1 (pR7 b2) ((L.1 100)).toNatClampNeg)) = 2 then (ox (f_X5_postponeTarget k 0 (lI lZ 1 ((L.1 4))) σ) (fun r5 => oP (sPp r5.2.1) (fun b6 => if ¬ (((L.1 100)) < 0 ∨ 256 ≤ ((L.1 100)).toNatClampNeg) then (ox (f_X5_call k 0 (lI (lI lZ 1 ((r5.2.1.2.2.1 (pR9 b6) ((L.1 100)).toNatClampNeg))) 2 ((r5.2.1.1 4013))) r5.2.1) (fun r8 => oP (sPp r8.2.1) (fun b9 => if ¬ (((L.1 100)) < 0 ∨ 256 ≤ ((L.1 100)).toNatClampNeg) then (ox (f_X5_assignResult k 0 (lI (lI lZ 1 ((L.1 5))) 2 ((r8.2.1.2.2.1 (pR9 b9) ((L.1 100)).toNatClampNeg))) r8.2.1) (fun r11 => f_X5_nameStatement k 12 L r11.2.1)) else none))) else none))) else (f_X5_nameStatement k 13 L σ)) else none))
  | k + 1, 12, L, σ => some ((0, 0), (uI σ 4011 ((L.1 5))), (0, 0))
  | k + 1, 13, L, σ => ox (f_X5_assignment k 0 (lI lZ 1 ((L.1 5))) σ) (fun r1 => f_X5_nameStatement k 12 L r1.2.1)
  | _ + 1, _ + 14, _, _ => none
def o_f_X5_nameStatement : List Cond := [.fieldLink RX5 18 "SetHouse$Parser" "lex" "LSetHouse$Lexer;", .methodLink RX5 268 yX5_takenName, .instanceMethod yX5_takenName, .selects RX5 yX5_takenName yX5_takenName, .initialized RX5, .fieldLink RX5 93 "SetHouse$Parser" "p" "LSetHouse$Program;", .methodLink RX5 125 yX5_refuse, .instanceMethod yX5_refuse, .selects RX5 yX5_refuse yX5_refuse, .fieldLink RX5 115 "SetHouse$Parser" "kept" "I", .methodLink RX5 277 yX5_call, .instanceMethod yX5_call, .selects RX5 yX5_call yX5_call, .methodLink RX5 66 yX7_emit, .instanceMethod yX7_emit, .selects RX7 yX7_emit yX7_emit, .initialized RX7, .methodLink RX5 280 yX5_target, .instanceMethod yX5_target, .selects RX5 yX5_target yX5_target, .methodLink RX5 30 yX2_advance, .instanceMethod yX2_advance, .selects RX2 yX2_advance yX2_advance, .initialized RX2, .methodLink RX5 283 yX7_found, .instanceMethod yX7_found, .selects RX7 yX7_found yX7_found, .methodLink RX5 296 yX5_operation, .instanceMethod yX5_operation, .selects RX5 yX5_operation yX5_operation, .methodLink RX5 299 yX5_taking, .instanceMethod yX5_taking, .selects RX5 yX5_taking yX5_taking, .methodLink RX5 287 yX5_postponeTarget, .instanceMethod yX5_postponeTarget, .selects RX5 yX5_postponeTarget yX5_postponeTarget, .methodLink RX5 290 yX5_assignResult, .instanceMethod yX5_assignResult, .selects RX5 yX5_assignResult yX5_assignResult, .fieldLink RX5 112 "SetHouse$Parser" "marked" "I", .methodLink RX5 293 yX5_assignment, .instanceMethod yX5_assignment, .selects RX5 yX5_assignment yX5_assignment]
theorem o_f_X5_nameStatement_good : o_f_X5_nameStatement.all goodWord = true := by decide +kernel
def p_f_X5_nameStatement : List Cond := o_f_X5_nameStatement ++ ((.code yX5_takenName cX5_takenName 5 (some .int) :: p_f_X5_takenName) ++ ((.code yX5_refuse cX5_refuse 3 none :: p_f_X5_refuse) ++ ((.code yX5_call cX5_call 10 none :: p_f_X5_call) ++ ((.code yX7_emit cX7_emit 3 (some .int) :: p_f_X7_emit__P) ++ ((.code yX5_target cX5_target 6 (some .int) :: p_f_X5_target) ++ ((.code yX2_advance cX2_advance 7 none :: p_f_X2_advance) ++ ((.code yX7_found cX7_found 6 (some .int) :: p_y_X7_found__P) ++ ((.code yX5_operation cX5_operation 3 none :: p_f_X5_operation) ++ ((.code yX5_taking cX5_taking 7 none :: p_f_X5_taking) ++ ((.code yX5_postponeTarget cX5_postponeTarget 3 none :: p_f_X5_postponeTarget) ++ ((.code yX5_assignResult cX5_assignResult 4 none :: p_f_X5_assignResult) ++ ((.code yX5_assignment cX5_assignment 2 none :: p_f_X5_assignment) ++ []))))))))))))
theorem p_f_X5_nameStatement_good : p_f_X5_nameStatement.all goodWord = true := nb_all2 o_f_X5_nameStatement_good (nb_all2 (nb_allc (by decide +kernel) p_f_X5_takenName_good) (nb_all2 (nb_allc (by decide +kernel) p_f_X5_refuse_good) (nb_all2 (nb_allc (by decide +kernel) p_f_X5_call_good) (nb_all2 (nb_allc (by decide +kernel) p_f_X7_emit__P_good) (nb_all2 (nb_allc (by decide +kernel) p_f_X5_target_good) (nb_all2 (nb_allc (by decide +kernel) p_f_X2_advance_good) (nb_all2 (nb_allc (by decide +kernel) p_y_X7_found__P_good) (nb_all2 (nb_allc (by decide +kernel) p_f_X5_operation_good) (nb_all2 (nb_allc (by decide +kernel) p_f_X5_taking_good) (nb_all2 (nb_allc (by decide +kernel) p_f_X5_postponeTarget_good) (nb_all2 (nb_allc (by decide +kernel) p_f_X5_assignResult_good) (nb_all2 (nb_allc (by decide +kernel) p_f_X5_assignment_good) rfl))))))))))))
def w_f_X5_nameStatement : List Cond := .code yX5_nameStatement cX5_nameStatement 7 none :: (p_f_X5_nameStatement ++ fC)
theorem w_f_X5_nameStatement_good : w_f_X5_nameStatement.all goodWord = true := nb_allc (by decide +kernel) (nb_all2 p_f_X5_nameStatement_good fC_good)
theorem in_f_X5_nameStatement_X2 : ∀ w ∈ wsX20, w ∈ w_f_X5_nameStatement := fun _ h => List.mem_cons_of_mem _ (List.mem_append_right _ (List.mem_append_right _ (List.mem_append_right _ (List.mem_append_left _ h))))
theorem in_f_X5_nameStatement_X5 : ∀ w ∈ wsX50, w ∈ w_f_X5_nameStatement := fun _ h => List.mem_cons_of_mem _ (List.mem_append_right _ (List.mem_append_right _ (List.mem_append_right _ (List.mem_append_right _ (List.mem_append_right _ (List.mem_append_left _ h))))))
theorem in_f_X5_nameStatement_X7 : ∀ w ∈ wsX70, w ∈ w_f_X5_nameStatement := fun _ h => List.mem_cons_of_mem _ (List.mem_append_right _ (List.mem_append_right _ (List.mem_append_right _ (List.mem_append_right _ (List.mem_append_right _ (List.mem_append_right _ (List.mem_append_right _ (List.mem_append_left _ h))))))))
theorem hd_f_X5_nameStatement : yX5_nameStatement.cls = RX5 ∧ yX5_nameStatement.cls ≠ "java/lang/invoke/MethodHandle" ∧ yX5_nameStatement.cls ≠ "java/lang/invoke/VarHandle" ∧ (parseMethodDescriptor yX5_nameStatement.desc).map (fun d => d.parameters.length) = some 0 := by decide +kernel
theorem gg_f_X5_nameStatement_X2_advance : GoodIn w_f_X5_nameStatement w_f_X2_advance := goodIn_sub (fun w h => (List.mem_cons.mp h).elim (fun e => (List.mem_cons_of_mem _ (List.mem_append_left _ (List.mem_append_right _ (List.mem_append_right _ (List.mem_append_right _ (List.mem_append_right _ (List.mem_append_right _ (List.mem_append_right _ (List.mem_append_left _ (List.mem_cons.mpr (Or.inl e)))))))))))) (fun h => (List.mem_append.mp h).elim (fun h => (List.mem_cons_of_mem _ (List.mem_append_left _ (List.mem_append_right _ (List.mem_append_right _ (List.mem_append_right _ (List.mem_append_right _ (List.mem_append_right _ (List.mem_append_right _ (List.mem_append_left _ (List.mem_cons_of_mem _ h))))))))))) (fun h => List.mem_cons_of_mem _ (List.mem_append_right _ h)))) w_f_X2_advance_good
theorem g_f_X5_nameStatement_X2_advance_V30 : GoodIn w_f_X5_nameStatement (wsV RX5 30 RX2 yX2_advance w_f_X2_advance) := goodIn_app (nb_g4 (List.mem_cons_of_mem _ (List.mem_append_left _ (List.mem_append_left _ (List.mem_of_getElem? (i := 20) rfl)))) (List.mem_cons_of_mem _ (List.mem_append_left _ (List.mem_append_left _ (List.mem_of_getElem? (i := 21) rfl)))) (List.mem_cons_of_mem _ (List.mem_append_left _ (List.mem_append_left _ (List.mem_of_getElem? (i := 22) rfl)))) (List.mem_cons_of_mem _ (List.mem_append_left _ (List.mem_append_left _ (List.mem_of_getElem? (i := 23) rfl)))) (by decide +kernel)) gg_f_X5_nameStatement_X2_advance
theorem gg_f_X5_nameStatement_X5_assignResult : GoodIn w_f_X5_nameStatement w_f_X5_assignResult := goodIn_sub (fun w h => (List.mem_cons.mp h).elim (fun e => (List.mem_cons_of_mem _ (List.mem_append_left _ (List.mem_append_right _ (List.mem_append_right _ (List.mem_append_right _ (List.mem_append_right _ (List.mem_append_right _ (List.mem_append_right _ (List.mem_append_right _ (List.mem_append_right _ (List.mem_append_right _ (List.mem_append_right _ (List.mem_append_right _ (List.mem_append_left _ (List.mem_cons.mpr (Or.inl e))))))))))))))))) (fun h => (List.mem_append.mp h).elim (fun h => (List.mem_cons_of_mem _ (List.mem_append_left _ (List.mem_append_right _ (List.mem_append_right _ (List.mem_append_right _ (List.mem_append_right _ (List.mem_append_right _ (List.mem_append_right _ (List.mem_append_right _ (List.mem_append_right _ (List.mem_append_right _ (List.mem_append_right _ (List.mem_append_right _ (List.mem_append_left _ (List.mem_cons_of_mem _ h)))))))))))))))) (fun h => List.mem_cons_of_mem _ (List.mem_append_right _ h)))) w_f_X5_assignResult_good
theorem g_f_X5_nameStatement_X5_assignResult_V290 : GoodIn w_f_X5_nameStatement (wsV RX5 290 RX5 yX5_assignResult w_f_X5_assignResult) := goodIn_app (nb_g4 (List.mem_cons_of_mem _ (List.mem_append_left _ (List.mem_append_left _ (List.mem_of_getElem? (i := 36) rfl)))) (List.mem_cons_of_mem _ (List.mem_append_left _ (List.mem_append_left _ (List.mem_of_getElem? (i := 37) rfl)))) (List.mem_cons_of_mem _ (List.mem_append_left _ (List.mem_append_left _ (List.mem_of_getElem? (i := 38) rfl)))) (List.mem_cons_of_mem _ (List.mem_append_left _ (List.mem_append_left _ (List.mem_of_getElem? (i := 4) rfl)))) (by decide +kernel)) gg_f_X5_nameStatement_X5_assignResult
theorem gg_f_X5_nameStatement_X5_assignment : GoodIn w_f_X5_nameStatement w_f_X5_assignment := goodIn_sub (fun w h => (List.mem_cons.mp h).elim (fun e => (List.mem_cons_of_mem _ (List.mem_append_left _ (List.mem_append_right _ (List.mem_append_right _ (List.mem_append_right _ (List.mem_append_right _ (List.mem_append_right _ (List.mem_append_right _ (List.mem_append_right _ (List.mem_append_right _ (List.mem_append_right _ (List.mem_append_right _ (List.mem_append_right _ (List.mem_append_right _ (List.mem_append_left _ (List.mem_cons.mpr (Or.inl e)))))))))))))))))) (fun h => (List.mem_append.mp h).elim (fun h => (List.mem_cons_of_mem _ (List.mem_append_left _ (List.mem_append_right _ (List.mem_append_right _ (List.mem_append_right _ (List.mem_append_right _ (List.mem_append_right _ (List.mem_append_right _ (List.mem_append_right _ (List.mem_append_right _ (List.mem_append_right _ (List.mem_append_right _ (List.mem_append_right _ (List.mem_append_right _ (List.mem_append_left _ (List.mem_cons_of_mem _ h))))))))))))))))) (fun h => List.mem_cons_of_mem _ (List.mem_append_right _ h)))) w_f_X5_assignment_good
theorem g_f_X5_nameStatement_X5_assignment_V293 : GoodIn w_f_X5_nameStatement (wsV RX5 293 RX5 yX5_assignment w_f_X5_assignment) := goodIn_app (nb_g4 (List.mem_cons_of_mem _ (List.mem_append_left _ (List.mem_append_left _ (List.mem_of_getElem? (i := 40) rfl)))) (List.mem_cons_of_mem _ (List.mem_append_left _ (List.mem_append_left _ (List.mem_of_getElem? (i := 41) rfl)))) (List.mem_cons_of_mem _ (List.mem_append_left _ (List.mem_append_left _ (List.mem_of_getElem? (i := 42) rfl)))) (List.mem_cons_of_mem _ (List.mem_append_left _ (List.mem_append_left _ (List.mem_of_getElem? (i := 4) rfl)))) (by decide +kernel)) gg_f_X5_nameStatement_X5_assignment
theorem gg_f_X5_nameStatement_X5_call : GoodIn w_f_X5_nameStatement w_f_X5_call := goodIn_sub (fun w h => (List.mem_cons.mp h).elim (fun e => (List.mem_cons_of_mem _ (List.mem_append_left _ (List.mem_append_right _ (List.mem_append_right _ (List.mem_append_right _ (List.mem_append_left _ (List.mem_cons.mpr (Or.inl e))))))))) (fun h => (List.mem_append.mp h).elim (fun h => (List.mem_cons_of_mem _ (List.mem_append_left _ (List.mem_append_right _ (List.mem_append_right _ (List.mem_append_right _ (List.mem_append_left _ (List.mem_cons_of_mem _ h)))))))) (fun h => List.mem_cons_of_mem _ (List.mem_append_right _ h)))) w_f_X5_call_good
theorem g_f_X5_nameStatement_X5_call_V277 : GoodIn w_f_X5_nameStatement (wsV RX5 277 RX5 yX5_call w_f_X5_call) := goodIn_app (nb_g4 (List.mem_cons_of_mem _ (List.mem_append_left _ (List.mem_append_left _ (List.mem_of_getElem? (i := 10) rfl)))) (List.mem_cons_of_mem _ (List.mem_append_left _ (List.mem_append_left _ (List.mem_of_getElem? (i := 11) rfl)))) (List.mem_cons_of_mem _ (List.mem_append_left _ (List.mem_append_left _ (List.mem_of_getElem? (i := 12) rfl)))) (List.mem_cons_of_mem _ (List.mem_append_left _ (List.mem_append_left _ (List.mem_of_getElem? (i := 4) rfl)))) (by decide +kernel)) gg_f_X5_nameStatement_X5_call
theorem gg_f_X5_nameStatement_X5_operation : GoodIn w_f_X5_nameStatement w_f_X5_operation := goodIn_sub (fun w h => (List.mem_cons.mp h).elim (fun e => (List.mem_cons_of_mem _ (List.mem_append_left _ (List.mem_append_right _ (List.mem_append_right _ (List.mem_append_right _ (List.mem_append_right _ (List.mem_append_right _ (List.mem_append_right _ (List.mem_append_right _ (List.mem_append_right _ (List.mem_append_left _ (List.mem_cons.mpr (Or.inl e)))))))))))))) (fun h => (List.mem_append.mp h).elim (fun h => (List.mem_cons_of_mem _ (List.mem_append_left _ (List.mem_append_right _ (List.mem_append_right _ (List.mem_append_right _ (List.mem_append_right _ (List.mem_append_right _ (List.mem_append_right _ (List.mem_append_right _ (List.mem_append_right _ (List.mem_append_left _ (List.mem_cons_of_mem _ h))))))))))))) (fun h => List.mem_cons_of_mem _ (List.mem_append_right _ h)))) w_f_X5_operation_good
theorem g_f_X5_nameStatement_X5_operation_V296 : GoodIn w_f_X5_nameStatement (wsV RX5 296 RX5 yX5_operation w_f_X5_operation) := goodIn_app (nb_g4 (List.mem_cons_of_mem _ (List.mem_append_left _ (List.mem_append_left _ (List.mem_of_getElem? (i := 27) rfl)))) (List.mem_cons_of_mem _ (List.mem_append_left _ (List.mem_append_left _ (List.mem_of_getElem? (i := 28) rfl)))) (List.mem_cons_of_mem _ (List.mem_append_left _ (List.mem_append_left _ (List.mem_of_getElem? (i := 29) rfl)))) (List.mem_cons_of_mem _ (List.mem_append_left _ (List.mem_append_left _ (List.mem_of_getElem? (i := 4) rfl)))) (by decide +kernel)) gg_f_X5_nameStatement_X5_operation
theorem gg_f_X5_nameStatement_X5_postponeTarget : GoodIn w_f_X5_nameStatement w_f_X5_postponeTarget := goodIn_sub (fun w h => (List.mem_cons.mp h).elim (fun e => (List.mem_cons_of_mem _ (List.mem_append_left _ (List.mem_append_right _ (List.mem_append_right _ (List.mem_append_right _ (List.mem_append_right _ (List.mem_append_right _ (List.mem_append_right _ (List.mem_append_right _ (List.mem_append_right _ (List.mem_append_right _ (List.mem_append_right _ (List.mem_append_left _ (List.mem_cons.mpr (Or.inl e)))))))))))))))) (fun h => (List.mem_append.mp h).elim (fun h => (List.mem_cons_of_mem _ (List.mem_append_left _ (List.mem_append_right _ (List.mem_append_right _ (List.mem_append_right _ (List.mem_append_right _ (List.mem_append_right _ (List.mem_append_right _ (List.mem_append_right _ (List.mem_append_right _ (List.mem_append_right _ (List.mem_append_right _ (List.mem_append_left _ (List.mem_cons_of_mem _ h))))))))))))))) (fun h => List.mem_cons_of_mem _ (List.mem_append_right _ h)))) w_f_X5_postponeTarget_good
theorem g_f_X5_nameStatement_X5_postponeTarget_V287 : GoodIn w_f_X5_nameStatement (wsV RX5 287 RX5 yX5_postponeTarget w_f_X5_postponeTarget) := goodIn_app (nb_g4 (List.mem_cons_of_mem _ (List.mem_append_left _ (List.mem_append_left _ (List.mem_of_getElem? (i := 33) rfl)))) (List.mem_cons_of_mem _ (List.mem_append_left _ (List.mem_append_left _ (List.mem_of_getElem? (i := 34) rfl)))) (List.mem_cons_of_mem _ (List.mem_append_left _ (List.mem_append_left _ (List.mem_of_getElem? (i := 35) rfl)))) (List.mem_cons_of_mem _ (List.mem_append_left _ (List.mem_append_left _ (List.mem_of_getElem? (i := 4) rfl)))) (by decide +kernel)) gg_f_X5_nameStatement_X5_postponeTarget
theorem gg_f_X5_nameStatement_X5_refuse : GoodIn w_f_X5_nameStatement w_f_X5_refuse := goodIn_sub (fun w h => (List.mem_cons.mp h).elim (fun e => (List.mem_cons_of_mem _ (List.mem_append_left _ (List.mem_append_right _ (List.mem_append_right _ (List.mem_append_left _ (List.mem_cons.mpr (Or.inl e)))))))) (fun h => (List.mem_append.mp h).elim (fun h => (List.mem_cons_of_mem _ (List.mem_append_left _ (List.mem_append_right _ (List.mem_append_right _ (List.mem_append_left _ (List.mem_cons_of_mem _ h))))))) (fun h => List.mem_cons_of_mem _ (List.mem_append_right _ h)))) w_f_X5_refuse_good
theorem g_f_X5_nameStatement_X5_refuse_V125 : GoodIn w_f_X5_nameStatement (wsV RX5 125 RX5 yX5_refuse w_f_X5_refuse) := goodIn_app (nb_g4 (List.mem_cons_of_mem _ (List.mem_append_left _ (List.mem_append_left _ (List.mem_of_getElem? (i := 6) rfl)))) (List.mem_cons_of_mem _ (List.mem_append_left _ (List.mem_append_left _ (List.mem_of_getElem? (i := 7) rfl)))) (List.mem_cons_of_mem _ (List.mem_append_left _ (List.mem_append_left _ (List.mem_of_getElem? (i := 8) rfl)))) (List.mem_cons_of_mem _ (List.mem_append_left _ (List.mem_append_left _ (List.mem_of_getElem? (i := 4) rfl)))) (by decide +kernel)) gg_f_X5_nameStatement_X5_refuse
theorem gg_f_X5_nameStatement_X5_takenName : GoodIn w_f_X5_nameStatement w_f_X5_takenName := goodIn_sub (fun w h => (List.mem_cons.mp h).elim (fun e => (List.mem_cons_of_mem _ (List.mem_append_left _ (List.mem_append_right _ (List.mem_append_left _ (List.mem_cons.mpr (Or.inl e))))))) (fun h => (List.mem_append.mp h).elim (fun h => (List.mem_cons_of_mem _ (List.mem_append_left _ (List.mem_append_right _ (List.mem_append_left _ (List.mem_cons_of_mem _ h)))))) (fun h => List.mem_cons_of_mem _ (List.mem_append_right _ h)))) w_f_X5_takenName_good
theorem g_f_X5_nameStatement_X5_takenName_V268 : GoodIn w_f_X5_nameStatement (wsV RX5 268 RX5 yX5_takenName w_f_X5_takenName) := goodIn_app (nb_g4 (List.mem_cons_of_mem _ (List.mem_append_left _ (List.mem_append_left _ (List.mem_of_getElem? (i := 1) rfl)))) (List.mem_cons_of_mem _ (List.mem_append_left _ (List.mem_append_left _ (List.mem_of_getElem? (i := 2) rfl)))) (List.mem_cons_of_mem _ (List.mem_append_left _ (List.mem_append_left _ (List.mem_of_getElem? (i := 3) rfl)))) (List.mem_cons_of_mem _ (List.mem_append_left _ (List.mem_append_left _ (List.mem_of_getElem? (i := 4) rfl)))) (by decide +kernel)) gg_f_X5_nameStatement_X5_takenName
theorem gg_f_X5_nameStatement_X5_taking : GoodIn w_f_X5_nameStatement w_f_X5_taking := goodIn_sub (fun w h => (List.mem_cons.mp h).elim (fun e => (List.mem_cons_of_mem _ (List.mem_append_left _ (List.mem_append_right _ (List.mem_append_right _ (List.mem_append_right _ (List.mem_append_right _ (List.mem_append_right _ (List.mem_append_right _ (List.mem_append_right _ (List.mem_append_right _ (List.mem_append_right _ (List.mem_append_left _ (List.mem_cons.mpr (Or.inl e))))))))))))))) (fun h => (List.mem_append.mp h).elim (fun h => (List.mem_cons_of_mem _ (List.mem_append_left _ (List.mem_append_right _ (List.mem_append_right _ (List.mem_append_right _ (List.mem_append_right _ (List.mem_append_right _ (List.mem_append_right _ (List.mem_append_right _ (List.mem_append_right _ (List.mem_append_right _ (List.mem_append_left _ (List.mem_cons_of_mem _ h)))))))))))))) (fun h => List.mem_cons_of_mem _ (List.mem_append_right _ h)))) w_f_X5_taking_good
theorem g_f_X5_nameStatement_X5_taking_V299 : GoodIn w_f_X5_nameStatement (wsV RX5 299 RX5 yX5_taking w_f_X5_taking) := goodIn_app (nb_g4 (List.mem_cons_of_mem _ (List.mem_append_left _ (List.mem_append_left _ (List.mem_of_getElem? (i := 30) rfl)))) (List.mem_cons_of_mem _ (List.mem_append_left _ (List.mem_append_left _ (List.mem_of_getElem? (i := 31) rfl)))) (List.mem_cons_of_mem _ (List.mem_append_left _ (List.mem_append_left _ (List.mem_of_getElem? (i := 32) rfl)))) (List.mem_cons_of_mem _ (List.mem_append_left _ (List.mem_append_left _ (List.mem_of_getElem? (i := 4) rfl)))) (by decide +kernel)) gg_f_X5_nameStatement_X5_taking
theorem gg_f_X5_nameStatement_X5_target : GoodIn w_f_X5_nameStatement w_f_X5_target := goodIn_sub (fun w h => (List.mem_cons.mp h).elim (fun e => (List.mem_cons_of_mem _ (List.mem_append_left _ (List.mem_append_right _ (List.mem_append_right _ (List.mem_append_right _ (List.mem_append_right _ (List.mem_append_right _ (List.mem_append_left _ (List.mem_cons.mpr (Or.inl e))))))))))) (fun h => (List.mem_append.mp h).elim (fun h => (List.mem_cons_of_mem _ (List.mem_append_left _ (List.mem_append_right _ (List.mem_append_right _ (List.mem_append_right _ (List.mem_append_right _ (List.mem_append_right _ (List.mem_append_left _ (List.mem_cons_of_mem _ h)))))))))) (fun h => List.mem_cons_of_mem _ (List.mem_append_right _ h)))) w_f_X5_target_good
theorem g_f_X5_nameStatement_X5_target_V280 : GoodIn w_f_X5_nameStatement (wsV RX5 280 RX5 yX5_target w_f_X5_target) := goodIn_app (nb_g4 (List.mem_cons_of_mem _ (List.mem_append_left _ (List.mem_append_left _ (List.mem_of_getElem? (i := 17) rfl)))) (List.mem_cons_of_mem _ (List.mem_append_left _ (List.mem_append_left _ (List.mem_of_getElem? (i := 18) rfl)))) (List.mem_cons_of_mem _ (List.mem_append_left _ (List.mem_append_left _ (List.mem_of_getElem? (i := 19) rfl)))) (List.mem_cons_of_mem _ (List.mem_append_left _ (List.mem_append_left _ (List.mem_of_getElem? (i := 4) rfl)))) (by decide +kernel)) gg_f_X5_nameStatement_X5_target
theorem gg_f_X5_nameStatement_X7_emit__P : GoodIn w_f_X5_nameStatement w_f_X7_emit__P := goodIn_sub (fun w h => (List.mem_cons.mp h).elim (fun e => (List.mem_cons_of_mem _ (List.mem_append_left _ (List.mem_append_right _ (List.mem_append_right _ (List.mem_append_right _ (List.mem_append_right _ (List.mem_append_left _ (List.mem_cons.mpr (Or.inl e)))))))))) (fun h => (List.mem_append.mp h).elim (fun h => (List.mem_cons_of_mem _ (List.mem_append_left _ (List.mem_append_right _ (List.mem_append_right _ (List.mem_append_right _ (List.mem_append_right _ (List.mem_append_left _ (List.mem_cons_of_mem _ h))))))))) (fun h => List.mem_cons_of_mem _ (List.mem_append_right _ h)))) w_f_X7_emit__P_good
theorem g_f_X5_nameStatement_X7_emit__P_V66 : GoodIn w_f_X5_nameStatement (wsV RX5 66 RX7 yX7_emit w_f_X7_emit__P) := goodIn_app (nb_g4 (List.mem_cons_of_mem _ (List.mem_append_left _ (List.mem_append_left _ (List.mem_of_getElem? (i := 13) rfl)))) (List.mem_cons_of_mem _ (List.mem_append_left _ (List.mem_append_left _ (List.mem_of_getElem? (i := 14) rfl)))) (List.mem_cons_of_mem _ (List.mem_append_left _ (List.mem_append_left _ (List.mem_of_getElem? (i := 15) rfl)))) (List.mem_cons_of_mem _ (List.mem_append_left _ (List.mem_append_left _ (List.mem_of_getElem? (i := 16) rfl)))) (by decide +kernel)) gg_f_X5_nameStatement_X7_emit__P
theorem gg_f_X5_nameStatement_X7_found__P : GoodIn w_f_X5_nameStatement w_y_X7_found__P := goodIn_sub (fun w h => (List.mem_cons.mp h).elim (fun e => (List.mem_cons_of_mem _ (List.mem_append_left _ (List.mem_append_right _ (List.mem_append_right _ (List.mem_append_right _ (List.mem_append_right _ (List.mem_append_right _ (List.mem_append_right _ (List.mem_append_right _ (List.mem_append_left _ (List.mem_cons.mpr (Or.inl e))))))))))))) (fun h => (List.mem_append.mp h).elim (fun h => (List.mem_cons_of_mem _ (List.mem_append_left _ (List.mem_append_right _ (List.mem_append_right _ (List.mem_append_right _ (List.mem_append_right _ (List.mem_append_right _ (List.mem_append_right _ (List.mem_append_right _ (List.mem_append_left _ (List.mem_cons_of_mem _ h)))))))))))) (fun h => List.mem_cons_of_mem _ (List.mem_append_right _ h)))) w_y_X7_found__P_good
theorem g_y_X5_nameStatement_X7_found__P_V283 : GoodIn w_f_X5_nameStatement (wsV RX5 283 RX7 yX7_found w_y_X7_found__P) := goodIn_app (nb_g4 (List.mem_cons_of_mem _ (List.mem_append_left _ (List.mem_append_left _ (List.mem_of_getElem? (i := 24) rfl)))) (List.mem_cons_of_mem _ (List.mem_append_left _ (List.mem_append_left _ (List.mem_of_getElem? (i := 25) rfl)))) (List.mem_cons_of_mem _ (List.mem_append_left _ (List.mem_append_left _ (List.mem_of_getElem? (i := 26) rfl)))) (List.mem_cons_of_mem _ (List.mem_append_left _ (List.mem_append_left _ (List.mem_of_getElem? (i := 16) rfl)))) (by decide +kernel)) gg_f_X5_nameStatement_X7_found__P
set_option maxHeartbeats 40000000 in
set_option maxRecDepth 100000 in
theorem c_f_X5_nameStatement (l : Launch) (hl0 : l.stackTraces = false) (dC : Nat → ClassId) (dI : Nat → Nat → Nat) (cy : Nat → ClassId) (ek a : Nat → Nat) (k0 : Nat) (L0 : LV) (σ0 : CS) (r0 : RS) (h0 : f_X5_nameStatement k0 0 L0 σ0 = some r0) (z : Nat → Nat) (sz : Nat) : vx_Met l yX5_nameStatement w_f_X5_nameStatement ({ frames := 411, cells := r0.2.2.1, slots := r0.2.2.2, locals := 13429 }) (va_Pc [.ref (a 40)] (nInF (dC, dI) cy ek sz (vC cy a z σ0))) (xV dC dI cy a (va_A (vC cy a z σ0) sz) [41, 42, 43, 51] z r0) (xX dC dI cy a (va_A (vC cy a z σ0) sz) [41, 42, 43, 51] z r0) r0.2.2.1 r0.2.2.2 (va_A (vC cy a z σ0) sz) := by
  refine vx_ofW (cc := cX5_nameStatement) (maxL := 7) (ret := none) (by decide) rfl ?_
  intro p e s m args below meth c s₁ B hml hno hv
  obtain ⟨rfl, ⟨⟨hsz, hP, hK, hD0, hG⟩, hE⟩, hT⟩ := hv
  have hx := B.exec
  have hb := B.bytes
  have hr := B.returns
  have hts := atoms_spec (ws := w_f_X5_nameStatement) B.pre
  have hown : s.vm.findClass RX5 = some m.cls := findClass_of_methodNamed B.named
  have hlocks := B.notSynchronized
  subst hsz
  have hD := hD0.self (sz := s.heap.size)
  generalize hAe : va_A (vC cy a z σ0) s.heap.size = A at hD hE hT ⊢
  have hA : ∀ q : Nat, s.heap.size ≤ q → A q := fun q h => by rw [← hAe]; exact Or.inr h
  have hS : va_S A s.heap s.heap [] := va_S.rf
  have hl := lv_entry ([.ref (a 40)]) (n := 7) (Nat.le_of_ble_eq_true rfl)
  rw [lg_entry_eq]
  generalize (lg_sl ([.ref (a 40)]) ++ List.replicate (7 - (lg_sl ([.ref (a 40)])).length) Slot.unset).toArray = ls at hl ⊢
  have hl : lv_has ls 7 [(0, .ref (a 40))] := hl
  generalize hmc : r0.2.2.1 = mc
  generalize hms : r0.2.2.2 = ms
  have blk : ∀ k : Nat, (bX p l e (headSpec w_f_X5_nameStatement ({ frames := 411, cells := mc, slots := ms, locals := 13429 })).room s m #[.ref (a 40)] below meth c dC dI cy a A (fun r => vx_MQ below (xV dC dI cy a A [41, 42, 43, 51] z r) (xX dC dI cy a A [41, 42, 43, 51] z r) #[.ref (a 40)] s mc ms A) [41, 42, 43, 51] z mc ms 7 (f_X5_nameStatement k 0) (fun z L => [(0, .ref (a 40))]) 0 (fun z L => [])) ∧ (bX p l e (headSpec w_f_X5_nameStatement ({ frames := 411, cells := mc, slots := ms, locals := 13429 })).room s m #[.ref (a 40)] below meth c dC dI cy a A (fun r => vx_MQ below (xV dC dI cy a A [41, 42, 43, 51] z r) (xX dC dI cy a A [41, 42, 43, 51] z r) #[.ref (a 40)] s mc ms A) [41, 42, 43, 51] z mc ms 7 (f_X5_nameStatement k 1) (fun z L => [(0, .ref (a 40)), (1, .int (L.1 1)), (2, .int (L.1 2))]) 22 (fun z L => [])) ∧ (bX p l e (headSpec w_f_X5_nameStatement ({ frames := 411, cells := mc, slots := ms, locals := 13429 })).room s m #[.ref (a 40)] below meth c dC dI cy a A (fun r => vx_MQ below (xV dC dI cy a A [41, 42, 43, 51] z r) (xX dC dI cy a A [41, 42, 43, 51] z r) #[.ref (a 40)] s mc ms A) [41, 42, 43, 51] z mc ms 7 (f_X5_nameStatement k 2) (fun z L => [(0, .ref (a 40)), (1, .int (L.1 1)), (2, .int (L.1 2))]) 31 (fun z L => [.int (L.1 100)])) ∧ (bX p l e (headSpec w_f_X5_nameStatement ({ frames := 411, cells := mc, slots := ms, locals := 13429 })).room s m #[.ref (a 40)] below meth c dC dI cy a A (fun r => vx_MQ below (xV dC dI cy a A [41, 42, 43, 51] z r) (xX dC dI cy a A [41, 42, 43, 51] z r) #[.ref (a 40)] s mc ms A) [41, 42, 43, 51] z mc ms 7 (f_X5_nameStatement k 3) (fun z L => [(0, .ref (a 40)), (1, .int (L.1 1)), (2, .int (L.1 2)), (3, .int (L.1 3))]) 54 (fun z L => [])) ∧ (bX p l e (headSpec w_f_X5_nameStatement ({ frames := 411, cells := mc, slots := ms, locals := 13429 })).room s m #[.ref (a 40)] below meth c dC dI cy a A (fun r => vx_MQ below (xV dC dI cy a A [41, 42, 43, 51] z r) (xX dC dI cy a A [41, 42, 43, 51] z r) #[.ref (a 40)] s mc ms A) [41, 42, 43, 51] z mc ms 7 (f_X5_nameStatement k 4) (fun z L => [(0, .ref (a 40)), (2, .int (L.1 2)), (3, .int (L.1 3))]) 60 (fun z L => [])) ∧ (bX p l e (headSpec w_f_X5_nameStatement ({ frames := 411, cells := mc, slots := ms, locals := 13429 })).room s m #[.ref (a 40)] below meth c dC dI cy a A (fun r => vx_MQ below (xV dC dI cy a A [41, 42, 43, 51] z r) (xX dC dI cy a A [41, 42, 43, 51] z r) #[.ref (a 40)] s mc ms A) [41, 42, 43, 51] z mc ms 7 (f_X5_nameStatement k 5) (fun z L => [(0, .ref (a 40)), (2, .int (L.1 2))]) 114 (fun z L => [])) ∧ (bX p l e (headSpec w_f_X5_nameStatement ({ frames := 411, cells := mc, slots := ms, locals := 13429 })).room s m #[.ref (a 40)] below meth c dC dI cy a A (fun r => vx_MQ below (xV dC dI cy a A [41, 42, 43, 51] z r) (xX dC dI cy a A [41, 42, 43, 51] z r) #[.ref (a 40)] s mc ms A) [41, 42, 43, 51] z mc ms 7 (f_X5_nameStatement k 6) (fun z L => [(0, .ref (a 40)), (4, .int (L.1 4)), (5, .int (L.1 5))]) 204 (fun z L => [])) ∧ (bX p l e (headSpec w_f_X5_nameStatement ({ frames := 411, cells := mc, slots := ms, locals := 13429 })).room s m #[.ref (a 40)] below meth c dC dI cy a A (fun r => vx_MQ below (xV dC dI cy a A [41, 42, 43, 51] z r) (xX dC dI cy a A [41, 42, 43, 51] z r) #[.ref (a 40)] s mc ms A) [41, 42, 43, 51] z mc ms 7 (f_X5_nameStatement k 7) (fun z L => [(0, .ref (a 40)), (5, .int (L.1 5))]) 316 (fun z L => [])) ∧ (bX p l e (headSpec w_f_X5_nameStatement ({ frames := 411, cells := mc, slots := ms, locals := 13429 })).room s m #[.ref (a 40)] below meth c dC dI cy a A (fun r => vx_MQ below (xV dC dI cy a A [41, 42, 43, 51] z r) (xX dC dI cy a A [41, 42, 43, 51] z r) #[.ref (a 40)] s mc ms A) [41, 42, 43, 51] z mc ms 7 (f_X5_nameStatement k 8) (fun z L => [(0, .ref (a 40)), (5, .int (L.1 5))]) 332 (fun z L => [])) ∧ (bX p l e (headSpec w_f_X5_nameStatement ({ frames := 411, cells := mc, slots := ms, locals := 13429 })).room s m #[.ref (a 40)] below meth c dC dI cy a A (fun r => vx_MQ below (xV dC dI cy a A [41, 42, 43, 51] z r) (xX dC dI cy a A [41, 42, 43, 51] z r) #[.ref (a 40)] s mc ms A) [41, 42, 43, 51] z mc ms 7 (f_X5_nameStatement k 9) (fun z L => [(0, .ref (a 40)), (5, .int (L.1 5))]) 367 (fun z L => [])) ∧ (bX p l e (headSpec w_f_X5_nameStatement ({ frames := 411, cells := mc, slots := ms, locals := 13429 })).room s m #[.ref (a 40)] below meth c dC dI cy a A (fun r => vx_MQ below (xV dC dI cy a A [41, 42, 43, 51] z r) (xX dC dI cy a A [41, 42, 43, 51] z r) #[.ref (a 40)] s mc ms A) [41, 42, 43, 51] z mc ms 7 (f_X5_nameStatement k 10) (fun z L => [(0, .ref (a 40)), (4, .int (L.1 4)), (5, .int (L.1 5))]) 246 (fun z L => [])) ∧ (bX p l e (headSpec w_f_X5_nameStatement ({ frames := 411, cells := mc, slots := ms, locals := 13429 })).room s m #[.ref (a 40)] below meth c dC dI cy a A (fun r => vx_MQ below (xV dC dI cy a A [41, 42, 43, 51] z r) (xX dC dI cy a A [41, 42, 43, 51] z r) #[.ref (a 40)] s mc ms A) [41, 42, 43, 51] z mc ms 7 (f_X5_nameStatement k 11) (fun z L => [(0, .ref (a 40)), (4, .int (L.1 4)), (5, .int (L.1 5))]) 247 (fun z L => [.int (L.1 100)])) ∧ (bX p l e (headSpec w_f_X5_nameStatement ({ frames := 411, cells := mc, slots := ms, locals := 13429 })).room s m #[.ref (a 40)] below meth c dC dI cy a A (fun r => vx_MQ below (xV dC dI cy a A [41, 42, 43, 51] z r) (xX dC dI cy a A [41, 42, 43, 51] z r) #[.ref (a 40)] s mc ms A) [41, 42, 43, 51] z mc ms 7 (f_X5_nameStatement k 12) (fun z L => [(0, .ref (a 40)), (5, .int (L.1 5))]) 379 (fun z L => [])) ∧ (bX p l e (headSpec w_f_X5_nameStatement ({ frames := 411, cells := mc, slots := ms, locals := 13429 })).room s m #[.ref (a 40)] below meth c dC dI cy a A (fun r => vx_MQ below (xV dC dI cy a A [41, 42, 43, 51] z r) (xX dC dI cy a A [41, 42, 43, 51] z r) #[.ref (a 40)] s mc ms A) [41, 42, 43, 51] z mc ms 7 (f_X5_nameStatement k 13) (fun z L => [(0, .ref (a 40)), (5, .int (L.1 5))]) 307 (fun z L => [])) := by
    intro k
    induction k with
    | zero => exact ⟨fun z c1 c2 L σ r h => (by cases h), fun z c1 c2 L σ r h => (by cases h), fun z c1 c2 L σ r h => (by cases h), fun z c1 c2 L σ r h => (by cases h), fun z c1 c2 L σ r h => (by cases h), fun z c1 c2 L σ r h => (by cases h), fun z c1 c2 L σ r h => (by cases h), fun z c1 c2 L σ r h => (by cases h), fun z c1 c2 L σ r h => (by cases h), fun z c1 c2 L σ r h => (by cases h), fun z c1 c2 L σ r h => (by cases h), fun z c1 c2 L σ r h => (by cases h), fun z c1 c2 L σ r h => (by cases h), fun z c1 c2 L σ r h => (by cases h)⟩
    | succ k ih =>
      refine ⟨?_, ?_, ?_, ?_, ?_, ?_, ?_, ?_, ?_, ?_, ?_, ?_, ?_, ?_⟩
      · intro z cells slots L σ r h hzk hc hs H locs ls hP hD hS hl
        rw [f_X5_nameStatement] at h
        refine lv_aload_n hx hb dX5_nameStatement_0 rfl (lv_at hl 0 rfl) ?_
        refine hg_40_0 hx hb hts in_f_X5_nameStatement_X5 hown hK hP (hts _ (List.mem_cons_of_mem _ (List.mem_append_left _ (List.mem_append_left _ (List.mem_of_getElem? (i := 0) rfl))))) dX5_nameStatement_1 ?_
        refine hg_37_3n hx hb hts in_f_X5_nameStatement_X2 hown hK hP (va_Nw.use rfl (hG.1 _ (List.mem_of_getElem? (i := 54) rfl))) dX5_nameStatement_4 ?_
        refine lv_istore_n (lv' := [(1, .int (σ.1 3703)), (0, .ref (a 40))]) hx hb dX5_nameStatement_7 rfl hl (by decide) rfl (fun ls hl => ?_)
        refine lv_aload_n hx hb dX5_nameStatement_8 rfl (lv_at hl 1 rfl) ?_
        obtain ⟨r1, hc1, hle1, h9⟩ := ox_ex h
        clear h
        refine kx_i (vx_runV (As := []) (rest := []) ⟨hx, hb, hml, hown, hts⟩ (c_f_X5_takenName l hl0 dC dI cy ek a k lZ σ r1 hc1 z H.size) (cwV 0 hts g_f_X5_nameStatement_X5_takenName_V268 rfl rfl rfl hd_f_X5_takenName ⟨Nat.le_of_ble_eq_true rfl, Nat.le_of_ble_eq_true rfl⟩) ⟨nb_blindF, va_recv hK hP (ci := 4) (q0 := 40) rfl rfl, (kx_pre hK hG hE hT hA hP hD hS)⟩ rfl rfl hl.1 rfl (lv_room (Nat.le_of_ble_eq_true rfl)) dX5_nameStatement_9 ⟨Nat.le_trans (Nat.add_le_add_left hle1.1 _) (Nat.le_of_eq hc), Nat.le_trans (Nat.add_le_add_left hle1.2 _) (Nat.le_of_eq hs)⟩) hK hA hzk hP hD hS (by decide) hno hlocks ?_
        rcases h9 with ⟨h00, y1, hny1, hy⟩ | ⟨h00, hy⟩
        · subst hy
          have h := hny1
          refine Or.inl ⟨h00, fun u H locs hz1 hzk hP hD hS => ?_⟩
          obtain rfl := (zk_nil hz1).symm
          replace hc := (Nat.add_assoc _ _ _).trans hc
          replace hs := (Nat.add_assoc _ _ _).trans hs
          refine lv_istore_n (lv' := [(2, .int r1.1.2), (1, .int (σ.1 3703)), (0, .ref (a 40))]) hx hb dX5_nameStatement_12 rfl hl (by decide) rfl (fun ls hl => ?_)
          refine lv_iload_n hx hb dX5_nameStatement_13 rfl (lv_at hl 0 rfl) ?_
          refine lv_iconst (v := (-1)) hx hb dX5_nameStatement_14 (by decide) ?_
          refine lv_icmp_ne (tgt := 22) hx hb dX5_nameStatement_15 (by decide) (fun c2 => ?_) (fun c2 => ?_)
          · rw [if_neg c2] at h
            exact ih.2.1 z _ _ (lI (lI L 1 ((σ.1 3703))) 2 r1.1.2) r1.2.1 _ h hzk hc hs H locs ls hP hD hS (lv_sub hl [2, 1, 0] rfl)
          · rw [if_pos c2] at h
            refine lv_iconst (v := 1) hx hb dX5_nameStatement_18 (by decide) ?_
            refine lv_goto (tgt := 31) hx hb dX5_nameStatement_19 (by decide) ?_
            exact ih.2.2.1 z _ _ (lI (lI (lI L 1 ((σ.1 3703))) 2 r1.1.2) 100 1) r1.2.1 _ h hzk hc hs H locs ls hP hD hS (lv_sub hl [2, 1, 0] rfl)
        · subst hy
          exact Or.inr ⟨h00, rfl, hc, hs⟩
      · intro z cells slots L σ r h hzk hc hs H locs ls hP hD hS hl
        rw [f_X5_nameStatement] at h
        refine lv_aload_n hx hb dX5_nameStatement_22 rfl (lv_at hl 0 rfl) ?_
        obtain ⟨b1, hb1, h⟩ := oP_ex h
        refine hgq_40_2 hx hb hts in_f_X5_nameStatement_X5 hown hK hP (hts _ (List.mem_cons_of_mem _ (List.mem_append_left _ (List.mem_append_left _ (List.mem_of_getElem? (i := 5) rfl))))) hb1 dX5_nameStatement_23 ?_
        refine hg_P_7n b1 hx hb hts in_f_X5_nameStatement_X7 hown hK hP (va_Nw.use rfl (hG.1 _ (List.mem_of_getElem? (i := 77) rfl))) dX5_nameStatement_26 ?_
        refine lv_iload_n hx hb dX5_nameStatement_29 rfl (lv_at hl 2 rfl) ?_
        obtain ⟨q2, h⟩ := kr_ite1 h
        refine hl_P7 b1 hx hb hK hP q2 dX5_nameStatement_30 ?_
        exact ih.2.2.1 z _ _ (lI L 100 ((σ.2.2.1 (pR7 b1) ((L.1 2)).toNatClampNeg))) σ _ h hzk hc hs H locs ls hP hD hS (lv_sub hl [0, 1, 2] rfl)
      · intro z cells slots L σ r h hzk hc hs H locs ls hP hD hS hl
        rw [f_X5_nameStatement] at h
        refine lv_istore_n (lv' := [(3, .int (L.1 100)), (0, .ref (a 40)), (1, .int (L.1 1)), (2, .int (L.1 2))]) hx hb dX5_nameStatement_31 rfl hl (by decide) rfl (fun ls hl => ?_)
        refine lv_iload_n hx hb dX5_nameStatement_32 rfl (lv_at hl 0 rfl) ?_
        refine lv_iconst (v := 1) hx hb dX5_nameStatement_33 (by decide) ?_
        refine lv_icmp_eq (tgt := 54) hx hb dX5_nameStatement_34 (by decide) (fun c1 => ?_) (fun c1 => ?_)
        · rw [if_pos c1] at h
          exact ih.2.2.2.1 z _ _ (lI L 3 ((L.1 100))) σ _ h hzk hc hs H locs ls hP hD hS (lv_sub hl [1, 2, 3, 0] rfl)
        · rw [if_neg c1] at h
          refine lv_iload_n hx hb dX5_nameStatement_37 rfl (lv_at hl 0 rfl) ?_
          refine lv_iconst (v := 2) hx hb dX5_nameStatement_38 (by decide) ?_
          refine lv_icmp_ne (tgt := 60) hx hb dX5_nameStatement_39 (by decide) (fun c2 => ?_) (fun c2 => ?_)
          · rw [if_neg c2] at h
            exact ih.2.2.2.2.1 z _ _ (lI L 3 ((L.1 100))) σ _ h hzk hc hs H locs ls hP hD hS (lv_sub hl [1, 3, 0] rfl)
          · rw [if_pos c2] at h
            refine lv_aload_n hx hb dX5_nameStatement_42 rfl (lv_at hl 1 rfl) ?_
            refine hg_40_0 hx hb hts in_f_X5_nameStatement_X5 hown hK hP (hts _ (List.mem_cons_of_mem _ (List.mem_append_left _ (List.mem_append_left _ (List.mem_of_getElem? (i := 0) rfl))))) dX5_nameStatement_43 ?_
            refine hg_37_2n hx hb hts in_f_X5_nameStatement_X2 hown hK hP (va_Nw.use rfl (hG.1 _ (List.mem_of_getElem? (i := 52) rfl))) dX5_nameStatement_46 ?_
            refine lv_bipush (v := 10) hx hb dX5_nameStatement_49 (by decide) ?_
            refine lv_icmp_eq (tgt := 60) hx hb dX5_nameStatement_51 (by decide) (fun c3 => ?_) (fun c3 => ?_)
            · rw [if_pos c3] at h
              exact ih.2.2.2.2.1 z _ _ (lI L 3 ((L.1 100))) σ _ h hzk hc hs H locs ls hP hD hS (lv_sub hl [1, 3, 0] rfl)
            · rw [if_neg c3] at h
              exact ih.2.2.2.1 z _ _ (lI L 3 ((L.1 100))) σ _ h hzk hc hs H locs ls hP hD hS (lv_sub hl [1, 2, 3, 0] rfl)
      · intro z cells slots L σ r h hzk hc hs H locs ls hP hD hS hl
        rw [f_X5_nameStatement] at h
        refine lv_aload_n hx hb dX5_nameStatement_54 rfl (lv_at hl 0 rfl) ?_
        refine lv_iconst (v := 5) hx hb dX5_nameStatement_55 (by decide) ?_
        refine lv_iload_n hx hb dX5_nameStatement_56 rfl (lv_at hl 1 rfl) ?_
        obtain ⟨r1, hc1, hle1, h9⟩ := ox_ex h
        clear h
        refine kx_v (vx_runV (As := [.int 5, .int (L.1 1)]) (rest := []) ⟨hx, hb, hml, hown, hts⟩ (c_f_X5_refuse l hl0 dC dI cy ek a k (lI (lI lZ 1 5) 2 ((L.1 1))) σ r1 hc1 z H.size) (cwV 2 hts g_f_X5_nameStatement_X5_refuse_V125 rfl rfl rfl hd_f_X5_refuse ⟨Nat.le_of_ble_eq_true rfl, Nat.le_of_ble_eq_true rfl⟩) ⟨nb_blindF, va_recv hK hP (ci := 4) (q0 := 40) rfl rfl, (kx_pre hK hG hE hT hA hP hD hS)⟩ rfl rfl hl.1 rfl (lv_room (Nat.le_of_ble_eq_true rfl)) dX5_nameStatement_57 ⟨Nat.le_trans (Nat.add_le_add_left hle1.1 _) (Nat.le_of_eq hc), Nat.le_trans (Nat.add_le_add_left hle1.2 _) (Nat.le_of_eq hs)⟩) hK hA hzk hP hD hS (by decide) hno hlocks ?_
        rcases h9 with ⟨h00, y1, hny1, hy⟩ | ⟨h00, hy⟩
        · subst hy
          have h := hny1
          refine Or.inl ⟨h00, fun u H locs hz1 hzk hP hD hS => ?_⟩
          obtain rfl := (zk_nil hz1).symm
          replace hc := (Nat.add_assoc _ _ _).trans hc
          replace hs := (Nat.add_assoc _ _ _).trans hs
          exact ih.2.2.2.2.1 z _ _ L r1.2.1 _ h hzk hc hs H locs ls hP hD hS (lv_sub hl [0, 2, 3] rfl)
        · subst hy
          exact Or.inr ⟨h00, rfl, hc, hs⟩
      · intro z cells slots L σ r h hzk hc hs H locs ls hP hD hS hl
        rw [f_X5_nameStatement] at h
        refine lv_iload_n hx hb dX5_nameStatement_60 rfl (lv_at hl 2 rfl) ?_
        refine lv_iconst (v := 2) hx hb dX5_nameStatement_61 (by decide) ?_
        refine lv_icmp_ne (tgt := 114) hx hb dX5_nameStatement_62 (by decide) (fun c1 => ?_) (fun c1 => ?_)
        · rw [if_neg c1] at h
          exact ih.2.2.2.2.2.1 z _ _ L σ _ h hzk hc hs H locs ls hP hD hS (lv_sub hl [0, 1] rfl)
        · rw [if_pos c1] at h
          refine lv_aload_n hx hb dX5_nameStatement_65 rfl (lv_at hl 0 rfl) ?_
          refine lv_iconst (v := 0) hx hb dX5_nameStatement_66 (by decide) ?_
          refine hp_40_13 hx hb hts in_f_X5_nameStatement_X5 hown hK hP hD hS (hts _ (List.mem_cons_of_mem _ (List.mem_append_left _ (List.mem_append_left _ (List.mem_of_getElem? (i := 9) rfl))))) dX5_nameStatement_67 (fun H locs hP hD hS => ?_)
          refine lv_aload_n hx hb dX5_nameStatement_70 rfl (lv_at hl 0 rfl) ?_
          refine lv_aload_n hx hb dX5_nameStatement_71 rfl (lv_at hl 0 rfl) ?_
          obtain ⟨b2, hb2, h⟩ := oP_ex h
          refine hgq_40_2 hx hb hts in_f_X5_nameStatement_X5 hown hK hP (hts _ (List.mem_cons_of_mem _ (List.mem_append_left _ (List.mem_append_left _ (List.mem_of_getElem? (i := 5) rfl))))) hb2 dX5_nameStatement_72 ?_
          refine hg_P_9n b2 hx hb hts in_f_X5_nameStatement_X7 hown hK hP (va_Nw.use rfl (hG.1 _ (List.mem_of_getElem? (i := 80) rfl))) dX5_nameStatement_75 ?_
          refine lv_iload_n hx hb dX5_nameStatement_78 rfl (lv_at hl 1 rfl) ?_
          obtain ⟨q3, h⟩ := kr_ite1 h
          refine hl_P9 b2 hx hb hK hP q3 dX5_nameStatement_79 ?_
          refine lv_iconst (v := 0) hx hb dX5_nameStatement_80 (by decide) ?_
          obtain ⟨r4, hc4, hle4, h9⟩ := ox_ex h
          clear h
          refine kx_v (vx_runV (As := [.int ((uI σ 4013 0).2.2.1 (pR9 b2) ((L.1 2)).toNatClampNeg), .int 0]) (rest := []) ⟨hx, hb, hml, hown, hts⟩ (c_f_X5_call l hl0 dC dI cy ek a k (lI (lI lZ 1 (((uI σ 4013 0).2.2.1 (pR9 b2) ((L.1 2)).toNatClampNeg))) 2 0) (uI σ 4013 0) r4 hc4 z H.size) (cwV 2 hts g_f_X5_nameStatement_X5_call_V277 rfl rfl rfl hd_f_X5_call ⟨Nat.le_of_ble_eq_true rfl, Nat.le_of_ble_eq_true rfl⟩) ⟨nb_blindF, va_recv hK hP (ci := 4) (q0 := 40) rfl rfl, (kx_pre hK hG hE hT hA hP hD hS)⟩ rfl rfl hl.1 rfl (lv_room (Nat.le_of_ble_eq_true rfl)) dX5_nameStatement_81 ⟨Nat.le_trans (Nat.add_le_add_left hle4.1 _) (Nat.le_of_eq hc), Nat.le_trans (Nat.add_le_add_left hle4.2 _) (Nat.le_of_eq hs)⟩) hK hA hzk hP hD hS (by decide) hno hlocks ?_
          rcases h9 with ⟨h00, y4, hny4, hy⟩ | ⟨h00, hy⟩
          · subst hy
            have h := hny4
            refine Or.inl ⟨h00, fun z H locs hz4 hzk hP hD hS => ?_⟩
            replace hc := (Nat.add_assoc _ _ _).trans hc
            replace hs := (Nat.add_assoc _ _ _).trans hs
            refine lv_aload_n hx hb dX5_nameStatement_84 rfl (lv_at hl 0 rfl) ?_
            obtain ⟨b5, hb5, h⟩ := oP_ex h
            refine hgq_40_2 hx hb hts in_f_X5_nameStatement_X5 hown hK hP (hts _ (List.mem_cons_of_mem _ (List.mem_append_left _ (List.mem_append_left _ (List.mem_of_getElem? (i := 5) rfl))))) hb5 dX5_nameStatement_85 ?_
            refine lv_bipush (v := 37) hx hb dX5_nameStatement_88 (by decide) ?_
            refine lv_iconst (v := 1) hx hb dX5_nameStatement_90 (by decide) ?_
            refine lv_aload_n hx hb dX5_nameStatement_91 rfl (lv_at hl 0 rfl) ?_
            obtain ⟨b6, hb6, h⟩ := oP_ex h
            refine hgq_40_2 hx hb hts in_f_X5_nameStatement_X5 hown hK hP (hts _ (List.mem_cons_of_mem _ (List.mem_append_left _ (List.mem_append_left _ (List.mem_of_getElem? (i := 5) rfl))))) hb6 dX5_nameStatement_92 ?_
            refine hg_P_14n b6 hx hb hts in_f_X5_nameStatement_X7 hown hK hP (va_Nw.use rfl (hG.1 _ (List.mem_of_getElem? (i := 85) rfl))) dX5_nameStatement_95 ?_
            refine lv_aload_n hx hb dX5_nameStatement_98 rfl (lv_at hl 0 rfl) ?_
            obtain ⟨b7, hb7, h⟩ := oP_ex h
            refine hgq_40_2 hx hb hts in_f_X5_nameStatement_X5 hown hK hP (hts _ (List.mem_cons_of_mem _ (List.mem_append_left _ (List.mem_append_left _ (List.mem_of_getElem? (i := 5) rfl))))) hb7 dX5_nameStatement_99 ?_
            refine hg_P_9n b7 hx hb hts in_f_X5_nameStatement_X7 hown hK hP (va_Nw.use rfl (hG.1 _ (List.mem_of_getElem? (i := 80) rfl))) dX5_nameStatement_102 ?_
            refine lv_iload_n hx hb dX5_nameStatement_105 rfl (lv_at hl 1 rfl) ?_
            obtain ⟨q8, h⟩ := kr_ite1 h
            refine hl_P9 b7 hx hb hK hP q8 dX5_nameStatement_106 ?_
            obtain ⟨q9, h⟩ := kr_ite1 h
            refine hl_P14 b6 hx hb hK hP q9 dX5_nameStatement_107 ?_
            refine lv_iadd hx hb dX5_nameStatement_108 ?_
            obtain ⟨r10, hc10, hle10, h9⟩ := ox_ex h
            clear h
            refine kx_i (r := y4) (vx_runV (As := [.int 37, .int (1 + ((r4.2.1.2.2.1 (pR14 b6) ((r4.2.1.2.2.1 (pR9 b7) ((L.1 2)).toNatClampNeg)).toNatClampNeg)))]) (rest := []) ⟨hx, hb, hml, hown, hts⟩ (c_f_X7_emit__P l hl0 dC dI cy ek a k (lI (lI (lB lZ 0 b5) 1 37) 2 ((1 + ((r4.2.1.2.2.1 (pR14 b6) ((r4.2.1.2.2.1 (pR9 b7) ((L.1 2)).toNatClampNeg)).toNatClampNeg))))) r4.2.1 r10 hc10 z H.size) (cwV 2 hts g_f_X5_nameStatement_X7_emit__P_V66 rfl rfl rfl hd_f_X7_emit__P ⟨Nat.le_of_ble_eq_true rfl, Nat.le_of_ble_eq_true rfl⟩) ⟨nb_blindF, recvP b5 hK hP, (kx_pre hK hG hE hT hA hP hD hS)⟩ rfl rfl hl.1 rfl (lv_room (Nat.le_of_ble_eq_true rfl)) dX5_nameStatement_109 ⟨Nat.le_trans (Nat.add_le_add_left hle10.1 _) (Nat.le_of_eq hc), Nat.le_trans (Nat.add_le_add_left hle10.2 _) (Nat.le_of_eq hs)⟩) hK hA hzk hP hD hS (by decide) hno hlocks ?_
            rcases h9 with ⟨h00, y10, hny10, hy⟩ | ⟨h00, hy⟩
            · subst hy
              have h := hny10
              refine Or.inl ⟨h00, fun z H locs hz10 hzk hP hD hS => ?_⟩
              replace hc := (Nat.add_assoc _ _ _).trans hc
              replace hs := (Nat.add_assoc _ _ _).trans hs
              refine lv_pop hx hb dX5_nameStatement_112 rfl ?_
              obtain rfl := Option.some.inj h
              subst hc
              subst hs
              exact xr_v hx hb hr hK hzk hP hD hS hlocks dX5_nameStatement_113
            · subst hy
              exact Or.inr ⟨h00, rfl, hc, hs⟩
          · subst hy
            exact Or.inr ⟨h00, rfl, hc, hs⟩
      · intro z cells slots L σ r h hzk hc hs H locs ls hP hD hS hl
        rw [f_X5_nameStatement] at h
        refine lv_aload_n hx hb dX5_nameStatement_114 rfl (lv_at hl 0 rfl) ?_
        obtain ⟨b1, hb1, h⟩ := oP_ex h
        refine hgq_40_2 hx hb hts in_f_X5_nameStatement_X5 hown hK hP (hts _ (List.mem_cons_of_mem _ (List.mem_append_left _ (List.mem_append_left _ (List.mem_of_getElem? (i := 5) rfl))))) hb1 dX5_nameStatement_115 ?_
        refine hg_P_1n b1 hx hb hts in_f_X5_nameStatement_X7 hown hK hP (va_Nw.use rfl (hG.1 _ (List.mem_of_getElem? (i := 68) rfl))) dX5_nameStatement_118 ?_
        refine lv_istore (lv' := [(4, .int (σ.1 (fP b1 1))), (0, .ref (a 40)), (2, .int (L.1 2))]) hx hb dX5_nameStatement_121 hl (by decide) rfl (fun ls hl => ?_)
        refine lv_aload_n hx hb dX5_nameStatement_123 rfl (lv_at hl 1 rfl) ?_
        refine lv_iload_n hx hb dX5_nameStatement_124 rfl (lv_at hl 2 rfl) ?_
        obtain ⟨r2, hc2, hle2, h9⟩ := ox_ex h
        clear h
        refine kx_i (vx_runV (As := [.int (L.1 2)]) (rest := []) ⟨hx, hb, hml, hown, hts⟩ (c_f_X5_target l hl0 dC dI cy ek a k (lI lZ 1 ((L.1 2))) σ r2 hc2 z H.size) (cwV 1 hts g_f_X5_nameStatement_X5_target_V280 rfl rfl rfl hd_f_X5_target ⟨Nat.le_of_ble_eq_true rfl, Nat.le_of_ble_eq_true rfl⟩) ⟨nb_blindF, va_recv hK hP (ci := 4) (q0 := 40) rfl rfl, (kx_pre hK hG hE hT hA hP hD hS)⟩ rfl rfl hl.1 rfl (lv_room (Nat.le_of_ble_eq_true rfl)) dX5_nameStatement_125 ⟨Nat.le_trans (Nat.add_le_add_left hle2.1 _) (Nat.le_of_eq hc), Nat.le_trans (Nat.add_le_add_left hle2.2 _) (Nat.le_of_eq hs)⟩) hK hA hzk hP hD hS (by decide) hno hlocks ?_
        rcases h9 with ⟨h00, y2, hny2, hy⟩ | ⟨h00, hy⟩
        · subst hy
          have h := hny2
          refine Or.inl ⟨h00, fun z H locs hz2 hzk hP hD hS => ?_⟩
          replace hc := (Nat.add_assoc _ _ _).trans hc
          replace hs := (Nat.add_assoc _ _ _).trans hs
          refine lv_istore (lv' := [(5, .int r2.1.2), (4, .int (σ.1 (fP b1 1))), (0, .ref (a 40)), (2, .int (L.1 2))]) hx hb dX5_nameStatement_128 hl (by decide) rfl (fun ls hl => ?_)
          refine lv_aload_n hx hb dX5_nameStatement_130 rfl (lv_at hl 2 rfl) ?_
          refine hg_40_0 hx hb hts in_f_X5_nameStatement_X5 hown hK hP (hts _ (List.mem_cons_of_mem _ (List.mem_append_left _ (List.mem_append_left _ (List.mem_of_getElem? (i := 0) rfl))))) dX5_nameStatement_131 ?_
          refine hg_37_2n hx hb hts in_f_X5_nameStatement_X2 hown hK hP (va_Nw.use rfl (hG.1 _ (List.mem_of_getElem? (i := 52) rfl))) dX5_nameStatement_134 ?_
          by_cases q3 : ((r2.2.1.1 3702)) = (5 : Int32)
          · rw [if_pos q3] at h
            refine lv_lookup (off := 67) (tgt := 204) hx hb dX5_nameStatement_137 (by decide) (by rw [q3]; decide) (by decide) ?_
            exact ih.2.2.2.2.2.2.1 z _ _ (lI (lI L 4 ((σ.1 (fP b1 1)))) 5 r2.1.2) r2.2.1 _ h hzk hc hs H locs ls hP hD hS (lv_sub hl [2, 1, 0] rfl)
          · rw [if_neg q3] at h
            by_cases q4 : ((r2.2.1.1 3702)) = (6 : Int32)
            · rw [if_pos q4] at h
              refine lv_lookup (off := 179) (tgt := 316) hx hb dX5_nameStatement_137 (by decide) (by rw [q4]; decide) (by decide) ?_
              exact ih.2.2.2.2.2.2.2.1 z _ _ (lI L 5 r2.1.2) r2.2.1 _ h hzk hc hs H locs ls hP hD hS (lv_sub hl [2, 0] rfl)
            · rw [if_neg q4] at h
              by_cases q5 : ((r2.2.1.1 3702)) = (7 : Int32)
              · rw [if_pos q5] at h
                refine lv_lookup (off := 179) (tgt := 316) hx hb dX5_nameStatement_137 (by decide) (by rw [q5]; decide) (by decide) ?_
                exact ih.2.2.2.2.2.2.2.1 z _ _ (lI L 5 r2.1.2) r2.2.1 _ h hzk hc hs H locs ls hP hD hS (lv_sub hl [2, 0] rfl)
              · rw [if_neg q5] at h
                by_cases q6 : ((r2.2.1.1 3702)) = (8 : Int32)
                · rw [if_pos q6] at h
                  refine lv_lookup (off := 179) (tgt := 316) hx hb dX5_nameStatement_137 (by decide) (by rw [q6]; decide) (by decide) ?_
                  exact ih.2.2.2.2.2.2.2.1 z _ _ (lI L 5 r2.1.2) r2.2.1 _ h hzk hc hs H locs ls hP hD hS (lv_sub hl [2, 0] rfl)
                · rw [if_neg q6] at h
                  by_cases q7 : ((r2.2.1.1 3702)) = (57 : Int32)
                  · rw [if_pos q7] at h
                    refine lv_lookup (off := 195) (tgt := 332) hx hb dX5_nameStatement_137 (by decide) (by rw [q7]; decide) (by decide) ?_
                    exact ih.2.2.2.2.2.2.2.2.1 z _ _ (lI L 5 r2.1.2) r2.2.1 _ h hzk hc hs H locs ls hP hD hS (lv_sub hl [2, 0] rfl)
                  · rw [if_neg q7] at h
                    by_cases q8 : ((r2.2.1.1 3702)) = (58 : Int32)
                    · rw [if_pos q8] at h
                      refine lv_lookup (off := 195) (tgt := 332) hx hb dX5_nameStatement_137 (by decide) (by rw [q8]; decide) (by decide) ?_
                      exact ih.2.2.2.2.2.2.2.2.1 z _ _ (lI L 5 r2.1.2) r2.2.1 _ h hzk hc hs H locs ls hP hD hS (lv_sub hl [2, 0] rfl)
                    · rw [if_neg q8] at h
                      by_cases q9 : ((r2.2.1.1 3702)) = (59 : Int32)
                      · rw [if_pos q9] at h
                        refine lv_lookup (off := 195) (tgt := 332) hx hb dX5_nameStatement_137 (by decide) (by rw [q9]; decide) (by decide) ?_
                        exact ih.2.2.2.2.2.2.2.2.1 z _ _ (lI L 5 r2.1.2) r2.2.1 _ h hzk hc hs H locs ls hP hD hS (lv_sub hl [2, 0] rfl)
                      · rw [if_neg q9] at h
                        have nq3 : ¬ ((r2.2.1.1 3702)).toInt = 5 := nb_ti q3 rfl
                        have nq4 : ¬ ((r2.2.1.1 3702)).toInt = 6 := nb_ti q4 rfl
                        have nq5 : ¬ ((r2.2.1.1 3702)).toInt = 7 := nb_ti q5 rfl
                        have nq6 : ¬ ((r2.2.1.1 3702)).toInt = 8 := nb_ti q6 rfl
                        have nq7 : ¬ ((r2.2.1.1 3702)).toInt = 57 := nb_ti q7 rfl
                        have nq8 : ¬ ((r2.2.1.1 3702)).toInt = 58 := nb_ti q8 rfl
                        have nq9 : ¬ ((r2.2.1.1 3702)).toInt = 59 := nb_ti q9 rfl
                        refine lv_lookup (off := 230) (tgt := 367) hx hb dX5_nameStatement_137 (by decide) (nb_lk (by simp only [List.forall_mem_cons]; exact ⟨nq3, nq4, nq5, nq6, nq7, nq8, nq9, fun _ h => absurd h List.not_mem_nil⟩)) (by decide) ?_
                        exact ih.2.2.2.2.2.2.2.2.2.1 z _ _ (lI L 5 r2.1.2) r2.2.1 _ h hzk hc hs H locs ls hP hD hS (lv_sub hl [2, 0] rfl)
        · subst hy
          exact Or.inr ⟨h00, rfl, hc, hs⟩
      · intro z cells slots L σ r h hzk hc hs H locs ls hP hD hS hl
        rw [f_X5_nameStatement] at h
        refine lv_aload_n hx hb dX5_nameStatement_204 rfl (lv_at hl 0 rfl) ?_
        refine hg_40_0 hx hb hts in_f_X5_nameStatement_X5 hown hK hP (hts _ (List.mem_cons_of_mem _ (List.mem_append_left _ (List.mem_append_left _ (List.mem_of_getElem? (i := 0) rfl))))) dX5_nameStatement_205 ?_
        obtain ⟨r1, hc1, hle1, h9⟩ := ox_ex h
        clear h
        refine kx_v (vx_runV (As := []) (rest := []) ⟨hx, hb, hml, hown, hts⟩ (c_f_X2_advance l hl0 dC dI cy ek a k lZ σ r1 hc1 z H.size) (cwV 0 hts g_f_X5_nameStatement_X2_advance_V30 rfl rfl rfl hd_f_X2_advance ⟨Nat.le_of_ble_eq_true rfl, Nat.le_of_ble_eq_true rfl⟩) ⟨nb_blindF, va_recv hK hP (ci := 2) (q0 := 37) rfl rfl, (kx_pre hK hG hE hT hA hP hD hS)⟩ rfl rfl hl.1 rfl (lv_room (Nat.le_of_ble_eq_true rfl)) dX5_nameStatement_208 ⟨Nat.le_trans (Nat.add_le_add_left hle1.1 _) (Nat.le_of_eq hc), Nat.le_trans (Nat.add_le_add_left hle1.2 _) (Nat.le_of_eq hs)⟩) hK hA hzk hP hD hS (by decide) hno hlocks ?_
        rcases h9 with ⟨h00, y1, hny1, hy⟩ | ⟨h00, hy⟩
        · subst hy
          have h := hny1
          refine Or.inl ⟨h00, fun u H locs hz1 hzk hP hD hS => ?_⟩
          obtain rfl := (zk_nil hz1).symm
          replace hc := (Nat.add_assoc _ _ _).trans hc
          replace hs := (Nat.add_assoc _ _ _).trans hs
          refine lv_aload_n hx hb dX5_nameStatement_211 rfl (lv_at hl 0 rfl) ?_
          refine hg_40_0 hx hb hts in_f_X5_nameStatement_X5 hown hK hP (hts _ (List.mem_cons_of_mem _ (List.mem_append_left _ (List.mem_append_left _ (List.mem_of_getElem? (i := 0) rfl))))) dX5_nameStatement_212 ?_
          refine hg_37_2n hx hb hts in_f_X5_nameStatement_X2 hown hK hP (va_Nw.use rfl (hG.1 _ (List.mem_of_getElem? (i := 52) rfl))) dX5_nameStatement_215 ?_
          refine lv_iconst (v := 2) hx hb dX5_nameStatement_218 (by decide) ?_
          refine lv_icmp_ne (tgt := 246) hx hb dX5_nameStatement_219 (by decide) (fun c2 => ?_) (fun c2 => ?_)
          · rw [if_neg c2] at h
            exact ih.2.2.2.2.2.2.2.2.2.2.1 z _ _ L r1.2.1 _ h hzk hc hs H locs ls hP hD hS (lv_sub hl [0, 1, 2] rfl)
          · rw [if_pos c2] at h
            refine lv_aload_n hx hb dX5_nameStatement_222 rfl (lv_at hl 0 rfl) ?_
            obtain ⟨b3, hb3, h⟩ := oP_ex h
            refine hgq_40_2 hx hb hts in_f_X5_nameStatement_X5 hown hK hP (hts _ (List.mem_cons_of_mem _ (List.mem_append_left _ (List.mem_append_left _ (List.mem_of_getElem? (i := 5) rfl))))) hb3 dX5_nameStatement_223 ?_
            refine lv_aload_n hx hb dX5_nameStatement_226 rfl (lv_at hl 0 rfl) ?_
            refine hg_40_0 hx hb hts in_f_X5_nameStatement_X5 hown hK hP (hts _ (List.mem_cons_of_mem _ (List.mem_append_left _ (List.mem_append_left _ (List.mem_of_getElem? (i := 0) rfl))))) dX5_nameStatement_227 ?_
            refine hg_37_5n hx hb hts in_f_X5_nameStatement_X2 hown hK hP (va_Nw.use rfl (hG.1 _ (List.mem_of_getElem? (i := 58) rfl))) dX5_nameStatement_230 ?_
            refine lv_aload_n hx hb dX5_nameStatement_233 rfl (lv_at hl 0 rfl) ?_
            refine hg_40_0 hx hb hts in_f_X5_nameStatement_X5 hown hK hP (hts _ (List.mem_cons_of_mem _ (List.mem_append_left _ (List.mem_append_left _ (List.mem_of_getElem? (i := 0) rfl))))) dX5_nameStatement_234 ?_
            refine hg_37_6n hx hb hts in_f_X5_nameStatement_X2 hown hK hP (va_Nw.use rfl (hG.1 _ (List.mem_of_getElem? (i := 60) rfl))) dX5_nameStatement_237 ?_
            obtain ⟨r4, hc4, h⟩ := op_ex h
            refine kc_i (va_runV (As := [.long (r1.2.1.2.1 3705), .long (r1.2.1.2.1 3706)]) (rest := []) ⟨hx, hb, hml, hown, hts⟩ (c_y_X7_found__P l dC dI cy a z k (lJ (lJ (lB lZ 0 b3) 1 ((r1.2.1.2.1 3705))) 3 ((r1.2.1.2.1 3706))) r1.2.1 r4 hc4 H.size) (cwV 2 hts g_y_X5_nameStatement_X7_found__P_V283 rfl rfl rfl hd_y_X7_found__P ⟨Nat.le_of_ble_eq_true rfl, Nat.le_of_ble_eq_true rfl⟩) ⟨nb_blind, recvP b3 hK hP, (kb_pre hK hG hP hD)⟩ rfl rfl hl.1 rfl (lv_room (Nat.le_of_ble_eq_true rfl)) dX5_nameStatement_240 ⟨(Nat.le_trans (Nat.le_add_right _ _) (Nat.le_of_eq hc)), (Nat.le_trans (Nat.le_add_right _ _) (Nat.le_of_eq hs))⟩) hA hP hD hS (fun H locs hP hD hS => ?_)
            refine lv_goto (tgt := 247) hx hb dX5_nameStatement_243 (by decide) ?_
            exact ih.2.2.2.2.2.2.2.2.2.2.2.1 z _ _ (lI L 100 r4.1) r4.2 _ h hzk hc hs H locs ls hP hD hS (lv_sub hl [0, 1, 2] rfl)
        · subst hy
          exact Or.inr ⟨h00, rfl, hc, hs⟩
      · intro z cells slots L σ r h hzk hc hs H locs ls hP hD hS hl
        rw [f_X5_nameStatement] at h
        refine lv_aload_n hx hb dX5_nameStatement_316 rfl (lv_at hl 0 rfl) ?_
        refine lv_iload hx hb dX5_nameStatement_317 (lv_at hl 1 rfl) ?_
        refine lv_aload_n hx hb dX5_nameStatement_319 rfl (lv_at hl 0 rfl) ?_
        refine hg_40_0 hx hb hts in_f_X5_nameStatement_X5 hown hK hP (hts _ (List.mem_cons_of_mem _ (List.mem_append_left _ (List.mem_append_left _ (List.mem_of_getElem? (i := 0) rfl))))) dX5_nameStatement_320 ?_
        refine hg_37_2n hx hb hts in_f_X5_nameStatement_X2 hown hK hP (va_Nw.use rfl (hG.1 _ (List.mem_of_getElem? (i := 52) rfl))) dX5_nameStatement_323 ?_
        obtain ⟨r1, hc1, hle1, h9⟩ := ox_ex h
        clear h
        refine kx_v (vx_runV (As := [.int (L.1 5), .int (σ.1 3702)]) (rest := []) ⟨hx, hb, hml, hown, hts⟩ (c_f_X5_operation l hl0 dC dI cy ek a k (lI (lI lZ 1 ((L.1 5))) 2 ((σ.1 3702))) σ r1 hc1 z H.size) (cwV 2 hts g_f_X5_nameStatement_X5_operation_V296 rfl rfl rfl hd_f_X5_operation ⟨Nat.le_of_ble_eq_true rfl, Nat.le_of_ble_eq_true rfl⟩) ⟨nb_blindF, va_recv hK hP (ci := 4) (q0 := 40) rfl rfl, (kx_pre hK hG hE hT hA hP hD hS)⟩ rfl rfl hl.1 rfl (lv_room (Nat.le_of_ble_eq_true rfl)) dX5_nameStatement_326 ⟨Nat.le_trans (Nat.add_le_add_left hle1.1 _) (Nat.le_of_eq hc), Nat.le_trans (Nat.add_le_add_left hle1.2 _) (Nat.le_of_eq hs)⟩) hK hA hzk hP hD hS (by decide) hno hlocks ?_
        rcases h9 with ⟨h00, y1, hny1, hy⟩ | ⟨h00, hy⟩
        · subst hy
          have h := hny1
          refine Or.inl ⟨h00, fun z H locs hz1 hzk hP hD hS => ?_⟩
          replace hc := (Nat.add_assoc _ _ _).trans hc
          replace hs := (Nat.add_assoc _ _ _).trans hs
          refine lv_goto (tgt := 379) hx hb dX5_nameStatement_329 (by decide) ?_
          exact ih.2.2.2.2.2.2.2.2.2.2.2.2.1 z _ _ L r1.2.1 _ h hzk hc hs H locs ls hP hD hS (lv_sub hl [0, 1] rfl)
        · subst hy
          exact Or.inr ⟨h00, rfl, hc, hs⟩
      · intro z cells slots L σ r h hzk hc hs H locs ls hP hD hS hl
        rw [f_X5_nameStatement] at h
        refine lv_aload_n hx hb dX5_nameStatement_332 rfl (lv_at hl 0 rfl) ?_
        refine hg_40_0 hx hb hts in_f_X5_nameStatement_X5 hown hK hP (hts _ (List.mem_cons_of_mem _ (List.mem_append_left _ (List.mem_append_left _ (List.mem_of_getElem? (i := 0) rfl))))) dX5_nameStatement_333 ?_
        refine hg_37_2n hx hb hts in_f_X5_nameStatement_X2 hown hK hP (va_Nw.use rfl (hG.1 _ (List.mem_of_getElem? (i := 52) rfl))) dX5_nameStatement_336 ?_
        refine lv_bipush (v := 57) hx hb dX5_nameStatement_339 (by decide) ?_
        refine lv_isub hx hb dX5_nameStatement_341 ?_
        refine lv_istore (lv' := [(6, .int (((σ.1 3702)) - 57)), (0, .ref (a 40)), (5, .int (L.1 5))]) hx hb dX5_nameStatement_342 hl (by decide) rfl (fun ls hl => ?_)
        refine lv_aload_n hx hb dX5_nameStatement_344 rfl (lv_at hl 1 rfl) ?_
        refine hg_40_0 hx hb hts in_f_X5_nameStatement_X5 hown hK hP (hts _ (List.mem_cons_of_mem _ (List.mem_append_left _ (List.mem_append_left _ (List.mem_of_getElem? (i := 0) rfl))))) dX5_nameStatement_345 ?_
        obtain ⟨r1, hc1, hle1, h9⟩ := ox_ex h
        clear h
        refine kx_v (vx_runV (As := []) (rest := []) ⟨hx, hb, hml, hown, hts⟩ (c_f_X2_advance l hl0 dC dI cy ek a k lZ σ r1 hc1 z H.size) (cwV 0 hts g_f_X5_nameStatement_X2_advance_V30 rfl rfl rfl hd_f_X2_advance ⟨Nat.le_of_ble_eq_true rfl, Nat.le_of_ble_eq_true rfl⟩) ⟨nb_blindF, va_recv hK hP (ci := 2) (q0 := 37) rfl rfl, (kx_pre hK hG hE hT hA hP hD hS)⟩ rfl rfl hl.1 rfl (lv_room (Nat.le_of_ble_eq_true rfl)) dX5_nameStatement_348 ⟨Nat.le_trans (Nat.add_le_add_left hle1.1 _) (Nat.le_of_eq hc), Nat.le_trans (Nat.add_le_add_left hle1.2 _) (Nat.le_of_eq hs)⟩) hK hA hzk hP hD hS (by decide) hno hlocks ?_
        rcases h9 with ⟨h00, y1, hny1, hy⟩ | ⟨h00, hy⟩
        · subst hy
          have h := hny1
          refine Or.inl ⟨h00, fun u H locs hz1 hzk hP hD hS => ?_⟩
          obtain rfl := (zk_nil hz1).symm
          replace hc := (Nat.add_assoc _ _ _).trans hc
          replace hs := (Nat.add_assoc _ _ _).trans hs
          refine lv_aload_n hx hb dX5_nameStatement_351 rfl (lv_at hl 1 rfl) ?_
          refine lv_iload hx hb dX5_nameStatement_352 (lv_at hl 2 rfl) ?_
          refine lv_aload_n hx hb dX5_nameStatement_354 rfl (lv_at hl 1 rfl) ?_
          refine lv_iconst (v := (-1)) hx hb dX5_nameStatement_355 (by decide) ?_
          obtain ⟨r2, hc2, hle2, h9⟩ := ox_ex h
          clear h
          refine kx_i (r := y1) (vx_runV (As := [.int (-1)]) (rest := [.int (L.1 5), .ref (a 40)]) ⟨hx, hb, hml, hown, hts⟩ (c_f_X5_target l hl0 dC dI cy ek a k (lI lZ 1 ((-1))) r1.2.1 r2 hc2 z H.size) (cwV 1 hts g_f_X5_nameStatement_X5_target_V280 rfl rfl rfl hd_f_X5_target ⟨Nat.le_of_ble_eq_true rfl, Nat.le_of_ble_eq_true rfl⟩) ⟨nb_blindF, va_recv hK hP (ci := 4) (q0 := 40) rfl rfl, (kx_pre hK hG hE hT hA hP hD hS)⟩ rfl rfl hl.1 rfl (lv_room (Nat.le_of_ble_eq_true rfl)) dX5_nameStatement_356 ⟨Nat.le_trans (Nat.add_le_add_left hle2.1 _) (Nat.le_of_eq hc), Nat.le_trans (Nat.add_le_add_left hle2.2 _) (Nat.le_of_eq hs)⟩) hK hA hzk hP hD hS (by decide) hno hlocks ?_
          rcases h9 with ⟨h00, y2, hny2, hy⟩ | ⟨h00, hy⟩
          · subst hy
            have h := hny2
            refine Or.inl ⟨h00, fun z H locs hz2 hzk hP hD hS => ?_⟩
            replace hc := (Nat.add_assoc _ _ _).trans hc
            replace hs := (Nat.add_assoc _ _ _).trans hs
            refine lv_iload hx hb dX5_nameStatement_359 (lv_at hl 0 rfl) ?_
            obtain ⟨r3, hc3, hle3, h9⟩ := ox_ex h
            clear h
            refine kx_v (r := y2) (vx_runV (As := [.int (L.1 5), .int r2.1.2, .int (((σ.1 3702)) - 57)]) (rest := []) ⟨hx, hb, hml, hown, hts⟩ (c_f_X5_taking l hl0 dC dI cy ek a k (lI (lI (lI lZ 1 ((L.1 5))) 2 r2.1.2) 3 ((((σ.1 3702)) - 57))) r2.2.1 r3 hc3 z H.size) (cwV 3 hts g_f_X5_nameStatement_X5_taking_V299 rfl rfl rfl hd_f_X5_taking ⟨Nat.le_of_ble_eq_true rfl, Nat.le_of_ble_eq_true rfl⟩) ⟨nb_blindF, va_recv hK hP (ci := 4) (q0 := 40) rfl rfl, (kx_pre hK hG hE hT hA hP hD hS)⟩ rfl rfl hl.1 rfl (lv_room (Nat.le_of_ble_eq_true rfl)) dX5_nameStatement_361 ⟨Nat.le_trans (Nat.add_le_add_left hle3.1 _) (Nat.le_of_eq hc), Nat.le_trans (Nat.add_le_add_left hle3.2 _) (Nat.le_of_eq hs)⟩) hK hA hzk hP hD hS (by decide) hno hlocks ?_
            rcases h9 with ⟨h00, y3, hny3, hy⟩ | ⟨h00, hy⟩
            · subst hy
              have h := hny3
              refine Or.inl ⟨h00, fun z H locs hz3 hzk hP hD hS => ?_⟩
              replace hc := (Nat.add_assoc _ _ _).trans hc
              replace hs := (Nat.add_assoc _ _ _).trans hs
              refine lv_goto (tgt := 379) hx hb dX5_nameStatement_364 (by decide) ?_
              exact ih.2.2.2.2.2.2.2.2.2.2.2.2.1 z _ _ L r3.2.1 _ h hzk hc hs H locs ls hP hD hS (lv_sub hl [1, 2] rfl)
            · subst hy
              exact Or.inr ⟨h00, rfl, hc, hs⟩
          · subst hy
            exact Or.inr ⟨h00, rfl, hc, hs⟩
        · subst hy
          exact Or.inr ⟨h00, rfl, hc, hs⟩
      · intro z cells slots L σ r h hzk hc hs H locs ls hP hD hS hl
        rw [f_X5_nameStatement] at h
        refine lv_aload_n hx hb dX5_nameStatement_367 rfl (lv_at hl 0 rfl) ?_
        refine lv_iconst (v := 2) hx hb dX5_nameStatement_368 (by decide) ?_
        refine lv_aload_n hx hb dX5_nameStatement_369 rfl (lv_at hl 0 rfl) ?_
        refine hg_40_0 hx hb hts in_f_X5_nameStatement_X5 hown hK hP (hts _ (List.mem_cons_of_mem _ (List.mem_append_left _ (List.mem_append_left _ (List.mem_of_getElem? (i := 0) rfl))))) dX5_nameStatement_370 ?_
        refine hg_37_3n hx hb hts in_f_X5_nameStatement_X2 hown hK hP (va_Nw.use rfl (hG.1 _ (List.mem_of_getElem? (i := 54) rfl))) dX5_nameStatement_373 ?_
        obtain ⟨r1, hc1, hle1, h9⟩ := ox_ex h
        clear h
        refine kx_v (vx_runV (As := [.int 2, .int (σ.1 3703)]) (rest := []) ⟨hx, hb, hml, hown, hts⟩ (c_f_X5_refuse l hl0 dC dI cy ek a k (lI (lI lZ 1 2) 2 ((σ.1 3703))) σ r1 hc1 z H.size) (cwV 2 hts g_f_X5_nameStatement_X5_refuse_V125 rfl rfl rfl hd_f_X5_refuse ⟨Nat.le_of_ble_eq_true rfl, Nat.le_of_ble_eq_true rfl⟩) ⟨nb_blindF, va_recv hK hP (ci := 4) (q0 := 40) rfl rfl, (kx_pre hK hG hE hT hA hP hD hS)⟩ rfl rfl hl.1 rfl (lv_room (Nat.le_of_ble_eq_true rfl)) dX5_nameStatement_376 ⟨Nat.le_trans (Nat.add_le_add_left hle1.1 _) (Nat.le_of_eq hc), Nat.le_trans (Nat.add_le_add_left hle1.2 _) (Nat.le_of_eq hs)⟩) hK hA hzk hP hD hS (by decide) hno hlocks ?_
        rcases h9 with ⟨h00, y1, hny1, hy⟩ | ⟨h00, hy⟩
        · subst hy
          have h := hny1
          refine Or.inl ⟨h00, fun u H locs hz1 hzk hP hD hS => ?_⟩
          obtain rfl := (zk_nil hz1).symm
          replace hc := (Nat.add_assoc _ _ _).trans hc
          replace hs := (Nat.add_assoc _ _ _).trans hs
          exact ih.2.2.2.2.2.2.2.2.2.2.2.2.1 z _ _ L r1.2.1 _ h hzk hc hs H locs ls hP hD hS (lv_sub hl [0, 1] rfl)
        · subst hy
          exact Or.inr ⟨h00, rfl, hc, hs⟩
      · intro z cells slots L σ r h hzk hc hs H locs ls hP hD hS hl
        rw [f_X5_nameStatement] at h
        refine lv_iconst (v := (-1)) hx hb dX5_nameStatement_246 (by decide) ?_
        exact ih.2.2.2.2.2.2.2.2.2.2.2.1 z _ _ (lI L 100 ((-1))) σ _ h hzk hc hs H locs ls hP hD hS (lv_sub hl [0, 1, 2] rfl)
      · intro z cells slots L σ r h hzk hc hs H locs ls hP hD hS hl
        rw [f_X5_nameStatement] at h
        refine lv_istore_n (lv' := [(2, .int (L.1 100)), (0, .ref (a 40)), (4, .int (L.1 4)), (5, .int (L.1 5))]) hx hb dX5_nameStatement_247 rfl hl (by decide) rfl (fun ls hl => ?_)
        refine lv_iload_n hx hb dX5_nameStatement_248 rfl (lv_at hl 0 rfl) ?_
        refine lv_iconst (v := (-1)) hx hb dX5_nameStatement_249 (by decide) ?_
        refine lv_icmp_eq (tgt := 307) hx hb dX5_nameStatement_250 (by decide) (fun c1 => ?_) (fun c1 => ?_)
        · rw [if_pos c1] at h
          exact ih.2.2.2.2.2.2.2.2.2.2.2.2.2 z _ _ L σ _ h hzk hc hs H locs ls hP hD hS (lv_sub hl [1, 3] rfl)
        · rw [if_neg c1] at h
          refine lv_aload_n hx hb dX5_nameStatement_253 rfl (lv_at hl 1 rfl) ?_
          obtain ⟨b2, hb2, h⟩ := oP_ex h
          refine hgq_40_2 hx hb hts in_f_X5_nameStatement_X5 hown hK hP (hts _ (List.mem_cons_of_mem _ (List.mem_append_left _ (List.mem_append_left _ (List.mem_of_getElem? (i := 5) rfl))))) hb2 dX5_nameStatement_254 ?_
          refine hg_P_7n b2 hx hb hts in_f_X5_nameStatement_X7 hown hK hP (va_Nw.use rfl (hG.1 _ (List.mem_of_getElem? (i := 77) rfl))) dX5_nameStatement_257 ?_
          refine lv_iload_n hx hb dX5_nameStatement_260 rfl (lv_at hl 0 rfl) ?_
          obtain ⟨q3, h⟩ := kr_ite1 h
          refine hl_P7 b2 hx hb hK hP q3 dX5_nameStatement_261 ?_
          refine lv_iconst (v := 2) hx hb dX5_nameStatement_262 (by decide) ?_
          refine lv_icmp_ne (tgt := 307) hx hb dX5_nameStatement_263 (by decide) (fun c4 => ?_) (fun c4 => ?_)
          · rw [if_neg c4] at h
            exact ih.2.2.2.2.2.2.2.2.2.2.2.2.2 z _ _ L σ _ h hzk hc hs H locs ls hP hD hS (lv_sub hl [1, 3] rfl)
          · rw [if_pos c4] at h
            refine lv_aload_n hx hb dX5_nameStatement_266 rfl (lv_at hl 1 rfl) ?_
            refine lv_iload hx hb dX5_nameStatement_267 (lv_at hl 2 rfl) ?_
            obtain ⟨r5, hc5, hle5, h9⟩ := ox_ex h
            clear h
            refine kx_v (vx_runV (As := [.int (L.1 4)]) (rest := []) ⟨hx, hb, hml, hown, hts⟩ (c_f_X5_postponeTarget l hl0 dC dI cy ek a k (lI lZ 1 ((L.1 4))) σ r5 hc5 z H.size) (cwV 1 hts g_f_X5_nameStatement_X5_postponeTarget_V287 rfl rfl rfl hd_f_X5_postponeTarget ⟨Nat.le_of_ble_eq_true rfl, Nat.le_of_ble_eq_true rfl⟩) ⟨nb_blindF, va_recv hK hP (ci := 4) (q0 := 40) rfl rfl, (kx_pre hK hG hE hT hA hP hD hS)⟩ rfl rfl hl.1 rfl (lv_room (Nat.le_of_ble_eq_true rfl)) dX5_nameStatement_269 ⟨Nat.le_trans (Nat.add_le_add_left hle5.1 _) (Nat.le_of_eq hc), Nat.le_trans (Nat.add_le_add_left hle5.2 _) (Nat.le_of_eq hs)⟩) hK hA hzk hP hD hS (by decide) hno hlocks ?_
            rcases h9 with ⟨h00, y5, hny5, hy⟩ | ⟨h00, hy⟩
            · subst hy
              have h := hny5
              refine Or.inl ⟨h00, fun z H locs hz5 hzk hP hD hS => ?_⟩
              replace hc := (Nat.add_assoc _ _ _).trans hc
              replace hs := (Nat.add_assoc _ _ _).trans hs
              refine lv_aload_n hx hb dX5_nameStatement_272 rfl (lv_at hl 1 rfl) ?_
              refine lv_aload_n hx hb dX5_nameStatement_273 rfl (lv_at hl 1 rfl) ?_
              obtain ⟨b6, hb6, h⟩ := oP_ex h
              refine hgq_40_2 hx hb hts in_f_X5_nameStatement_X5 hown hK hP (hts _ (List.mem_cons_of_mem _ (List.mem_append_left _ (List.mem_append_left _ (List.mem_of_getElem? (i := 5) rfl))))) hb6 dX5_nameStatement_274 ?_
              refine hg_P_9n b6 hx hb hts in_f_X5_nameStatement_X7 hown hK hP (va_Nw.use rfl (hG.1 _ (List.mem_of_getElem? (i := 80) rfl))) dX5_nameStatement_277 ?_
              refine lv_iload_n hx hb dX5_nameStatement_280 rfl (lv_at hl 0 rfl) ?_
              obtain ⟨q7, h⟩ := kr_ite1 h
              refine hl_P9 b6 hx hb hK hP q7 dX5_nameStatement_281 ?_
              refine lv_aload_n hx hb dX5_nameStatement_282 rfl (lv_at hl 1 rfl) ?_
              refine hg_40_13 hx hb hts in_f_X5_nameStatement_X5 hown hK hP (hts _ (List.mem_cons_of_mem _ (List.mem_append_left _ (List.mem_append_left _ (List.mem_of_getElem? (i := 9) rfl))))) dX5_nameStatement_283 ?_
              obtain ⟨r8, hc8, hle8, h9⟩ := ox_ex h
              clear h
              refine kx_v (r := y5) (vx_runV (As := [.int (r5.2.1.2.2.1 (pR9 b6) ((L.1 100)).toNatClampNeg), .int (r5.2.1.1 4013)]) (rest := []) ⟨hx, hb, hml, hown, hts⟩ (c_f_X5_call l hl0 dC dI cy ek a k (lI (lI lZ 1 ((r5.2.1.2.2.1 (pR9 b6) ((L.1 100)).toNatClampNeg))) 2 ((r5.2.1.1 4013))) r5.2.1 r8 hc8 z H.size) (cwV 2 hts g_f_X5_nameStatement_X5_call_V277 rfl rfl rfl hd_f_X5_call ⟨Nat.le_of_ble_eq_true rfl, Nat.le_of_ble_eq_true rfl⟩) ⟨nb_blindF, va_recv hK hP (ci := 4) (q0 := 40) rfl rfl, (kx_pre hK hG hE hT hA hP hD hS)⟩ rfl rfl hl.1 rfl (lv_room (Nat.le_of_ble_eq_true rfl)) dX5_nameStatement_286 ⟨Nat.le_trans (Nat.add_le_add_left hle8.1 _) (Nat.le_of_eq hc), Nat.le_trans (Nat.add_le_add_left hle8.2 _) (Nat.le_of_eq hs)⟩) hK hA hzk hP hD hS (by decide) hno hlocks ?_
              rcases h9 with ⟨h00, y8, hny8, hy⟩ | ⟨h00, hy⟩
              · subst hy
                have h := hny8
                refine Or.inl ⟨h00, fun z H locs hz8 hzk hP hD hS => ?_⟩
                replace hc := (Nat.add_assoc _ _ _).trans hc
                replace hs := (Nat.add_assoc _ _ _).trans hs
                refine lv_aload_n hx hb dX5_nameStatement_289 rfl (lv_at hl 1 rfl) ?_
                refine lv_iload hx hb dX5_nameStatement_290 (lv_at hl 3 rfl) ?_
                refine lv_aload_n hx hb dX5_nameStatement_292 rfl (lv_at hl 1 rfl) ?_
                obtain ⟨b9, hb9, h⟩ := oP_ex h
                refine hgq_40_2 hx hb hts in_f_X5_nameStatement_X5 hown hK hP (hts _ (List.mem_cons_of_mem _ (List.mem_append_left _ (List.mem_append_left _ (List.mem_of_getElem? (i := 5) rfl))))) hb9 dX5_nameStatement_293 ?_
                refine hg_P_9n b9 hx hb hts in_f_X5_nameStatement_X7 hown hK hP (va_Nw.use rfl (hG.1 _ (List.mem_of_getElem? (i := 80) rfl))) dX5_nameStatement_296 ?_
                refine lv_iload_n hx hb dX5_nameStatement_299 rfl (lv_at hl 0 rfl) ?_
                obtain ⟨q10, h⟩ := kr_ite1 h
                refine hl_P9 b9 hx hb hK hP q10 dX5_nameStatement_300 ?_
                obtain ⟨r11, hc11, hle11, h9⟩ := ox_ex h
                clear h
                refine kx_v (r := y8) (vx_runV (As := [.int (L.1 5), .int (r8.2.1.2.2.1 (pR9 b9) ((L.1 100)).toNatClampNeg)]) (rest := []) ⟨hx, hb, hml, hown, hts⟩ (c_f_X5_assignResult l hl0 dC dI cy ek a k (lI (lI lZ 1 ((L.1 5))) 2 ((r8.2.1.2.2.1 (pR9 b9) ((L.1 100)).toNatClampNeg))) r8.2.1 r11 hc11 z H.size) (cwV 2 hts g_f_X5_nameStatement_X5_assignResult_V290 rfl rfl rfl hd_f_X5_assignResult ⟨Nat.le_of_ble_eq_true rfl, Nat.le_of_ble_eq_true rfl⟩) ⟨nb_blindF, va_recv hK hP (ci := 4) (q0 := 40) rfl rfl, (kx_pre hK hG hE hT hA hP hD hS)⟩ rfl rfl hl.1 rfl (lv_room (Nat.le_of_ble_eq_true rfl)) dX5_nameStatement_301 ⟨Nat.le_trans (Nat.add_le_add_left hle11.1 _) (Nat.le_of_eq hc), Nat.le_trans (Nat.add_le_add_left hle11.2 _) (Nat.le_of_eq hs)⟩) hK hA hzk hP hD hS (by decide) hno hlocks ?_
                rcases h9 with ⟨h00, y11, hny11, hy⟩ | ⟨h00, hy⟩
                · subst hy
                  have h := hny11
                  refine Or.inl ⟨h00, fun z H locs hz11 hzk hP hD hS => ?_⟩
                  replace hc := (Nat.add_assoc _ _ _).trans hc
                  replace hs := (Nat.add_assoc _ _ _).trans hs
                  refine lv_goto (tgt := 379) hx hb dX5_nameStatement_304 (by decide) ?_
                  exact ih.2.2.2.2.2.2.2.2.2.2.2.2.1 z _ _ L r11.2.1 _ h hzk hc hs H locs ls hP hD hS (lv_sub hl [1, 3] rfl)
                · subst hy
                  exact Or.inr ⟨h00, rfl, hc, hs⟩
              · subst hy
                exact Or.inr ⟨h00, rfl, hc, hs⟩
            · subst hy
              exact Or.inr ⟨h00, rfl, hc, hs⟩
      · intro z cells slots L σ r h hzk hc hs H locs ls hP hD hS hl
        rw [f_X5_nameStatement] at h
        refine lv_aload_n hx hb dX5_nameStatement_379 rfl (lv_at hl 0 rfl) ?_
        refine lv_iload hx hb dX5_nameStatement_380 (lv_at hl 1 rfl) ?_
        refine hp_40_11 hx hb hts in_f_X5_nameStatement_X5 hown hK hP hD hS (hts _ (List.mem_cons_of_mem _ (List.mem_append_left _ (List.mem_append_left _ (List.mem_of_getElem? (i := 39) rfl))))) dX5_nameStatement_382 (fun H locs hP hD hS => ?_)
        obtain rfl := Option.some.inj h
        subst hc
        subst hs
        exact xr_v hx hb hr hK hzk hP hD hS hlocks dX5_nameStatement_385
      · intro z cells slots L σ r h hzk hc hs H locs ls hP hD hS hl
        rw [f_X5_nameStatement] at h
        refine lv_aload_n hx hb dX5_nameStatement_307 rfl (lv_at hl 0 rfl) ?_
        refine lv_iload hx hb dX5_nameStatement_308 (lv_at hl 1 rfl) ?_
        obtain ⟨r1, hc1, hle1, h9⟩ := ox_ex h
        clear h
        refine kx_v (vx_runV (As := [.int (L.1 5)]) (rest := []) ⟨hx, hb, hml, hown, hts⟩ (c_f_X5_assignment l hl0 dC dI cy ek a k (lI lZ 1 ((L.1 5))) σ r1 hc1 z H.size) (cwV 1 hts g_f_X5_nameStatement_X5_assignment_V293 rfl rfl rfl hd_f_X5_assignment ⟨Nat.le_of_ble_eq_true rfl, Nat.le_of_ble_eq_true rfl⟩) ⟨nb_blindF, va_recv hK hP (ci := 4) (q0 := 40) rfl rfl, (kx_pre hK hG hE hT hA hP hD hS)⟩ rfl rfl hl.1 rfl (lv_room (Nat.le_of_ble_eq_true rfl)) dX5_nameStatement_310 ⟨Nat.le_trans (Nat.add_le_add_left hle1.1 _) (Nat.le_of_eq hc), Nat.le_trans (Nat.add_le_add_left hle1.2 _) (Nat.le_of_eq hs)⟩) hK hA hzk hP hD hS (by decide) hno hlocks ?_
        rcases h9 with ⟨h00, y1, hny1, hy⟩ | ⟨h00, hy⟩
        · subst hy
          have h := hny1
          refine Or.inl ⟨h00, fun z H locs hz1 hzk hP hD hS => ?_⟩
          replace hc := (Nat.add_assoc _ _ _).trans hc
          replace hs := (Nat.add_assoc _ _ _).trans hs
          refine lv_goto (tgt := 379) hx hb dX5_nameStatement_313 (by decide) ?_
          exact ih.2.2.2.2.2.2.2.2.2.2.2.2.1 z _ _ L r1.2.1 _ h hzk hc hs H locs ls hP hD hS (lv_sub hl [0, 1] rfl)
        · subst hy
          exact Or.inr ⟨h00, rfl, hc, hs⟩
  exact (blk k0).1 z 0 0 L0 σ0 r0 h0 (zk_rf _ _) ((Nat.zero_add _).trans hmc) ((Nat.zero_add _).trans hms) s.heap [] ls hP hD hS hl
/-! X5_markNoTarget -/
def f_X5_markNoTarget : Nat → Nat → LV → CS → Option RS
  | 0, _, _, _ => none
  | k + 1, 0, L, σ => ox (f_X5_mark k 0 (lI lZ 1 ((-1))) σ) (fun r1 => ox (f_X5_mark k 0 (lI lZ 1 0) r1.2.1) (fun r2 => ox (f_X5_mark k 0 (lI lZ 1 0) r2.2.1) (fun r3 => ox (f_X5_mark k 0 (lI lZ 1 0) r3.2.1) (fun r4 => some ((0, 0), r4.2.1, (0, 0))))))
  | _ + 1, _ + 1, _, _ => none
def o_f_X5_markNoTarget : List Cond := [.methodLink RX5 303 yX5_mark, .instanceMethod yX5_mark, .selects RX5 yX5_mark yX5_mark, .initialized RX5]
theorem o_f_X5_markNoTarget_good : o_f_X5_markNoTarget.all goodWord = true := by decide +kernel
def p_f_X5_markNoTarget : List Cond := o_f_X5_markNoTarget ++ ((.code yX5_mark cX5_mark 2 (some .int) :: p_f_X5_mark) ++ [])
theorem p_f_X5_markNoTarget_good : p_f_X5_markNoTarget.all goodWord = true := nb_all2 o_f_X5_markNoTarget_good (nb_all2 (nb_allc (by decide +kernel) p_f_X5_mark_good) rfl)
def w_f_X5_markNoTarget : List Cond := .code yX5_markNoTarget cX5_markNoTarget 1 none :: (p_f_X5_markNoTarget ++ fC)
theorem w_f_X5_markNoTarget_good : w_f_X5_markNoTarget.all goodWord = true := nb_allc (by decide +kernel) (nb_all2 p_f_X5_markNoTarget_good fC_good)
theorem hd_f_X5_markNoTarget : yX5_markNoTarget.cls = RX5 ∧ yX5_markNoTarget.cls ≠ "java/lang/invoke/MethodHandle" ∧ yX5_markNoTarget.cls ≠ "java/lang/invoke/VarHandle" ∧ (parseMethodDescriptor yX5_markNoTarget.desc).map (fun d => d.parameters.length) = some 0 := by decide +kernel
theorem gg_f_X5_markNoTarget_X5_mark : GoodIn w_f_X5_markNoTarget w_f_X5_mark := goodIn_sub (fun w h => (List.mem_cons.mp h).elim (fun e => (List.mem_cons_of_mem _ (List.mem_append_left _ (List.mem_append_right _ (List.mem_append_left _ (List.mem_cons.mpr (Or.inl e))))))) (fun h => (List.mem_append.mp h).elim (fun h => (List.mem_cons_of_mem _ (List.mem_append_left _ (List.mem_append_right _ (List.mem_append_left _ (List.mem_cons_of_mem _ h)))))) (fun h => List.mem_cons_of_mem _ (List.mem_append_right _ h)))) w_f_X5_mark_good
theorem g_f_X5_markNoTarget_X5_mark_V303 : GoodIn w_f_X5_markNoTarget (wsV RX5 303 RX5 yX5_mark w_f_X5_mark) := goodIn_app (nb_g4 (List.mem_cons_of_mem _ (List.mem_append_left _ (List.mem_append_left _ (List.mem_of_getElem? (i := 0) rfl)))) (List.mem_cons_of_mem _ (List.mem_append_left _ (List.mem_append_left _ (List.mem_of_getElem? (i := 1) rfl)))) (List.mem_cons_of_mem _ (List.mem_append_left _ (List.mem_append_left _ (List.mem_of_getElem? (i := 2) rfl)))) (List.mem_cons_of_mem _ (List.mem_append_left _ (List.mem_append_left _ (List.mem_of_getElem? (i := 3) rfl)))) (by decide +kernel)) gg_f_X5_markNoTarget_X5_mark
set_option maxHeartbeats 40000000 in
set_option maxRecDepth 100000 in
theorem c_f_X5_markNoTarget (l : Launch) (hl0 : l.stackTraces = false) (dC : Nat → ClassId) (dI : Nat → Nat → Nat) (cy : Nat → ClassId) (ek a : Nat → Nat) (k0 : Nat) (L0 : LV) (σ0 : CS) (r0 : RS) (h0 : f_X5_markNoTarget k0 0 L0 σ0 = some r0) (z : Nat → Nat) (sz : Nat) : vx_Met l yX5_markNoTarget w_f_X5_markNoTarget ({ frames := 8, cells := r0.2.2.1, slots := r0.2.2.2, locals := 142 }) (va_Pc [.ref (a 40)] (nInF (dC, dI) cy ek sz (vC cy a z σ0))) (xV dC dI cy a (va_A (vC cy a z σ0) sz) [41] z r0) (xX dC dI cy a (va_A (vC cy a z σ0) sz) [41] z r0) r0.2.2.1 r0.2.2.2 (va_A (vC cy a z σ0) sz) := by
  refine vx_ofW (cc := cX5_markNoTarget) (maxL := 1) (ret := none) (by decide) rfl ?_
  intro p e s m args below meth c s₁ B hml hno hv
  obtain ⟨rfl, ⟨⟨hsz, hP, hK, hD0, hG⟩, hE⟩, hT⟩ := hv
  have hx := B.exec
  have hb := B.bytes
  have hr := B.returns
  have hts := atoms_spec (ws := w_f_X5_markNoTarget) B.pre
  have hown : s.vm.findClass RX5 = some m.cls := findClass_of_methodNamed B.named
  have hlocks := B.notSynchronized
  subst hsz
  have hD := hD0.self (sz := s.heap.size)
  generalize hAe : va_A (vC cy a z σ0) s.heap.size = A at hD hE hT ⊢
  have hA : ∀ q : Nat, s.heap.size ≤ q → A q := fun q h => by rw [← hAe]; exact Or.inr h
  have hS : va_S A s.heap s.heap [] := va_S.rf
  have hl := lv_entry ([.ref (a 40)]) (n := 1) (Nat.le_of_ble_eq_true rfl)
  rw [lg_entry_eq]
  generalize (lg_sl ([.ref (a 40)]) ++ List.replicate (1 - (lg_sl ([.ref (a 40)])).length) Slot.unset).toArray = ls at hl ⊢
  have hl : lv_has ls 1 [(0, .ref (a 40))] := hl
  generalize hmc : r0.2.2.1 = mc
  generalize hms : r0.2.2.2 = ms
  have blk : ∀ k : Nat, (bX p l e (headSpec w_f_X5_markNoTarget ({ frames := 8, cells := mc, slots := ms, locals := 142 })).room s m #[.ref (a 40)] below meth c dC dI cy a A (fun r => vx_MQ below (xV dC dI cy a A [41] z r) (xX dC dI cy a A [41] z r) #[.ref (a 40)] s mc ms A) [41] z mc ms 1 (f_X5_markNoTarget k 0) (fun z L => [(0, .ref (a 40))]) 0 (fun z L => [])) := by
    intro k
    induction k with
    | zero => exact fun z c1 c2 L σ r h => (by cases h)
    | succ k ih =>
      skip
      · intro z cells slots L σ r h hzk hc hs H locs ls hP hD hS hl
        rw [f_X5_markNoTarget] at h
        refine lv_aload_n hx hb dX5_markNoTarget_0 rfl (lv_at hl 0 rfl) ?_
        refine lv_iconst (v := (-1)) hx hb dX5_markNoTarget_1 (by decide) ?_
        obtain ⟨r1, hc1, hle1, h9⟩ := ox_ex h
        clear h
        refine kx_i (vx_runV (As := [.int (-1)]) (rest := []) ⟨hx, hb, hml, hown, hts⟩ (c_f_X5_mark l hl0 dC dI cy ek a k (lI lZ 1 ((-1))) σ r1 hc1 z H.size) (cwV 1 hts g_f_X5_markNoTarget_X5_mark_V303 rfl rfl rfl hd_f_X5_mark ⟨Nat.le_of_ble_eq_true rfl, Nat.le_of_ble_eq_true rfl⟩) ⟨nb_blindF, va_recv hK hP (ci := 4) (q0 := 40) rfl rfl, (kx_pre hK hG hE hT hA hP hD hS)⟩ rfl rfl hl.1 rfl (lv_room (Nat.le_of_ble_eq_true rfl)) dX5_markNoTarget_2 ⟨Nat.le_trans (Nat.add_le_add_left hle1.1 _) (Nat.le_of_eq hc), Nat.le_trans (Nat.add_le_add_left hle1.2 _) (Nat.le_of_eq hs)⟩) hK hA hzk hP hD hS (by decide) hno hlocks ?_
        rcases h9 with ⟨h00, y1, hny1, hy⟩ | ⟨h00, hy⟩
        · subst hy
          have h := hny1
          refine Or.inl ⟨h00, fun z H locs hz1 hzk hP hD hS => ?_⟩
          replace hc := (Nat.add_assoc _ _ _).trans hc
          replace hs := (Nat.add_assoc _ _ _).trans hs
          refine lv_pop hx hb dX5_markNoTarget_5 rfl ?_
          refine lv_aload_n hx hb dX5_markNoTarget_6 rfl (lv_at hl 0 rfl) ?_
          refine lv_iconst (v := 0) hx hb dX5_markNoTarget_7 (by decide) ?_
          obtain ⟨r2, hc2, hle2, h9⟩ := ox_ex h
          clear h
          refine kx_i (r := y1) (vx_runV (As := [.int 0]) (rest := []) ⟨hx, hb, hml, hown, hts⟩ (c_f_X5_mark l hl0 dC dI cy ek a k (lI lZ 1 0) r1.2.1 r2 hc2 z H.size) (cwV 1 hts g_f_X5_markNoTarget_X5_mark_V303 rfl rfl rfl hd_f_X5_mark ⟨Nat.le_of_ble_eq_true rfl, Nat.le_of_ble_eq_true rfl⟩) ⟨nb_blindF, va_recv hK hP (ci := 4) (q0 := 40) rfl rfl, (kx_pre hK hG hE hT hA hP hD hS)⟩ rfl rfl hl.1 rfl (lv_room (Nat.le_of_ble_eq_true rfl)) dX5_markNoTarget_8 ⟨Nat.le_trans (Nat.add_le_add_left hle2.1 _) (Nat.le_of_eq hc), Nat.le_trans (Nat.add_le_add_left hle2.2 _) (Nat.le_of_eq hs)⟩) hK hA hzk hP hD hS (by decide) hno hlocks ?_
          rcases h9 with ⟨h00, y2, hny2, hy⟩ | ⟨h00, hy⟩
          · subst hy
            have h := hny2
            refine Or.inl ⟨h00, fun z H locs hz2 hzk hP hD hS => ?_⟩
            replace hc := (Nat.add_assoc _ _ _).trans hc
            replace hs := (Nat.add_assoc _ _ _).trans hs
            refine lv_pop hx hb dX5_markNoTarget_11 rfl ?_
            refine lv_aload_n hx hb dX5_markNoTarget_12 rfl (lv_at hl 0 rfl) ?_
            refine lv_iconst (v := 0) hx hb dX5_markNoTarget_13 (by decide) ?_
            obtain ⟨r3, hc3, hle3, h9⟩ := ox_ex h
            clear h
            refine kx_i (r := y2) (vx_runV (As := [.int 0]) (rest := []) ⟨hx, hb, hml, hown, hts⟩ (c_f_X5_mark l hl0 dC dI cy ek a k (lI lZ 1 0) r2.2.1 r3 hc3 z H.size) (cwV 1 hts g_f_X5_markNoTarget_X5_mark_V303 rfl rfl rfl hd_f_X5_mark ⟨Nat.le_of_ble_eq_true rfl, Nat.le_of_ble_eq_true rfl⟩) ⟨nb_blindF, va_recv hK hP (ci := 4) (q0 := 40) rfl rfl, (kx_pre hK hG hE hT hA hP hD hS)⟩ rfl rfl hl.1 rfl (lv_room (Nat.le_of_ble_eq_true rfl)) dX5_markNoTarget_14 ⟨Nat.le_trans (Nat.add_le_add_left hle3.1 _) (Nat.le_of_eq hc), Nat.le_trans (Nat.add_le_add_left hle3.2 _) (Nat.le_of_eq hs)⟩) hK hA hzk hP hD hS (by decide) hno hlocks ?_
            rcases h9 with ⟨h00, y3, hny3, hy⟩ | ⟨h00, hy⟩
            · subst hy
              have h := hny3
              refine Or.inl ⟨h00, fun z H locs hz3 hzk hP hD hS => ?_⟩
              replace hc := (Nat.add_assoc _ _ _).trans hc
              replace hs := (Nat.add_assoc _ _ _).trans hs
              refine lv_pop hx hb dX5_markNoTarget_17 rfl ?_
              refine lv_aload_n hx hb dX5_markNoTarget_18 rfl (lv_at hl 0 rfl) ?_
              refine lv_iconst (v := 0) hx hb dX5_markNoTarget_19 (by decide) ?_
              obtain ⟨r4, hc4, hle4, h9⟩ := ox_ex h
              clear h
              refine kx_i (r := y3) (vx_runV (As := [.int 0]) (rest := []) ⟨hx, hb, hml, hown, hts⟩ (c_f_X5_mark l hl0 dC dI cy ek a k (lI lZ 1 0) r3.2.1 r4 hc4 z H.size) (cwV 1 hts g_f_X5_markNoTarget_X5_mark_V303 rfl rfl rfl hd_f_X5_mark ⟨Nat.le_of_ble_eq_true rfl, Nat.le_of_ble_eq_true rfl⟩) ⟨nb_blindF, va_recv hK hP (ci := 4) (q0 := 40) rfl rfl, (kx_pre hK hG hE hT hA hP hD hS)⟩ rfl rfl hl.1 rfl (lv_room (Nat.le_of_ble_eq_true rfl)) dX5_markNoTarget_20 ⟨Nat.le_trans (Nat.add_le_add_left hle4.1 _) (Nat.le_of_eq hc), Nat.le_trans (Nat.add_le_add_left hle4.2 _) (Nat.le_of_eq hs)⟩) hK hA hzk hP hD hS (by decide) hno hlocks ?_
              rcases h9 with ⟨h00, y4, hny4, hy⟩ | ⟨h00, hy⟩
              · subst hy
                have h := hny4
                refine Or.inl ⟨h00, fun z H locs hz4 hzk hP hD hS => ?_⟩
                replace hc := (Nat.add_assoc _ _ _).trans hc
                replace hs := (Nat.add_assoc _ _ _).trans hs
                refine lv_pop hx hb dX5_markNoTarget_23 rfl ?_
                obtain rfl := Option.some.inj h
                subst hc
                subst hs
                exact xr_v hx hb hr hK hzk hP hD hS hlocks dX5_markNoTarget_24
              · subst hy
                exact Or.inr ⟨h00, rfl, hc, hs⟩
            · subst hy
              exact Or.inr ⟨h00, rfl, hc, hs⟩
          · subst hy
            exact Or.inr ⟨h00, rfl, hc, hs⟩
        · subst hy
          exact Or.inr ⟨h00, rfl, hc, hs⟩
  exact (blk k0) z 0 0 L0 σ0 r0 h0 (zk_rf _ _) ((Nat.zero_add _).trans hmc) ((Nat.zero_add _).trans hms) s.heap [] ls hP hD hS hl
/-! X5_writeHoles -/
def f_X5_writeHoles : Nat → Nat → LV → CS → Option RS
  | 0, _, _, _ => none
  | k + 1, 0, L, σ => oP (sPp σ) (fun b1 => ox (f_X7_emit__P k 0 (lI (lI (lB lZ 0 b1) 1 100) 2 0) σ) (fun r2 => f_X5_writeHoles k 1 (lI (lI (lI L 4 ((L.1 3))) 5 ((L.1 1))) 6 0) r2.2.1))
  | k + 1, 1, L, σ => if ((L.1 2)) ≤ ((L.1 6)) then (f_X5_writeHoles k 2 L σ) else (if ¬ (((L.1 5)) < 0 ∨ (sN σ 41) ≤ ((L.1 5)).toNatClampNeg) then (if ((σ.2.2.1 41 ((L.1 5)).toNatClampNeg)) = ((-1)) then (f_X5_writeHoles k 3 L σ) else (oP (sPp σ) (fun b4 => ox (f_X7_emit__P k 0 (lI (lI (lB lZ 0 b4) 1 99) 2 ((L.1 6))) σ) (fun r5 => ox (f_X5_emitTarget k 0 (lI (lI (lI lZ 1 192) 2 ((L.1 5))) 3 ((((L.1 4)) + 2))) r5.2.1) (fun r6 => oP (sPp r6.2.1) (fun b7 => ox (f_X7_emit__P k 0 (lI (lI (lB lZ 0 b7) 1 37) 2 1) r6.2.1) (fun r8 => f_X5_writeHoles k 3 L r8.2.1))))))) else none)
  | k + 1, 2, L, σ => oP (sPp σ) (fun b1 => ox (f_X7_emit__P k 0 (lI (lI (lB lZ 0 b1) 1 37) 2 ((((L.1 3)) + 1))) σ) (fun r2 => some ((0, 0), r2.2.1, (0, 0))))
  | k + 1, 3, L, σ => if ¬ (((((L.1 5)) + 2)) < 0 ∨ (sN σ 41) ≤ ((((L.1 5)) + 2)).toNatClampNeg) then (if ¬ (((((L.1 5)) + 3)) < 0 ∨ (sN σ 41) ≤ ((((L.1 5)) + 3)).toNatClampNeg) then (f_X5_writeHoles k 1 (lI (lI (lI L 4 ((((L.1 4)) - ((σ.2.2.1 41 ((((L.1 5)) + 2)).toNatClampNeg))))) 5 ((((((L.1 5)) + 4)) + ((σ.2.2.1 41 ((((L.1 5)) + 3)).toNatClampNeg))))) 6 ((((L.1 6)) + 1))) σ) else none) else none
  | _ + 1, _ + 4, _, _ => none
def o_f_X5_writeHoles : List Cond := [.fieldLink RX5 93 "SetHouse$Parser" "p" "LSetHouse$Program;", .methodLink RX5 66 yX7_emit, .instanceMethod yX7_emit, .selects RX7 yX7_emit yX7_emit, .initialized RX7, .fieldLink RX5 9 "SetHouse$Parser" "marks" "[I", .methodLink RX5 316 yX5_emitTarget, .instanceMethod yX5_emitTarget, .selects RX5 yX5_emitTarget yX5_emitTarget, .initialized RX5]
theorem o_f_X5_writeHoles_good : o_f_X5_writeHoles.all goodWord = true := by decide +kernel
def p_f_X5_writeHoles : List Cond := o_f_X5_writeHoles ++ ((.code yX7_emit cX7_emit 3 (some .int) :: p_f_X7_emit__P) ++ ((.code yX5_emitTarget cX5_emitTarget 5 none :: p_f_X5_emitTarget) ++ []))
theorem p_f_X5_writeHoles_good : p_f_X5_writeHoles.all goodWord = true := nb_all2 o_f_X5_writeHoles_good (nb_all2 (nb_allc (by decide +kernel) p_f_X7_emit__P_good) (nb_all2 (nb_allc (by decide +kernel) p_f_X5_emitTarget_good) rfl))
def w_f_X5_writeHoles : List Cond := .code yX5_writeHoles cX5_writeHoles 7 none :: (p_f_X5_writeHoles ++ fC)
theorem w_f_X5_writeHoles_good : w_f_X5_writeHoles.all goodWord = true := nb_allc (by decide +kernel) (nb_all2 p_f_X5_writeHoles_good fC_good)
theorem in_f_X5_writeHoles_X5 : ∀ w ∈ wsX50, w ∈ w_f_X5_writeHoles := fun _ h => List.mem_cons_of_mem _ (List.mem_append_right _ (List.mem_append_right _ (List.mem_append_right _ (List.mem_append_right _ (List.mem_append_right _ (List.mem_append_left _ h))))))
theorem hd_f_X5_writeHoles : yX5_writeHoles.cls = RX5 ∧ yX5_writeHoles.cls ≠ "java/lang/invoke/MethodHandle" ∧ yX5_writeHoles.cls ≠ "java/lang/invoke/VarHandle" ∧ (parseMethodDescriptor yX5_writeHoles.desc).map (fun d => d.parameters.length) = some 3 := by decide +kernel
theorem gg_f_X5_writeHoles_X5_emitTarget : GoodIn w_f_X5_writeHoles w_f_X5_emitTarget := goodIn_sub (fun w h => (List.mem_cons.mp h).elim (fun e => (List.mem_cons_of_mem _ (List.mem_append_left _ (List.mem_append_right _ (List.mem_append_right _ (List.mem_append_left _ (List.mem_cons.mpr (Or.inl e)))))))) (fun h => (List.mem_append.mp h).elim (fun h => (List.mem_cons_of_mem _ (List.mem_append_left _ (List.mem_append_right _ (List.mem_append_right _ (List.mem_append_left _ (List.mem_cons_of_mem _ h))))))) (fun h => List.mem_cons_of_mem _ (List.mem_append_right _ h)))) w_f_X5_emitTarget_good
theorem g_f_X5_writeHoles_X5_emitTarget_V316 : GoodIn w_f_X5_writeHoles (wsV RX5 316 RX5 yX5_emitTarget w_f_X5_emitTarget) := goodIn_app (nb_g4 (List.mem_cons_of_mem _ (List.mem_append_left _ (List.mem_append_left _ (List.mem_of_getElem? (i := 6) rfl)))) (List.mem_cons_of_mem _ (List.mem_append_left _ (List.mem_append_left _ (List.mem_of_getElem? (i := 7) rfl)))) (List.mem_cons_of_mem _ (List.mem_append_left _ (List.mem_append_left _ (List.mem_of_getElem? (i := 8) rfl)))) (List.mem_cons_of_mem _ (List.mem_append_left _ (List.mem_append_left _ (List.mem_of_getElem? (i := 9) rfl)))) (by decide +kernel)) gg_f_X5_writeHoles_X5_emitTarget
theorem gg_f_X5_writeHoles_X7_emit__P : GoodIn w_f_X5_writeHoles w_f_X7_emit__P := goodIn_sub (fun w h => (List.mem_cons.mp h).elim (fun e => (List.mem_cons_of_mem _ (List.mem_append_left _ (List.mem_append_right _ (List.mem_append_left _ (List.mem_cons.mpr (Or.inl e))))))) (fun h => (List.mem_append.mp h).elim (fun h => (List.mem_cons_of_mem _ (List.mem_append_left _ (List.mem_append_right _ (List.mem_append_left _ (List.mem_cons_of_mem _ h)))))) (fun h => List.mem_cons_of_mem _ (List.mem_append_right _ h)))) w_f_X7_emit__P_good
theorem g_f_X5_writeHoles_X7_emit__P_V66 : GoodIn w_f_X5_writeHoles (wsV RX5 66 RX7 yX7_emit w_f_X7_emit__P) := goodIn_app (nb_g4 (List.mem_cons_of_mem _ (List.mem_append_left _ (List.mem_append_left _ (List.mem_of_getElem? (i := 1) rfl)))) (List.mem_cons_of_mem _ (List.mem_append_left _ (List.mem_append_left _ (List.mem_of_getElem? (i := 2) rfl)))) (List.mem_cons_of_mem _ (List.mem_append_left _ (List.mem_append_left _ (List.mem_of_getElem? (i := 3) rfl)))) (List.mem_cons_of_mem _ (List.mem_append_left _ (List.mem_append_left _ (List.mem_of_getElem? (i := 4) rfl)))) (by decide +kernel)) gg_f_X5_writeHoles_X7_emit__P
set_option maxHeartbeats 40000000 in
set_option maxRecDepth 100000 in
theorem c_f_X5_writeHoles (l : Launch) (hl0 : l.stackTraces = false) (dC : Nat → ClassId) (dI : Nat → Nat → Nat) (cy : Nat → ClassId) (ek a : Nat → Nat) (k0 : Nat) (L0 : LV) (σ0 : CS) (r0 : RS) (h0 : f_X5_writeHoles k0 0 L0 σ0 = some r0) (z : Nat → Nat) (sz : Nat) : vx_Met l yX5_writeHoles w_f_X5_writeHoles ({ frames := 9, cells := r0.2.2.1, slots := r0.2.2.2, locals := 168 }) (va_Pc [.ref (a 40), .int (L0.1 1), .int (L0.1 2), .int (L0.1 3)] (nInF (dC, dI) cy ek sz (vC cy a z σ0))) (xV dC dI cy a (va_A (vC cy a z σ0) sz) [43, 51] z r0) (xX dC dI cy a (va_A (vC cy a z σ0) sz) [43, 51] z r0) r0.2.2.1 r0.2.2.2 (va_A (vC cy a z σ0) sz) := by
  refine vx_ofW (cc := cX5_writeHoles) (maxL := 7) (ret := none) (by decide) rfl ?_
  intro p e s m args below meth c s₁ B hml hno hv
  obtain ⟨rfl, ⟨⟨hsz, hP, hK, hD0, hG⟩, hE⟩, hT⟩ := hv
  have hx := B.exec
  have hb := B.bytes
  have hr := B.returns
  have hts := atoms_spec (ws := w_f_X5_writeHoles) B.pre
  have hown : s.vm.findClass RX5 = some m.cls := findClass_of_methodNamed B.named
  have hlocks := B.notSynchronized
  subst hsz
  have hD := hD0.self (sz := s.heap.size)
  generalize hAe : va_A (vC cy a z σ0) s.heap.size = A at hD hE hT ⊢
  have hA : ∀ q : Nat, s.heap.size ≤ q → A q := fun q h => by rw [← hAe]; exact Or.inr h
  have hS : va_S A s.heap s.heap [] := va_S.rf
  have hl := lv_entry ([.ref (a 40), .int (L0.1 1), .int (L0.1 2), .int (L0.1 3)]) (n := 7) (Nat.le_of_ble_eq_true rfl)
  rw [lg_entry_eq]
  generalize (lg_sl ([.ref (a 40), .int (L0.1 1), .int (L0.1 2), .int (L0.1 3)]) ++ List.replicate (7 - (lg_sl ([.ref (a 40), .int (L0.1 1), .int (L0.1 2), .int (L0.1 3)])).length) Slot.unset).toArray = ls at hl ⊢
  have hl : lv_has ls 7 [(0, .ref (a 40)), (1, .int (L0.1 1)), (2, .int (L0.1 2)), (3, .int (L0.1 3))] := hl
  generalize hmc : r0.2.2.1 = mc
  generalize hms : r0.2.2.2 = ms
  have blk : ∀ k : Nat, (bX p l e (headSpec w_f_X5_writeHoles ({ frames := 9, cells := mc, slots := ms, locals := 168 })).room s m #[.ref (a 40), .int (L0.1 1), .int (L0.1 2), .int (L0.1 3)] below meth c dC dI cy a A (fun r => vx_MQ below (xV dC dI cy a A [43, 51] z r) (xX dC dI cy a A [43, 51] z r) #[.ref (a 40), .int (L0.1 1), .int (L0.1 2), .int (L0.1 3)] s mc ms A) [43, 51] z mc ms 7 (f_X5_writeHoles k 0) (fun z L => [(0, .ref (a 40)), (1, .int (L.1 1)), (2, .int (L.1 2)), (3, .int (L.1 3))]) 0 (fun z L => [])) ∧ (bX p l e (headSpec w_f_X5_writeHoles ({ frames := 9, cells := mc, slots := ms, locals := 168 })).room s m #[.ref (a 40), .int (L0.1 1), .int (L0.1 2), .int (L0.1 3)] below meth c dC dI cy a A (fun r => vx_MQ below (xV dC dI cy a A [43, 51] z r) (xX dC dI cy a A [43, 51] z r) #[.ref (a 40), .int (L0.1 1), .int (L0.1 2), .int (L0.1 3)] s mc ms A) [43, 51] z mc ms 7 (f_X5_writeHoles k 1) (fun z L => [(0, .ref (a 40)), (2, .int (L.1 2)), (3, .int (L.1 3)), (4, .int (L.1 4)), (5, .int (L.1 5)), (6, .int (L.1 6))]) 20 (fun z L => [])) ∧ (bX p l e (headSpec w_f_X5_writeHoles ({ frames := 9, cells := mc, slots := ms, locals := 168 })).room s m #[.ref (a 40), .int (L0.1 1), .int (L0.1 2), .int (L0.1 3)] below meth c dC dI cy a A (fun r => vx_MQ below (xV dC dI cy a A [43, 51] z r) (xX dC dI cy a A [43, 51] z r) #[.ref (a 40), .int (L0.1 1), .int (L0.1 2), .int (L0.1 3)] s mc ms A) [43, 51] z mc ms 7 (f_X5_writeHoles k 2) (fun z L => [(0, .ref (a 40)), (3, .int (L.1 3))]) 109 (fun z L => [])) ∧ (bX p l e (headSpec w_f_X5_writeHoles ({ frames := 9, cells := mc, slots := ms, locals := 168 })).room s m #[.ref (a 40), .int (L0.1 1), .int (L0.1 2), .int (L0.1 3)] below meth c dC dI cy a A (fun r => vx_MQ below (xV dC dI cy a A [43, 51] z r) (xX dC dI cy a A [43, 51] z r) #[.ref (a 40), .int (L0.1 1), .int (L0.1 2), .int (L0.1 3)] s mc ms A) [43, 51] z mc ms 7 (f_X5_writeHoles k 3) (fun z L => [(0, .ref (a 40)), (2, .int (L.1 2)), (3, .int (L.1 3)), (4, .int (L.1 4)), (5, .int (L.1 5)), (6, .int (L.1 6))]) 73 (fun z L => [])) := by
    intro k
    induction k with
    | zero => exact ⟨fun z c1 c2 L σ r h => (by cases h), fun z c1 c2 L σ r h => (by cases h), fun z c1 c2 L σ r h => (by cases h), fun z c1 c2 L σ r h => (by cases h)⟩
    | succ k ih =>
      refine ⟨?_, ?_, ?_, ?_⟩
      · intro z cells slots L σ r h hzk hc hs H locs ls hP hD hS hl
        rw [f_X5_writeHoles] at h
        refine lv_aload_n hx hb dX5_writeHoles_0 rfl (lv_at hl 0 rfl) ?_
        obtain ⟨b1, hb1, h⟩ := oP_ex h
        refine hgq_40_2 hx hb hts in_f_X5_writeHoles_X5 hown hK hP (hts _ (List.mem_cons_of_mem _ (List.mem_append_left _ (List.mem_append_left _ (List.mem_of_getElem? (i := 0) rfl))))) hb1 dX5_writeHoles_1 ?_
        refine lv_bipush (v := 100) hx hb dX5_writeHoles_4 (by decide) ?_
        refine lv_iconst (v := 0) hx hb dX5_writeHoles_6 (by decide) ?_
        obtain ⟨r2, hc2, hle2, h9⟩ := ox_ex h
        clear h
        refine kx_i (vx_runV (As := [.int 100, .int 0]) (rest := []) ⟨hx, hb, hml, hown, hts⟩ (c_f_X7_emit__P l hl0 dC dI cy ek a k (lI (lI (lB lZ 0 b1) 1 100) 2 0) σ r2 hc2 z H.size) (cwV 2 hts g_f_X5_writeHoles_X7_emit__P_V66 rfl rfl rfl hd_f_X7_emit__P ⟨Nat.le_of_ble_eq_true rfl, Nat.le_of_ble_eq_true rfl⟩) ⟨nb_blindF, recvP b1 hK hP, (kx_pre hK hG hE hT hA hP hD hS)⟩ rfl rfl hl.1 rfl (lv_room (Nat.le_of_ble_eq_true rfl)) dX5_writeHoles_7 ⟨Nat.le_trans (Nat.add_le_add_left hle2.1 _) (Nat.le_of_eq hc), Nat.le_trans (Nat.add_le_add_left hle2.2 _) (Nat.le_of_eq hs)⟩) hK hA hzk hP hD hS (by decide) hno hlocks ?_
        rcases h9 with ⟨h00, y2, hny2, hy⟩ | ⟨h00, hy⟩
        · subst hy
          have h := hny2
          refine Or.inl ⟨h00, fun z H locs hz2 hzk hP hD hS => ?_⟩
          replace hc := (Nat.add_assoc _ _ _).trans hc
          replace hs := (Nat.add_assoc _ _ _).trans hs
          refine lv_pop hx hb dX5_writeHoles_10 rfl ?_
          refine lv_iload_n hx hb dX5_writeHoles_11 rfl (lv_at hl 3 rfl) ?_
          refine lv_istore (lv' := [(4, .int (L.1 3)), (0, .ref (a 40)), (1, .int (L.1 1)), (2, .int (L.1 2)), (3, .int (L.1 3))]) hx hb dX5_writeHoles_12 hl (by decide) rfl (fun ls hl => ?_)
          refine lv_iload_n hx hb dX5_writeHoles_14 rfl (lv_at hl 2 rfl) ?_
          refine lv_istore (lv' := [(5, .int (L.1 1)), (4, .int (L.1 3)), (0, .ref (a 40)), (1, .int (L.1 1)), (2, .int (L.1 2)), (3, .int (L.1 3))]) hx hb dX5_writeHoles_15 hl (by decide) rfl (fun ls hl => ?_)
          refine lv_iconst (v := 0) hx hb dX5_writeHoles_17 (by decide) ?_
          refine lv_istore (lv' := [(6, .int 0), (5, .int (L.1 1)), (4, .int (L.1 3)), (0, .ref (a 40)), (1, .int (L.1 1)), (2, .int (L.1 2)), (3, .int (L.1 3))]) hx hb dX5_writeHoles_18 hl (by decide) rfl (fun ls hl => ?_)
          exact ih.2.1 z _ _ (lI (lI (lI L 4 ((L.1 3))) 5 ((L.1 1))) 6 0) r2.2.1 _ h hzk hc hs H locs ls hP hD hS (lv_sub hl [3, 5, 6, 2, 1, 0] rfl)
        · subst hy
          exact Or.inr ⟨h00, rfl, hc, hs⟩
      · intro z cells slots L σ r h hzk hc hs H locs ls hP hD hS hl
        rw [f_X5_writeHoles] at h
        refine lv_iload hx hb dX5_writeHoles_20 (lv_at hl 5 rfl) ?_
        refine lv_iload_n hx hb dX5_writeHoles_22 rfl (lv_at hl 1 rfl) ?_
        refine lv_icmp_ge (tgt := 109) hx hb dX5_writeHoles_23 (by decide) (fun c1 => ?_) (fun c1 => ?_)
        · rw [if_pos c1] at h
          exact ih.2.2.1 z _ _ L σ _ h hzk hc hs H locs ls hP hD hS (lv_sub hl [0, 2] rfl)
        · rw [if_neg c1] at h
          refine lv_aload_n hx hb dX5_writeHoles_26 rfl (lv_at hl 0 rfl) ?_
          refine hg_40_10 hx hb hts in_f_X5_writeHoles_X5 hown hK hP (hts _ (List.mem_cons_of_mem _ (List.mem_append_left _ (List.mem_append_left _ (List.mem_of_getElem? (i := 5) rfl))))) dX5_writeHoles_27 ?_
          refine lv_iload hx hb dX5_writeHoles_30 (lv_at hl 4 rfl) ?_
          obtain ⟨q2, h⟩ := kr_ite1 h
          refine hl_41 hx hb hK hP q2 dX5_writeHoles_32 ?_
          refine lv_iconst (v := (-1)) hx hb dX5_writeHoles_33 (by decide) ?_
          refine lv_icmp_eq (tgt := 73) hx hb dX5_writeHoles_34 (by decide) (fun c3 => ?_) (fun c3 => ?_)
          · rw [if_pos c3] at h
            exact ih.2.2.2 z _ _ L σ _ h hzk hc hs H locs ls hP hD hS (lv_sub hl [0, 1, 2, 3, 4, 5] rfl)
          · rw [if_neg c3] at h
            refine lv_aload_n hx hb dX5_writeHoles_37 rfl (lv_at hl 0 rfl) ?_
            obtain ⟨b4, hb4, h⟩ := oP_ex h
            refine hgq_40_2 hx hb hts in_f_X5_writeHoles_X5 hown hK hP (hts _ (List.mem_cons_of_mem _ (List.mem_append_left _ (List.mem_append_left _ (List.mem_of_getElem? (i := 0) rfl))))) hb4 dX5_writeHoles_38 ?_
            refine lv_bipush (v := 99) hx hb dX5_writeHoles_41 (by decide) ?_
            refine lv_iload hx hb dX5_writeHoles_43 (lv_at hl 5 rfl) ?_
            obtain ⟨r5, hc5, hle5, h9⟩ := ox_ex h
            clear h
            refine kx_i (vx_runV (As := [.int 99, .int (L.1 6)]) (rest := []) ⟨hx, hb, hml, hown, hts⟩ (c_f_X7_emit__P l hl0 dC dI cy ek a k (lI (lI (lB lZ 0 b4) 1 99) 2 ((L.1 6))) σ r5 hc5 z H.size) (cwV 2 hts g_f_X5_writeHoles_X7_emit__P_V66 rfl rfl rfl hd_f_X7_emit__P ⟨Nat.le_of_ble_eq_true rfl, Nat.le_of_ble_eq_true rfl⟩) ⟨nb_blindF, recvP b4 hK hP, (kx_pre hK hG hE hT hA hP hD hS)⟩ rfl rfl hl.1 rfl (lv_room (Nat.le_of_ble_eq_true rfl)) dX5_writeHoles_45 ⟨Nat.le_trans (Nat.add_le_add_left hle5.1 _) (Nat.le_of_eq hc), Nat.le_trans (Nat.add_le_add_left hle5.2 _) (Nat.le_of_eq hs)⟩) hK hA hzk hP hD hS (by decide) hno hlocks ?_
            rcases h9 with ⟨h00, y5, hny5, hy⟩ | ⟨h00, hy⟩
            · subst hy
              have h := hny5
              refine Or.inl ⟨h00, fun z H locs hz5 hzk hP hD hS => ?_⟩
              replace hc := (Nat.add_assoc _ _ _).trans hc
              replace hs := (Nat.add_assoc _ _ _).trans hs
              refine lv_pop hx hb dX5_writeHoles_48 rfl ?_
              refine lv_aload_n hx hb dX5_writeHoles_49 rfl (lv_at hl 0 rfl) ?_
              refine lv_sipush (v := 192) hx hb dX5_writeHoles_50 (by decide) ?_
              refine lv_iload hx hb dX5_writeHoles_53 (lv_at hl 4 rfl) ?_
              refine lv_iload hx hb dX5_writeHoles_55 (lv_at hl 3 rfl) ?_
              refine lv_iconst (v := 2) hx hb dX5_writeHoles_57 (by decide) ?_
              refine lv_iadd hx hb dX5_writeHoles_58 ?_
              obtain ⟨r6, hc6, hle6, h9⟩ := ox_ex h
              clear h
              refine kx_v (r := y5) (vx_runV (As := [.int 192, .int (L.1 5), .int (((L.1 4)) + 2)]) (rest := []) ⟨hx, hb, hml, hown, hts⟩ (c_f_X5_emitTarget l hl0 dC dI cy ek a k (lI (lI (lI lZ 1 192) 2 ((L.1 5))) 3 ((((L.1 4)) + 2))) r5.2.1 r6 hc6 z H.size) (cwV 3 hts g_f_X5_writeHoles_X5_emitTarget_V316 rfl rfl rfl hd_f_X5_emitTarget ⟨Nat.le_of_ble_eq_true rfl, Nat.le_of_ble_eq_true rfl⟩) ⟨nb_blindF, va_recv hK hP (ci := 4) (q0 := 40) rfl rfl, (kx_pre hK hG hE hT hA hP hD hS)⟩ rfl rfl hl.1 rfl (lv_room (Nat.le_of_ble_eq_true rfl)) dX5_writeHoles_59 ⟨Nat.le_trans (Nat.add_le_add_left hle6.1 _) (Nat.le_of_eq hc), Nat.le_trans (Nat.add_le_add_left hle6.2 _) (Nat.le_of_eq hs)⟩) hK hA hzk hP hD hS (by decide) hno hlocks ?_
              rcases h9 with ⟨h00, y6, hny6, hy⟩ | ⟨h00, hy⟩
              · subst hy
                have h := hny6
                refine Or.inl ⟨h00, fun z H locs hz6 hzk hP hD hS => ?_⟩
                replace hc := (Nat.add_assoc _ _ _).trans hc
                replace hs := (Nat.add_assoc _ _ _).trans hs
                refine lv_aload_n hx hb dX5_writeHoles_62 rfl (lv_at hl 0 rfl) ?_
                obtain ⟨b7, hb7, h⟩ := oP_ex h
                refine hgq_40_2 hx hb hts in_f_X5_writeHoles_X5 hown hK hP (hts _ (List.mem_cons_of_mem _ (List.mem_append_left _ (List.mem_append_left _ (List.mem_of_getElem? (i := 0) rfl))))) hb7 dX5_writeHoles_63 ?_
                refine lv_bipush (v := 37) hx hb dX5_writeHoles_66 (by decide) ?_
                refine lv_iconst (v := 1) hx hb dX5_writeHoles_68 (by decide) ?_
                obtain ⟨r8, hc8, hle8, h9⟩ := ox_ex h
                clear h
                refine kx_i (r := y6) (vx_runV (As := [.int 37, .int 1]) (rest := []) ⟨hx, hb, hml, hown, hts⟩ (c_f_X7_emit__P l hl0 dC dI cy ek a k (lI (lI (lB lZ 0 b7) 1 37) 2 1) r6.2.1 r8 hc8 z H.size) (cwV 2 hts g_f_X5_writeHoles_X7_emit__P_V66 rfl rfl rfl hd_f_X7_emit__P ⟨Nat.le_of_ble_eq_true rfl, Nat.le_of_ble_eq_true rfl⟩) ⟨nb_blindF, recvP b7 hK hP, (kx_pre hK hG hE hT hA hP hD hS)⟩ rfl rfl hl.1 rfl (lv_room (Nat.le_of_ble_eq_true rfl)) dX5_writeHoles_69 ⟨Nat.le_trans (Nat.add_le_add_left hle8.1 _) (Nat.le_of_eq hc), Nat.le_trans (Nat.add_le_add_left hle8.2 _) (Nat.le_of_eq hs)⟩) hK hA hzk hP hD hS (by decide) hno hlocks ?_
                rcases h9 with ⟨h00, y8, hny8, hy⟩ | ⟨h00, hy⟩
                · subst hy
                  have h := hny8
                  refine Or.inl ⟨h00, fun z H locs hz8 hzk hP hD hS => ?_⟩
                  replace hc := (Nat.add_assoc _ _ _).trans hc
                  replace hs := (Nat.add_assoc _ _ _).trans hs
                  refine lv_pop hx hb dX5_writeHoles_72 rfl ?_
                  exact ih.2.2.2 z _ _ L r8.2.1 _ h hzk hc hs H locs ls hP hD hS (lv_sub hl [0, 1, 2, 3, 4, 5] rfl)
                · subst hy
                  exact Or.inr ⟨h00, rfl, hc, hs⟩
              · subst hy
                exact Or.inr ⟨h00, rfl, hc, hs⟩
            · subst hy
              exact Or.inr ⟨h00, rfl, hc, hs⟩
      · intro z cells slots L σ r h hzk hc hs H locs ls hP hD hS hl
        rw [f_X5_writeHoles] at h
        refine lv_aload_n hx hb dX5_writeHoles_109 rfl (lv_at hl 0 rfl) ?_
        obtain ⟨b1, hb1, h⟩ := oP_ex h
        refine hgq_40_2 hx hb hts in_f_X5_writeHoles_X5 hown hK hP (hts _ (List.mem_cons_of_mem _ (List.mem_append_left _ (List.mem_append_left _ (List.mem_of_getElem? (i := 0) rfl))))) hb1 dX5_writeHoles_110 ?_
        refine lv_bipush (v := 37) hx hb dX5_writeHoles_113 (by decide) ?_
        refine lv_iload_n hx hb dX5_writeHoles_115 rfl (lv_at hl 1 rfl) ?_
        refine lv_iconst (v := 1) hx hb dX5_writeHoles_116 (by decide) ?_
        refine lv_iadd hx hb dX5_writeHoles_117 ?_
        obtain ⟨r2, hc2, hle2, h9⟩ := ox_ex h
        clear h
        refine kx_i (vx_runV (As := [.int 37, .int (((L.1 3)) + 1)]) (rest := []) ⟨hx, hb, hml, hown, hts⟩ (c_f_X7_emit__P l hl0 dC dI cy ek a k (lI (lI (lB lZ 0 b1) 1 37) 2 ((((L.1 3)) + 1))) σ r2 hc2 z H.size) (cwV 2 hts g_f_X5_writeHoles_X7_emit__P_V66 rfl rfl rfl hd_f_X7_emit__P ⟨Nat.le_of_ble_eq_true rfl, Nat.le_of_ble_eq_true rfl⟩) ⟨nb_blindF, recvP b1 hK hP, (kx_pre hK hG hE hT hA hP hD hS)⟩ rfl rfl hl.1 rfl (lv_room (Nat.le_of_ble_eq_true rfl)) dX5_writeHoles_118 ⟨Nat.le_trans (Nat.add_le_add_left hle2.1 _) (Nat.le_of_eq hc), Nat.le_trans (Nat.add_le_add_left hle2.2 _) (Nat.le_of_eq hs)⟩) hK hA hzk hP hD hS (by decide) hno hlocks ?_
        rcases h9 with ⟨h00, y2, hny2, hy⟩ | ⟨h00, hy⟩
        · subst hy
          have h := hny2
          refine Or.inl ⟨h00, fun z H locs hz2 hzk hP hD hS => ?_⟩
          replace hc := (Nat.add_assoc _ _ _).trans hc
          replace hs := (Nat.add_assoc _ _ _).trans hs
          refine lv_pop hx hb dX5_writeHoles_121 rfl ?_
          obtain rfl := Option.some.inj h
          subst hc
          subst hs
          exact xr_v hx hb hr hK hzk hP hD hS hlocks dX5_writeHoles_122
        · subst hy
          exact Or.inr ⟨h00, rfl, hc, hs⟩
      · intro z cells slots L σ r h hzk hc hs H locs ls hP hD hS hl
        rw [f_X5_writeHoles] at h
        refine lv_iload hx hb dX5_writeHoles_73 (lv_at hl 3 rfl) ?_
        refine lv_aload_n hx hb dX5_writeHoles_75 rfl (lv_at hl 0 rfl) ?_
        refine hg_40_10 hx hb hts in_f_X5_writeHoles_X5 hown hK hP (hts _ (List.mem_cons_of_mem _ (List.mem_append_left _ (List.mem_append_left _ (List.mem_of_getElem? (i := 5) rfl))))) dX5_writeHoles_76 ?_
        refine lv_iload hx hb dX5_writeHoles_79 (lv_at hl 4 rfl) ?_
        refine lv_iconst (v := 2) hx hb dX5_writeHoles_81 (by decide) ?_
        refine lv_iadd hx hb dX5_writeHoles_82 ?_
        obtain ⟨q1, h⟩ := kr_ite1 h
        refine hl_41 hx hb hK hP q1 dX5_writeHoles_83 ?_
        refine lv_isub hx hb dX5_writeHoles_84 ?_
        refine lv_istore (lv' := [(4, .int (((L.1 4)) - ((σ.2.2.1 41 ((((L.1 5)) + 2)).toNatClampNeg)))), (0, .ref (a 40)), (2, .int (L.1 2)), (3, .int (L.1 3)), (5, .int (L.1 5)), (6, .int (L.1 6))]) hx hb dX5_writeHoles_85 hl (by decide) rfl (fun ls hl => ?_)
        refine lv_iload hx hb dX5_writeHoles_87 (lv_at hl 4 rfl) ?_
        refine lv_iconst (v := 4) hx hb dX5_writeHoles_89 (by decide) ?_
        refine lv_iadd hx hb dX5_writeHoles_90 ?_
        refine lv_aload_n hx hb dX5_writeHoles_91 rfl (lv_at hl 1 rfl) ?_
        refine hg_40_10 hx hb hts in_f_X5_writeHoles_X5 hown hK hP (hts _ (List.mem_cons_of_mem _ (List.mem_append_left _ (List.mem_append_left _ (List.mem_of_getElem? (i := 5) rfl))))) dX5_writeHoles_92 ?_
        refine lv_iload hx hb dX5_writeHoles_95 (lv_at hl 4 rfl) ?_
        refine lv_iconst (v := 3) hx hb dX5_writeHoles_97 (by decide) ?_
        refine lv_iadd hx hb dX5_writeHoles_98 ?_
        obtain ⟨q2, h⟩ := kr_ite1 h
        refine hl_41 hx hb hK hP q2 dX5_writeHoles_99 ?_
        refine lv_iadd hx hb dX5_writeHoles_100 ?_
        refine lv_istore (lv' := [(5, .int (((((L.1 5)) + 4)) + ((σ.2.2.1 41 ((((L.1 5)) + 3)).toNatClampNeg)))), (4, .int (((L.1 4)) - ((σ.2.2.1 41 ((((L.1 5)) + 2)).toNatClampNeg)))), (0, .ref (a 40)), (2, .int (L.1 2)), (3, .int (L.1 3)), (6, .int (L.1 6))]) hx hb dX5_writeHoles_101 hl (by decide) rfl (fun ls hl => ?_)
        refine lv_iinc (v := ((L.1 6)) + 1) (lv' := [(6, .int (((L.1 6)) + 1)), (5, .int (((((L.1 5)) + 4)) + ((σ.2.2.1 41 ((((L.1 5)) + 3)).toNatClampNeg)))), (4, .int (((L.1 4)) - ((σ.2.2.1 41 ((((L.1 5)) + 2)).toNatClampNeg)))), (0, .ref (a 40)), (2, .int (L.1 2)), (3, .int (L.1 3))]) hx hb dX5_writeHoles_103 hl (k := 5) rfl rfl (by decide) rfl (fun ls hl => ?_)
        refine lv_goto (tgt := 20) hx hb dX5_writeHoles_106 (by decide) ?_
        exact ih.2.1 z _ _ (lI (lI (lI L 4 ((((L.1 4)) - ((σ.2.2.1 41 ((((L.1 5)) + 2)).toNatClampNeg))))) 5 ((((((L.1 5)) + 4)) + ((σ.2.2.1 41 ((((L.1 5)) + 3)).toNatClampNeg))))) 6 ((((L.1 6)) + 1))) σ _ h hzk hc hs H locs ls hP hD hS (lv_sub hl [3, 4, 5, 2, 1, 0] rfl)
  exact (blk k0).1 z 0 0 L0 σ0 r0 h0 (zk_rf _ _) ((Nat.zero_add _).trans hmc) ((Nat.zero_add _).trans hms) s.heap [] ls hP hD hS hl
/-! X5_holesStatement -/
def f_X5_holesStatement : Nat → Nat → LV → CS → Option RS
  | 0, _, _, _ => none
  | k + 1, 0, L, σ => ox (f_X5_opens k 0 lZ σ) (fun r1 => f_X5_holesStatement k 1 (lI (lI (lI (lI (lI L 1 ((σ.1 4011))) 2 0) 3 0) 4 1) 5 0) r1.2.1)
  | k + 1, 1, L, σ => if 32768 < ((L.1 5)) then (f_X5_holesStatement k 2 L σ) else (if ((L.1 4)) = 0 then (f_X5_holesStatement k 2 L σ) else (if ((σ.1 3702)) = 7 then (ox (f_X2_advance k 0 lZ σ) (fun r4 => ox (f_X5_markNoTarget k 0 lZ r4.2.1) (fun r5 => f_X5_holesStatement k 4 L r5.2.1))) else (f_X5_holesStatement k 3 L σ)))
  | k + 1, 2, L, σ => ox (f_X5_closes k 0 (lI lZ 1 15) σ) (fun r1 => ox (f_X5_expect k 0 (lI lZ 1 5) r1.2.1) (fun r2 => ox (f_X5_exp k 0 (lI lZ 1 0) r2.2.1) (fun r3 => ox (f_X5_writeHoles k 0 (lI (lI (lI lZ 1 ((L.1 1))) 2 ((L.1 2))) 3 ((L.1 3))) r3.2.1) (fun r4 => some ((0, 0), (uI r4.2.1 4011 ((L.1 1))), (0, 0))))))
  | k + 1, 3, L, σ => ox (f_X5_target k 0 (lI lZ 1 ((-1))) σ) (fun r1 => if ¬ (((r1.1.2 + 2)) < 0 ∨ (sN r1.2.1 41) ≤ ((r1.1.2 + 2)).toNatClampNeg) then (f_X5_holesStatement k 4 (lI L 3 ((((L.1 3)) + ((r1.2.1.2.2.1 41 ((r1.1.2 + 2)).toNatClampNeg))))) r1.2.1) else none)
  | k + 1, 4, L, σ => if ((σ.1 3702)) = 16 then (f_X5_holesStatement k 6 (lI (lI L 2 ((((L.1 2)) + 1))) 100 1) σ) else (f_X5_holesStatement k 5 (lI L 2 ((((L.1 2)) + 1))) σ)
  | k + 1, 5, L, σ => f_X5_holesStatement k 6 (lI L 100 0) σ
  | k + 1, 6, L, σ => if ((L.1 100)) = 0 then (f_X5_holesStatement k 7 (lI L 4 ((L.1 100))) σ) else (ox (f_X2_advance k 0 lZ σ) (fun r2 => f_X5_holesStatement k 7 (lI L 4 ((L.1 100))) r2.2.1))
  | k + 1, 7, L, σ => f_X5_holesStatement k 1 (lI L 5 ((((L.1 5)) + 1))) σ
  | _ + 1, _ + 8, _, _ => none
def o_f_X5_holesStatement : List Cond := [.fieldLink RX5 112 "SetHouse$Parser" "marked" "I", .methodLink RX5 173 yX5_opens, .instanceMethod yX5_opens, .selects RX5 yX5_opens yX5_opens, .initialized RX5, .constant RX5 35 (32768), .fieldLink RX5 18 "SetHouse$Parser" "lex" "LSetHouse$Lexer;", .methodLink RX5 30 yX2_advance, .instanceMethod yX2_advance, .selects RX2 yX2_advance yX2_advance, .initialized RX2, .methodLink RX5 319 yX5_markNoTarget, .instanceMethod yX5_markNoTarget, .selects RX5 yX5_markNoTarget yX5_markNoTarget, .methodLink RX5 186 yX5_closes, .instanceMethod yX5_closes, .selects RX5 yX5_closes yX5_closes, .methodLink RX5 141 yX5_expect, .instanceMethod yX5_expect, .selects RX5 yX5_expect yX5_expect, .methodLink RX5 90 yX5_exp, .instanceMethod yX5_exp, .selects RX5 yX5_exp yX5_exp, .methodLink RX5 322 yX5_writeHoles, .instanceMethod yX5_writeHoles, .selects RX5 yX5_writeHoles yX5_writeHoles, .methodLink RX5 280 yX5_target, .instanceMethod yX5_target, .selects RX5 yX5_target yX5_target, .fieldLink RX5 9 "SetHouse$Parser" "marks" "[I"]
theorem o_f_X5_holesStatement_good : o_f_X5_holesStatement.all goodWord = true := by decide +kernel
def p_f_X5_holesStatement : List Cond := o_f_X5_holesStatement ++ ((.code yX5_opens cX5_opens 1 none :: p_f_X5_opens) ++ ((.code yX2_advance cX2_advance 7 none :: p_f_X2_advance) ++ ((.code yX5_markNoTarget cX5_markNoTarget 1 none :: p_f_X5_markNoTarget) ++ ((.code yX5_closes cX5_closes 2 none :: p_f_X5_closes) ++ ((.code yX5_expect cX5_expect 2 none :: p_f_X5_expect) ++ ((.code yX5_exp cX5_exp 8 none :: p_f_F2) ++ ((.code yX5_writeHoles cX5_writeHoles 7 none :: p_f_X5_writeHoles) ++ ((.code yX5_target cX5_target 6 (some .int) :: p_f_X5_target) ++ []))))))))
theorem p_f_X5_holesStatement_good : p_f_X5_holesStatement.all goodWord = true := nb_all2 o_f_X5_holesStatement_good (nb_all2 (nb_allc (by decide +kernel) p_f_X5_opens_good) (nb_all2 (nb_allc (by decide +kernel) p_f_X2_advance_good) (nb_all2 (nb_allc (by decide +kernel) p_f_X5_markNoTarget_good) (nb_all2 (nb_allc (by decide +kernel) p_f_X5_closes_good) (nb_all2 (nb_allc (by decide +kernel) p_f_X5_expect_good) (nb_all2 (nb_allc (by decide +kernel) p_f_F2_good) (nb_all2 (nb_allc (by decide +kernel) p_f_X5_writeHoles_good) (nb_all2 (nb_allc (by decide +kernel) p_f_X5_target_good) rfl))))))))
def w_f_X5_holesStatement : List Cond := .code yX5_holesStatement cX5_holesStatement 7 none :: (p_f_X5_holesStatement ++ fC)
theorem w_f_X5_holesStatement_good : w_f_X5_holesStatement.all goodWord = true := nb_allc (by decide +kernel) (nb_all2 p_f_X5_holesStatement_good fC_good)
theorem in_f_X5_holesStatement_X2 : ∀ w ∈ wsX20, w ∈ w_f_X5_holesStatement := fun _ h => List.mem_cons_of_mem _ (List.mem_append_right _ (List.mem_append_right _ (List.mem_append_right _ (List.mem_append_left _ h))))
theorem in_f_X5_holesStatement_X5 : ∀ w ∈ wsX50, w ∈ w_f_X5_holesStatement := fun _ h => List.mem_cons_of_mem _ (List.mem_append_right _ (List.mem_append_right _ (List.mem_append_right _ (List.mem_append_right _ (List.mem_append_right _ (List.mem_append_left _ h))))))
theorem hd_f_X5_holesStatement : yX5_holesStatement.cls = RX5 ∧ yX5_holesStatement.cls ≠ "java/lang/invoke/MethodHandle" ∧ yX5_holesStatement.cls ≠ "java/lang/invoke/VarHandle" ∧ (parseMethodDescriptor yX5_holesStatement.desc).map (fun d => d.parameters.length) = some 0 := by decide +kernel
theorem gg_f_X5_holesStatement_X2_advance : GoodIn w_f_X5_holesStatement w_f_X2_advance := goodIn_sub (fun w h => (List.mem_cons.mp h).elim (fun e => (List.mem_cons_of_mem _ (List.mem_append_left _ (List.mem_append_right _ (List.mem_append_right _ (List.mem_append_left _ (List.mem_cons.mpr (Or.inl e)))))))) (fun h => (List.mem_append.mp h).elim (fun h => (List.mem_cons_of_mem _ (List.mem_append_left _ (List.mem_append_right _ (List.mem_append_right _ (List.mem_append_left _ (List.mem_cons_of_mem _ h))))))) (fun h => List.mem_cons_of_mem _ (List.mem_append_right _ h)))) w_f_X2_advance_good
theorem g_f_X5_holesStatement_X2_advance_V30 : GoodIn w_f_X5_holesStatement (wsV RX5 30 RX2 yX2_advance w_f_X2_advance) := goodIn_app (nb_g4 (List.mem_cons_of_mem _ (List.mem_append_left _ (List.mem_append_left _ (List.mem_of_getElem? (i := 7) rfl)))) (List.mem_cons_of_mem _ (List.mem_append_left _ (List.mem_append_left _ (List.mem_of_getElem? (i := 8) rfl)))) (List.mem_cons_of_mem _ (List.mem_append_left _ (List.mem_append_left _ (List.mem_of_getElem? (i := 9) rfl)))) (List.mem_cons_of_mem _ (List.mem_append_left _ (List.mem_append_left _ (List.mem_of_getElem? (i := 10) rfl)))) (by decide +kernel)) gg_f_X5_holesStatement_X2_advance
theorem gg_f_X5_holesStatement_X5_closes : GoodIn w_f_X5_holesStatement w_f_X5_closes := goodIn_sub (fun w h => (List.mem_cons.mp h).elim (fun e => (List.mem_cons_of_mem _ (List.mem_append_left _ (List.mem_append_right _ (List.mem_append_right _ (List.mem_append_right _ (List.mem_append_right _ (List.mem_append_left _ (List.mem_cons.mpr (Or.inl e)))))))))) (fun h => (List.mem_append.mp h).elim (fun h => (List.mem_cons_of_mem _ (List.mem_append_left _ (List.mem_append_right _ (List.mem_append_right _ (List.mem_append_right _ (List.mem_append_right _ (List.mem_append_left _ (List.mem_cons_of_mem _ h))))))))) (fun h => List.mem_cons_of_mem _ (List.mem_append_right _ h)))) w_f_X5_closes_good
theorem g_f_X5_holesStatement_X5_closes_V186 : GoodIn w_f_X5_holesStatement (wsV RX5 186 RX5 yX5_closes w_f_X5_closes) := goodIn_app (nb_g4 (List.mem_cons_of_mem _ (List.mem_append_left _ (List.mem_append_left _ (List.mem_of_getElem? (i := 14) rfl)))) (List.mem_cons_of_mem _ (List.mem_append_left _ (List.mem_append_left _ (List.mem_of_getElem? (i := 15) rfl)))) (List.mem_cons_of_mem _ (List.mem_append_left _ (List.mem_append_left _ (List.mem_of_getElem? (i := 16) rfl)))) (List.mem_cons_of_mem _ (List.mem_append_left _ (List.mem_append_left _ (List.mem_of_getElem? (i := 4) rfl)))) (by decide +kernel)) gg_f_X5_holesStatement_X5_closes
theorem gg_f_X5_holesStatement_X5_exp : GoodIn w_f_X5_holesStatement w_f_X5_exp := goodIn_sub (fun w h => (List.mem_cons.mp h).elim (fun e => (List.mem_cons_of_mem _ (List.mem_append_left _ (List.mem_append_right _ (List.mem_append_right _ (List.mem_append_right _ (List.mem_append_right _ (List.mem_append_right _ (List.mem_append_right _ (List.mem_append_left _ (List.mem_cons.mpr (Or.inl e)))))))))))) (fun h => (List.mem_append.mp h).elim (fun h => (List.mem_cons_of_mem _ (List.mem_append_left _ (List.mem_append_right _ (List.mem_append_right _ (List.mem_append_right _ (List.mem_append_right _ (List.mem_append_right _ (List.mem_append_right _ (List.mem_append_left _ (List.mem_cons_of_mem _ h))))))))))) (fun h => List.mem_cons_of_mem _ (List.mem_append_right _ h)))) w_f_X5_exp_good
theorem g_f_X5_holesStatement_X5_exp_V90 : GoodIn w_f_X5_holesStatement (wsV RX5 90 RX5 yX5_exp w_f_X5_exp) := goodIn_app (nb_g4 (List.mem_cons_of_mem _ (List.mem_append_left _ (List.mem_append_left _ (List.mem_of_getElem? (i := 20) rfl)))) (List.mem_cons_of_mem _ (List.mem_append_left _ (List.mem_append_left _ (List.mem_of_getElem? (i := 21) rfl)))) (List.mem_cons_of_mem _ (List.mem_append_left _ (List.mem_append_left _ (List.mem_of_getElem? (i := 22) rfl)))) (List.mem_cons_of_mem _ (List.mem_append_left _ (List.mem_append_left _ (List.mem_of_getElem? (i := 4) rfl)))) (by decide +kernel)) gg_f_X5_holesStatement_X5_exp
theorem gg_f_X5_holesStatement_X5_expect : GoodIn w_f_X5_holesStatement w_f_X5_expect := goodIn_sub (fun w h => (List.mem_cons.mp h).elim (fun e => (List.mem_cons_of_mem _ (List.mem_append_left _ (List.mem_append_right _ (List.mem_append_right _ (List.mem_append_right _ (List.mem_append_right _ (List.mem_append_right _ (List.mem_append_left _ (List.mem_cons.mpr (Or.inl e))))))))))) (fun h => (List.mem_append.mp h).elim (fun h => (List.mem_cons_of_mem _ (List.mem_append_left _ (List.mem_append_right _ (List.mem_append_right _ (List.mem_append_right _ (List.mem_append_right _ (List.mem_append_right _ (List.mem_append_left _ (List.mem_cons_of_mem _ h)))))))))) (fun h => List.mem_cons_of_mem _ (List.mem_append_right _ h)))) w_f_X5_expect_good
theorem g_f_X5_holesStatement_X5_expect_V141 : GoodIn w_f_X5_holesStatement (wsV RX5 141 RX5 yX5_expect w_f_X5_expect) := goodIn_app (nb_g4 (List.mem_cons_of_mem _ (List.mem_append_left _ (List.mem_append_left _ (List.mem_of_getElem? (i := 17) rfl)))) (List.mem_cons_of_mem _ (List.mem_append_left _ (List.mem_append_left _ (List.mem_of_getElem? (i := 18) rfl)))) (List.mem_cons_of_mem _ (List.mem_append_left _ (List.mem_append_left _ (List.mem_of_getElem? (i := 19) rfl)))) (List.mem_cons_of_mem _ (List.mem_append_left _ (List.mem_append_left _ (List.mem_of_getElem? (i := 4) rfl)))) (by decide +kernel)) gg_f_X5_holesStatement_X5_expect
theorem gg_f_X5_holesStatement_X5_markNoTarget : GoodIn w_f_X5_holesStatement w_f_X5_markNoTarget := goodIn_sub (fun w h => (List.mem_cons.mp h).elim (fun e => (List.mem_cons_of_mem _ (List.mem_append_left _ (List.mem_append_right _ (List.mem_append_right _ (List.mem_append_right _ (List.mem_append_left _ (List.mem_cons.mpr (Or.inl e))))))))) (fun h => (List.mem_append.mp h).elim (fun h => (List.mem_cons_of_mem _ (List.mem_append_left _ (List.mem_append_right _ (List.mem_append_right _ (List.mem_append_right _ (List.mem_append_left _ (List.mem_cons_of_mem _ h)))))))) (fun h => List.mem_cons_of_mem _ (List.mem_append_right _ h)))) w_f_X5_markNoTarget_good
theorem g_f_X5_holesStatement_X5_markNoTarget_V319 : GoodIn w_f_X5_holesStatement (wsV RX5 319 RX5 yX5_markNoTarget w_f_X5_markNoTarget) := goodIn_app (nb_g4 (List.mem_cons_of_mem _ (List.mem_append_left _ (List.mem_append_left _ (List.mem_of_getElem? (i := 11) rfl)))) (List.mem_cons_of_mem _ (List.mem_append_left _ (List.mem_append_left _ (List.mem_of_getElem? (i := 12) rfl)))) (List.mem_cons_of_mem _ (List.mem_append_left _ (List.mem_append_left _ (List.mem_of_getElem? (i := 13) rfl)))) (List.mem_cons_of_mem _ (List.mem_append_left _ (List.mem_append_left _ (List.mem_of_getElem? (i := 4) rfl)))) (by decide +kernel)) gg_f_X5_holesStatement_X5_markNoTarget
theorem gg_f_X5_holesStatement_X5_opens : GoodIn w_f_X5_holesStatement w_f_X5_opens := goodIn_sub (fun w h => (List.mem_cons.mp h).elim (fun e => (List.mem_cons_of_mem _ (List.mem_append_left _ (List.mem_append_right _ (List.mem_append_left _ (List.mem_cons.mpr (Or.inl e))))))) (fun h => (List.mem_append.mp h).elim (fun h => (List.mem_cons_of_mem _ (List.mem_append_left _ (List.mem_append_right _ (List.mem_append_left _ (List.mem_cons_of_mem _ h)))))) (fun h => List.mem_cons_of_mem _ (List.mem_append_right _ h)))) w_f_X5_opens_good
theorem g_f_X5_holesStatement_X5_opens_V173 : GoodIn w_f_X5_holesStatement (wsV RX5 173 RX5 yX5_opens w_f_X5_opens) := goodIn_app (nb_g4 (List.mem_cons_of_mem _ (List.mem_append_left _ (List.mem_append_left _ (List.mem_of_getElem? (i := 1) rfl)))) (List.mem_cons_of_mem _ (List.mem_append_left _ (List.mem_append_left _ (List.mem_of_getElem? (i := 2) rfl)))) (List.mem_cons_of_mem _ (List.mem_append_left _ (List.mem_append_left _ (List.mem_of_getElem? (i := 3) rfl)))) (List.mem_cons_of_mem _ (List.mem_append_left _ (List.mem_append_left _ (List.mem_of_getElem? (i := 4) rfl)))) (by decide +kernel)) gg_f_X5_holesStatement_X5_opens
theorem gg_f_X5_holesStatement_X5_target : GoodIn w_f_X5_holesStatement w_f_X5_target := goodIn_sub (fun w h => (List.mem_cons.mp h).elim (fun e => (List.mem_cons_of_mem _ (List.mem_append_left _ (List.mem_append_right _ (List.mem_append_right _ (List.mem_append_right _ (List.mem_append_right _ (List.mem_append_right _ (List.mem_append_right _ (List.mem_append_right _ (List.mem_append_right _ (List.mem_append_left _ (List.mem_cons.mpr (Or.inl e)))))))))))))) (fun h => (List.mem_append.mp h).elim (fun h => (List.mem_cons_of_mem _ (List.mem_append_left _ (List.mem_append_right _ (List.mem_append_right _ (List.mem_append_right _ (List.mem_append_right _ (List.mem_append_right _ (List.mem_append_right _ (List.mem_append_right _ (List.mem_append_right _ (List.mem_append_left _ (List.mem_cons_of_mem _ h))))))))))))) (fun h => List.mem_cons_of_mem _ (List.mem_append_right _ h)))) w_f_X5_target_good
theorem g_f_X5_holesStatement_X5_target_V280 : GoodIn w_f_X5_holesStatement (wsV RX5 280 RX5 yX5_target w_f_X5_target) := goodIn_app (nb_g4 (List.mem_cons_of_mem _ (List.mem_append_left _ (List.mem_append_left _ (List.mem_of_getElem? (i := 26) rfl)))) (List.mem_cons_of_mem _ (List.mem_append_left _ (List.mem_append_left _ (List.mem_of_getElem? (i := 27) rfl)))) (List.mem_cons_of_mem _ (List.mem_append_left _ (List.mem_append_left _ (List.mem_of_getElem? (i := 28) rfl)))) (List.mem_cons_of_mem _ (List.mem_append_left _ (List.mem_append_left _ (List.mem_of_getElem? (i := 4) rfl)))) (by decide +kernel)) gg_f_X5_holesStatement_X5_target
theorem gg_f_X5_holesStatement_X5_writeHoles : GoodIn w_f_X5_holesStatement w_f_X5_writeHoles := goodIn_sub (fun w h => (List.mem_cons.mp h).elim (fun e => (List.mem_cons_of_mem _ (List.mem_append_left _ (List.mem_append_right _ (List.mem_append_right _ (List.mem_append_right _ (List.mem_append_right _ (List.mem_append_right _ (List.mem_append_right _ (List.mem_append_right _ (List.mem_append_left _ (List.mem_cons.mpr (Or.inl e))))))))))))) (fun h => (List.mem_append.mp h).elim (fun h => (List.mem_cons_of_mem _ (List.mem_append_left _ (List.mem_append_right _ (List.mem_append_right _ (List.mem_append_right _ (List.mem_append_right _ (List.mem_append_right _ (List.mem_append_right _ (List.mem_append_right _ (List.mem_append_left _ (List.mem_cons_of_mem _ h)))))))))))) (fun h => List.mem_cons_of_mem _ (List.mem_append_right _ h)))) w_f_X5_writeHoles_good
theorem g_f_X5_holesStatement_X5_writeHoles_V322 : GoodIn w_f_X5_holesStatement (wsV RX5 322 RX5 yX5_writeHoles w_f_X5_writeHoles) := goodIn_app (nb_g4 (List.mem_cons_of_mem _ (List.mem_append_left _ (List.mem_append_left _ (List.mem_of_getElem? (i := 23) rfl)))) (List.mem_cons_of_mem _ (List.mem_append_left _ (List.mem_append_left _ (List.mem_of_getElem? (i := 24) rfl)))) (List.mem_cons_of_mem _ (List.mem_append_left _ (List.mem_append_left _ (List.mem_of_getElem? (i := 25) rfl)))) (List.mem_cons_of_mem _ (List.mem_append_left _ (List.mem_append_left _ (List.mem_of_getElem? (i := 4) rfl)))) (by decide +kernel)) gg_f_X5_holesStatement_X5_writeHoles
set_option maxHeartbeats 40000000 in
set_option maxRecDepth 100000 in
theorem c_f_X5_holesStatement (l : Launch) (hl0 : l.stackTraces = false) (dC : Nat → ClassId) (dI : Nat → Nat → Nat) (cy : Nat → ClassId) (ek a : Nat → Nat) (k0 : Nat) (L0 : LV) (σ0 : CS) (r0 : RS) (h0 : f_X5_holesStatement k0 0 L0 σ0 = some r0) (z : Nat → Nat) (sz : Nat) : vx_Met l yX5_holesStatement w_f_X5_holesStatement ({ frames := 411, cells := r0.2.2.1, slots := r0.2.2.2, locals := 13419 }) (va_Pc [.ref (a 40)] (nInF (dC, dI) cy ek sz (vC cy a z σ0))) (xV dC dI cy a (va_A (vC cy a z σ0) sz) [41, 43, 51] z r0) (xX dC dI cy a (va_A (vC cy a z σ0) sz) [41, 43, 51] z r0) r0.2.2.1 r0.2.2.2 (va_A (vC cy a z σ0) sz) := by
  refine vx_ofW (cc := cX5_holesStatement) (maxL := 7) (ret := none) (by decide) rfl ?_
  intro p e s m args below meth c s₁ B hml hno hv
  obtain ⟨rfl, ⟨⟨hsz, hP, hK, hD0, hG⟩, hE⟩, hT⟩ := hv
  have hx := B.exec
  have hb := B.bytes
  have hr := B.returns
  have hts := atoms_spec (ws := w_f_X5_holesStatement) B.pre
  have hown : s.vm.findClass RX5 = some m.cls := findClass_of_methodNamed B.named
  have hlocks := B.notSynchronized
  subst hsz
  have hD := hD0.self (sz := s.heap.size)
  generalize hAe : va_A (vC cy a z σ0) s.heap.size = A at hD hE hT ⊢
  have hA : ∀ q : Nat, s.heap.size ≤ q → A q := fun q h => by rw [← hAe]; exact Or.inr h
  have hS : va_S A s.heap s.heap [] := va_S.rf
  have hl := lv_entry ([.ref (a 40)]) (n := 7) (Nat.le_of_ble_eq_true rfl)
  rw [lg_entry_eq]
  generalize (lg_sl ([.ref (a 40)]) ++ List.replicate (7 - (lg_sl ([.ref (a 40)])).length) Slot.unset).toArray = ls at hl ⊢
  have hl : lv_has ls 7 [(0, .ref (a 40))] := hl
  generalize hmc : r0.2.2.1 = mc
  generalize hms : r0.2.2.2 = ms
  have blk : ∀ k : Nat, (bX p l e (headSpec w_f_X5_holesStatement ({ frames := 411, cells := mc, slots := ms, locals := 13419 })).room s m #[.ref (a 40)] below meth c dC dI cy a A (fun r => vx_MQ below (xV dC dI cy a A [41, 43, 51] z r) (xX dC dI cy a A [41, 43, 51] z r) #[.ref (a 40)] s mc ms A) [41, 43, 51] z mc ms 7 (f_X5_holesStatement k 0) (fun z L => [(0, .ref (a 40))]) 0 (fun z L => [])) ∧ (bX p l e (headSpec w_f_X5_holesStatement ({ frames := 411, cells := mc, slots := ms, locals := 13419 })).room s m #[.ref (a 40)] below meth c dC dI cy a A (fun r => vx_MQ below (xV dC dI cy a A [41, 43, 51] z r) (xX dC dI cy a A [41, 43, 51] z r) #[.ref (a 40)] s mc ms A) [41, 43, 51] z mc ms 7 (f_X5_holesStatement k 1) (fun z L => [(0, .ref (a 40)), (1, .int (L.1 1)), (2, .int (L.1 2)), (3, .int (L.1 3)), (4, .int (L.1 4)), (5, .int (L.1 5))]) 19 (fun z L => [])) ∧ (bX p l e (headSpec w_f_X5_holesStatement ({ frames := 411, cells := mc, slots := ms, locals := 13419 })).room s m #[.ref (a 40)] below meth c dC dI cy a A (fun r => vx_MQ below (xV dC dI cy a A [41, 43, 51] z r) (xX dC dI cy a A [41, 43, 51] z r) #[.ref (a 40)] s mc ms A) [41, 43, 51] z mc ms 7 (f_X5_holesStatement k 2) (fun z L => [(0, .ref (a 40)), (1, .int (L.1 1)), (2, .int (L.1 2)), (3, .int (L.1 3))]) 116 (fun z L => [])) ∧ (bX p l e (headSpec w_f_X5_holesStatement ({ frames := 411, cells := mc, slots := ms, locals := 13419 })).room s m #[.ref (a 40)] below meth c dC dI cy a A (fun r => vx_MQ below (xV dC dI cy a A [41, 43, 51] z r) (xX dC dI cy a A [41, 43, 51] z r) #[.ref (a 40)] s mc ms A) [41, 43, 51] z mc ms 7 (f_X5_holesStatement k 3) (fun z L => [(0, .ref (a 40)), (1, .int (L.1 1)), (2, .int (L.1 2)), (3, .int (L.1 3)), (5, .int (L.1 5))]) 57 (fun z L => [])) ∧ (bX p l e (headSpec w_f_X5_holesStatement ({ frames := 411, cells := mc, slots := ms, locals := 13419 })).room s m #[.ref (a 40)] below meth c dC dI cy a A (fun r => vx_MQ below (xV dC dI cy a A [41, 43, 51] z r) (xX dC dI cy a A [41, 43, 51] z r) #[.ref (a 40)] s mc ms A) [41, 43, 51] z mc ms 7 (f_X5_holesStatement k 4) (fun z L => [(0, .ref (a 40)), (1, .int (L.1 1)), (2, .int (L.1 2)), (3, .int (L.1 3)), (5, .int (L.1 5))]) 76 (fun z L => [])) ∧ (bX p l e (headSpec w_f_X5_holesStatement ({ frames := 411, cells := mc, slots := ms, locals := 13419 })).room s m #[.ref (a 40)] below meth c dC dI cy a A (fun r => vx_MQ below (xV dC dI cy a A [41, 43, 51] z r) (xX dC dI cy a A [41, 43, 51] z r) #[.ref (a 40)] s mc ms A) [41, 43, 51] z mc ms 7 (f_X5_holesStatement k 5) (fun z L => [(0, .ref (a 40)), (1, .int (L.1 1)), (2, .int (L.1 2)), (3, .int (L.1 3)), (5, .int (L.1 5))]) 95 (fun z L => [])) ∧ (bX p l e (headSpec w_f_X5_holesStatement ({ frames := 411, cells := mc, slots := ms, locals := 13419 })).room s m #[.ref (a 40)] below meth c dC dI cy a A (fun r => vx_MQ below (xV dC dI cy a A [41, 43, 51] z r) (xX dC dI cy a A [41, 43, 51] z r) #[.ref (a 40)] s mc ms A) [41, 43, 51] z mc ms 7 (f_X5_holesStatement k 6) (fun z L => [(0, .ref (a 40)), (1, .int (L.1 1)), (2, .int (L.1 2)), (3, .int (L.1 3)), (5, .int (L.1 5))]) 96 (fun z L => [.int (L.1 100)])) ∧ (bX p l e (headSpec w_f_X5_holesStatement ({ frames := 411, cells := mc, slots := ms, locals := 13419 })).room s m #[.ref (a 40)] below meth c dC dI cy a A (fun r => vx_MQ below (xV dC dI cy a A [41, 43, 51] z r) (xX dC dI cy a A [41, 43, 51] z r) #[.ref (a 40)] s mc ms A) [41, 43, 51] z mc ms 7 (f_X5_holesStatement k 7) (fun z L => [(0, .ref (a 40)), (1, .int (L.1 1)), (2, .int (L.1 2)), (3, .int (L.1 3)), (4, .int (L.1 4)), (5, .int (L.1 5))]) 110 (fun z L => [])) := by
    intro k
    induction k with
    | zero => exact ⟨fun z c1 c2 L σ r h => (by cases h), fun z c1 c2 L σ r h => (by cases h), fun z c1 c2 L σ r h => (by cases h), fun z c1 c2 L σ r h => (by cases h), fun z c1 c2 L σ r h => (by cases h), fun z c1 c2 L σ r h => (by cases h), fun z c1 c2 L σ r h => (by cases h), fun z c1 c2 L σ r h => (by cases h)⟩
    | succ k ih =>
      refine ⟨?_, ?_, ?_, ?_, ?_, ?_, ?_, ?_⟩
      · intro z cells slots L σ r h hzk hc hs H locs ls hP hD hS hl
        rw [f_X5_holesStatement] at h
        refine lv_aload_n hx hb dX5_holesStatement_0 rfl (lv_at hl 0 rfl) ?_
        refine hg_40_11 hx hb hts in_f_X5_holesStatement_X5 hown hK hP (hts _ (List.mem_cons_of_mem _ (List.mem_append_left _ (List.mem_append_left _ (List.mem_of_getElem? (i := 0) rfl))))) dX5_holesStatement_1 ?_
        refine lv_istore_n (lv' := [(1, .int (σ.1 4011)), (0, .ref (a 40))]) hx hb dX5_holesStatement_4 rfl hl (by decide) rfl (fun ls hl => ?_)
        refine lv_iconst (v := 0) hx hb dX5_holesStatement_5 (by decide) ?_
        refine lv_istore_n (lv' := [(2, .int 0), (1, .int (σ.1 4011)), (0, .ref (a 40))]) hx hb dX5_holesStatement_6 rfl hl (by decide) rfl (fun ls hl => ?_)
        refine lv_iconst (v := 0) hx hb dX5_holesStatement_7 (by decide) ?_
        refine lv_istore_n (lv' := [(3, .int 0), (2, .int 0), (1, .int (σ.1 4011)), (0, .ref (a 40))]) hx hb dX5_holesStatement_8 rfl hl (by decide) rfl (fun ls hl => ?_)
        refine lv_iconst (v := 1) hx hb dX5_holesStatement_9 (by decide) ?_
        refine lv_istore (lv' := [(4, .int 1), (3, .int 0), (2, .int 0), (1, .int (σ.1 4011)), (0, .ref (a 40))]) hx hb dX5_holesStatement_10 hl (by decide) rfl (fun ls hl => ?_)
        refine lv_aload_n hx hb dX5_holesStatement_12 rfl (lv_at hl 4 rfl) ?_
        obtain ⟨r1, hc1, hle1, h9⟩ := ox_ex h
        clear h
        refine kx_v (vx_runV (As := []) (rest := []) ⟨hx, hb, hml, hown, hts⟩ (c_f_X5_opens l hl0 dC dI cy ek a k lZ σ r1 hc1 z H.size) (cwV 0 hts g_f_X5_holesStatement_X5_opens_V173 rfl rfl rfl hd_f_X5_opens ⟨Nat.le_of_ble_eq_true rfl, Nat.le_of_ble_eq_true rfl⟩) ⟨nb_blindF, va_recv hK hP (ci := 4) (q0 := 40) rfl rfl, (kx_pre hK hG hE hT hA hP hD hS)⟩ rfl rfl hl.1 rfl (lv_room (Nat.le_of_ble_eq_true rfl)) dX5_holesStatement_13 ⟨Nat.le_trans (Nat.add_le_add_left hle1.1 _) (Nat.le_of_eq hc), Nat.le_trans (Nat.add_le_add_left hle1.2 _) (Nat.le_of_eq hs)⟩) hK hA hzk hP hD hS (by decide) hno hlocks ?_
        rcases h9 with ⟨h00, y1, hny1, hy⟩ | ⟨h00, hy⟩
        · subst hy
          have h := hny1
          refine Or.inl ⟨h00, fun u H locs hz1 hzk hP hD hS => ?_⟩
          obtain rfl := (zk_nil hz1).symm
          replace hc := (Nat.add_assoc _ _ _).trans hc
          replace hs := (Nat.add_assoc _ _ _).trans hs
          refine lv_iconst (v := 0) hx hb dX5_holesStatement_16 (by decide) ?_
          refine lv_istore (lv' := [(5, .int 0), (4, .int 1), (3, .int 0), (2, .int 0), (1, .int (σ.1 4011)), (0, .ref (a 40))]) hx hb dX5_holesStatement_17 hl (by decide) rfl (fun ls hl => ?_)
          exact ih.2.1 z _ _ (lI (lI (lI (lI (lI L 1 ((σ.1 4011))) 2 0) 3 0) 4 1) 5 0) r1.2.1 _ h hzk hc hs H locs ls hP hD hS (lv_sub hl [5, 4, 3, 2, 1, 0] rfl)
        · subst hy
          exact Or.inr ⟨h00, rfl, hc, hs⟩
      · intro z cells slots L σ r h hzk hc hs H locs ls hP hD hS hl
        rw [f_X5_holesStatement] at h
        refine lv_iload hx hb dX5_holesStatement_19 (lv_at hl 5 rfl) ?_
        refine lv_ldc (v := 32768) hx hb hown (hts _ (List.mem_cons_of_mem _ (List.mem_append_left _ (List.mem_append_left _ (List.mem_of_getElem? (i := 5) rfl))))) dX5_holesStatement_21 ?_
        refine lv_icmp_gt (tgt := 116) hx hb dX5_holesStatement_23 (by decide) (fun c1 => ?_) (fun c1 => ?_)
        · rw [if_pos c1] at h
          exact ih.2.2.1 z _ _ L σ _ h hzk hc hs H locs ls hP hD hS (lv_sub hl [0, 1, 2, 3] rfl)
        · rw [if_neg c1] at h
          refine lv_iload hx hb dX5_holesStatement_26 (lv_at hl 4 rfl) ?_
          refine lv_if_eq (tgt := 116) hx hb dX5_holesStatement_28 (by decide) (fun c2 => ?_) (fun c2 => ?_)
          · rw [if_pos c2] at h
            exact ih.2.2.1 z _ _ L σ _ h hzk hc hs H locs ls hP hD hS (lv_sub hl [0, 1, 2, 3] rfl)
          · rw [if_neg c2] at h
            refine lv_aload_n hx hb dX5_holesStatement_31 rfl (lv_at hl 0 rfl) ?_
            refine hg_40_0 hx hb hts in_f_X5_holesStatement_X5 hown hK hP (hts _ (List.mem_cons_of_mem _ (List.mem_append_left _ (List.mem_append_left _ (List.mem_of_getElem? (i := 6) rfl))))) dX5_holesStatement_32 ?_
            refine hg_37_2n hx hb hts in_f_X5_holesStatement_X2 hown hK hP (va_Nw.use rfl (hG.1 _ (List.mem_of_getElem? (i := 52) rfl))) dX5_holesStatement_35 ?_
            refine lv_bipush (v := 7) hx hb dX5_holesStatement_38 (by decide) ?_
            refine lv_icmp_ne (tgt := 57) hx hb dX5_holesStatement_40 (by decide) (fun c3 => ?_) (fun c3 => ?_)
            · rw [if_neg c3] at h
              exact ih.2.2.2.1 z _ _ L σ _ h hzk hc hs H locs ls hP hD hS (lv_sub hl [0, 1, 2, 3, 5] rfl)
            · rw [if_pos c3] at h
              refine lv_aload_n hx hb dX5_holesStatement_43 rfl (lv_at hl 0 rfl) ?_
              refine hg_40_0 hx hb hts in_f_X5_holesStatement_X5 hown hK hP (hts _ (List.mem_cons_of_mem _ (List.mem_append_left _ (List.mem_append_left _ (List.mem_of_getElem? (i := 6) rfl))))) dX5_holesStatement_44 ?_
              obtain ⟨r4, hc4, hle4, h9⟩ := ox_ex h
              clear h
              refine kx_v (vx_runV (As := []) (rest := []) ⟨hx, hb, hml, hown, hts⟩ (c_f_X2_advance l hl0 dC dI cy ek a k lZ σ r4 hc4 z H.size) (cwV 0 hts g_f_X5_holesStatement_X2_advance_V30 rfl rfl rfl hd_f_X2_advance ⟨Nat.le_of_ble_eq_true rfl, Nat.le_of_ble_eq_true rfl⟩) ⟨nb_blindF, va_recv hK hP (ci := 2) (q0 := 37) rfl rfl, (kx_pre hK hG hE hT hA hP hD hS)⟩ rfl rfl hl.1 rfl (lv_room (Nat.le_of_ble_eq_true rfl)) dX5_holesStatement_47 ⟨Nat.le_trans (Nat.add_le_add_left hle4.1 _) (Nat.le_of_eq hc), Nat.le_trans (Nat.add_le_add_left hle4.2 _) (Nat.le_of_eq hs)⟩) hK hA hzk hP hD hS (by decide) hno hlocks ?_
              rcases h9 with ⟨h00, y4, hny4, hy⟩ | ⟨h00, hy⟩
              · subst hy
                have h := hny4
                refine Or.inl ⟨h00, fun u H locs hz4 hzk hP hD hS => ?_⟩
                obtain rfl := (zk_nil hz4).symm
                replace hc := (Nat.add_assoc _ _ _).trans hc
                replace hs := (Nat.add_assoc _ _ _).trans hs
                refine lv_aload_n hx hb dX5_holesStatement_50 rfl (lv_at hl 0 rfl) ?_
                obtain ⟨r5, hc5, hle5, h9⟩ := ox_ex h
                clear h
                refine kx_v (r := y4) (vx_runV (As := []) (rest := []) ⟨hx, hb, hml, hown, hts⟩ (c_f_X5_markNoTarget l hl0 dC dI cy ek a k lZ r4.2.1 r5 hc5 z H.size) (cwV 0 hts g_f_X5_holesStatement_X5_markNoTarget_V319 rfl rfl rfl hd_f_X5_markNoTarget ⟨Nat.le_of_ble_eq_true rfl, Nat.le_of_ble_eq_true rfl⟩) ⟨nb_blindF, va_recv hK hP (ci := 4) (q0 := 40) rfl rfl, (kx_pre hK hG hE hT hA hP hD hS)⟩ rfl rfl hl.1 rfl (lv_room (Nat.le_of_ble_eq_true rfl)) dX5_holesStatement_51 ⟨Nat.le_trans (Nat.add_le_add_left hle5.1 _) (Nat.le_of_eq hc), Nat.le_trans (Nat.add_le_add_left hle5.2 _) (Nat.le_of_eq hs)⟩) hK hA hzk hP hD hS (by decide) hno hlocks ?_
                rcases h9 with ⟨h00, y5, hny5, hy⟩ | ⟨h00, hy⟩
                · subst hy
                  have h := hny5
                  refine Or.inl ⟨h00, fun z H locs hz5 hzk hP hD hS => ?_⟩
                  replace hc := (Nat.add_assoc _ _ _).trans hc
                  replace hs := (Nat.add_assoc _ _ _).trans hs
                  refine lv_goto (tgt := 76) hx hb dX5_holesStatement_54 (by decide) ?_
                  exact ih.2.2.2.2.1 z _ _ L r5.2.1 _ h hzk hc hs H locs ls hP hD hS (lv_sub hl [0, 1, 2, 3, 5] rfl)
                · subst hy
                  exact Or.inr ⟨h00, rfl, hc, hs⟩
              · subst hy
                exact Or.inr ⟨h00, rfl, hc, hs⟩
      · intro z cells slots L σ r h hzk hc hs H locs ls hP hD hS hl
        rw [f_X5_holesStatement] at h
        refine lv_aload_n hx hb dX5_holesStatement_116 rfl (lv_at hl 0 rfl) ?_
        refine lv_bipush (v := 15) hx hb dX5_holesStatement_117 (by decide) ?_
        obtain ⟨r1, hc1, hle1, h9⟩ := ox_ex h
        clear h
        refine kx_v (vx_runV (As := [.int 15]) (rest := []) ⟨hx, hb, hml, hown, hts⟩ (c_f_X5_closes l hl0 dC dI cy ek a k (lI lZ 1 15) σ r1 hc1 z H.size) (cwV 1 hts g_f_X5_holesStatement_X5_closes_V186 rfl rfl rfl hd_f_X5_closes ⟨Nat.le_of_ble_eq_true rfl, Nat.le_of_ble_eq_true rfl⟩) ⟨nb_blindF, va_recv hK hP (ci := 4) (q0 := 40) rfl rfl, (kx_pre hK hG hE hT hA hP hD hS)⟩ rfl rfl hl.1 rfl (lv_room (Nat.le_of_ble_eq_true rfl)) dX5_holesStatement_119 ⟨Nat.le_trans (Nat.add_le_add_left hle1.1 _) (Nat.le_of_eq hc), Nat.le_trans (Nat.add_le_add_left hle1.2 _) (Nat.le_of_eq hs)⟩) hK hA hzk hP hD hS (by decide) hno hlocks ?_
        rcases h9 with ⟨h00, y1, hny1, hy⟩ | ⟨h00, hy⟩
        · subst hy
          have h := hny1
          refine Or.inl ⟨h00, fun u H locs hz1 hzk hP hD hS => ?_⟩
          obtain rfl := (zk_nil hz1).symm
          replace hc := (Nat.add_assoc _ _ _).trans hc
          replace hs := (Nat.add_assoc _ _ _).trans hs
          refine lv_aload_n hx hb dX5_holesStatement_122 rfl (lv_at hl 0 rfl) ?_
          refine lv_iconst (v := 5) hx hb dX5_holesStatement_123 (by decide) ?_
          obtain ⟨r2, hc2, hle2, h9⟩ := ox_ex h
          clear h
          refine kx_v (r := y1) (vx_runV (As := [.int 5]) (rest := []) ⟨hx, hb, hml, hown, hts⟩ (c_f_X5_expect l hl0 dC dI cy ek a k (lI lZ 1 5) r1.2.1 r2 hc2 z H.size) (cwV 1 hts g_f_X5_holesStatement_X5_expect_V141 rfl rfl rfl hd_f_X5_expect ⟨Nat.le_of_ble_eq_true rfl, Nat.le_of_ble_eq_true rfl⟩) ⟨nb_blindF, va_recv hK hP (ci := 4) (q0 := 40) rfl rfl, (kx_pre hK hG hE hT hA hP hD hS)⟩ rfl rfl hl.1 rfl (lv_room (Nat.le_of_ble_eq_true rfl)) dX5_holesStatement_124 ⟨Nat.le_trans (Nat.add_le_add_left hle2.1 _) (Nat.le_of_eq hc), Nat.le_trans (Nat.add_le_add_left hle2.2 _) (Nat.le_of_eq hs)⟩) hK hA hzk hP hD hS (by decide) hno hlocks ?_
          rcases h9 with ⟨h00, y2, hny2, hy⟩ | ⟨h00, hy⟩
          · subst hy
            have h := hny2
            refine Or.inl ⟨h00, fun u H locs hz2 hzk hP hD hS => ?_⟩
            obtain rfl := (zk_nil hz2).symm
            replace hc := (Nat.add_assoc _ _ _).trans hc
            replace hs := (Nat.add_assoc _ _ _).trans hs
            refine lv_aload_n hx hb dX5_holesStatement_127 rfl (lv_at hl 0 rfl) ?_
            refine lv_iconst (v := 0) hx hb dX5_holesStatement_128 (by decide) ?_
            obtain ⟨r3, hc3, hle3, h9⟩ := ox_ex h
            clear h
            refine kx_v (r := y2) (vx_runV (As := [.int 0]) (rest := []) ⟨hx, hb, hml, hown, hts⟩ (c_f_X5_exp l hl0 dC dI cy ek a k (lI lZ 1 0) r2.2.1 r3 hc3 z H.size) (cwV 1 hts g_f_X5_holesStatement_X5_exp_V90 rfl rfl rfl hd_f_X5_exp ⟨Nat.le_of_ble_eq_true rfl, Nat.le_of_ble_eq_true rfl⟩) ⟨nb_blindF, va_recv hK hP (ci := 4) (q0 := 40) rfl rfl, (kx_pre hK hG hE hT hA hP hD hS)⟩ rfl rfl hl.1 rfl (lv_room (Nat.le_of_ble_eq_true rfl)) dX5_holesStatement_129 ⟨Nat.le_trans (Nat.add_le_add_left hle3.1 _) (Nat.le_of_eq hc), Nat.le_trans (Nat.add_le_add_left hle3.2 _) (Nat.le_of_eq hs)⟩) hK hA hzk hP hD hS (by decide) hno hlocks ?_
            rcases h9 with ⟨h00, y3, hny3, hy⟩ | ⟨h00, hy⟩
            · subst hy
              have h := hny3
              refine Or.inl ⟨h00, fun z H locs hz3 hzk hP hD hS => ?_⟩
              replace hc := (Nat.add_assoc _ _ _).trans hc
              replace hs := (Nat.add_assoc _ _ _).trans hs
              refine lv_aload_n hx hb dX5_holesStatement_132 rfl (lv_at hl 0 rfl) ?_
              refine lv_iload_n hx hb dX5_holesStatement_133 rfl (lv_at hl 1 rfl) ?_
              refine lv_iload_n hx hb dX5_holesStatement_134 rfl (lv_at hl 2 rfl) ?_
              refine lv_iload_n hx hb dX5_holesStatement_135 rfl (lv_at hl 3 rfl) ?_
              obtain ⟨r4, hc4, hle4, h9⟩ := ox_ex h
              clear h
              refine kx_v (r := y3) (vx_runV (As := [.int (L.1 1), .int (L.1 2), .int (L.1 3)]) (rest := []) ⟨hx, hb, hml, hown, hts⟩ (c_f_X5_writeHoles l hl0 dC dI cy ek a k (lI (lI (lI lZ 1 ((L.1 1))) 2 ((L.1 2))) 3 ((L.1 3))) r3.2.1 r4 hc4 z H.size) (cwV 3 hts g_f_X5_holesStatement_X5_writeHoles_V322 rfl rfl rfl hd_f_X5_writeHoles ⟨Nat.le_of_ble_eq_true rfl, Nat.le_of_ble_eq_true rfl⟩) ⟨nb_blindF, va_recv hK hP (ci := 4) (q0 := 40) rfl rfl, (kx_pre hK hG hE hT hA hP hD hS)⟩ rfl rfl hl.1 rfl (lv_room (Nat.le_of_ble_eq_true rfl)) dX5_holesStatement_136 ⟨Nat.le_trans (Nat.add_le_add_left hle4.1 _) (Nat.le_of_eq hc), Nat.le_trans (Nat.add_le_add_left hle4.2 _) (Nat.le_of_eq hs)⟩) hK hA hzk hP hD hS (by decide) hno hlocks ?_
              rcases h9 with ⟨h00, y4, hny4, hy⟩ | ⟨h00, hy⟩
              · subst hy
                have h := hny4
                refine Or.inl ⟨h00, fun z H locs hz4 hzk hP hD hS => ?_⟩
                replace hc := (Nat.add_assoc _ _ _).trans hc
                replace hs := (Nat.add_assoc _ _ _).trans hs
                refine lv_aload_n hx hb dX5_holesStatement_139 rfl (lv_at hl 0 rfl) ?_
                refine lv_iload_n hx hb dX5_holesStatement_140 rfl (lv_at hl 1 rfl) ?_
                refine hp_40_11 hx hb hts in_f_X5_holesStatement_X5 hown hK hP hD hS (hts _ (List.mem_cons_of_mem _ (List.mem_append_left _ (List.mem_append_left _ (List.mem_of_getElem? (i := 0) rfl))))) dX5_holesStatement_141 (fun H locs hP hD hS => ?_)
                obtain rfl := Option.some.inj h
                subst hc
                subst hs
                exact xr_v hx hb hr hK hzk hP hD hS hlocks dX5_holesStatement_144
              · subst hy
                exact Or.inr ⟨h00, rfl, hc, hs⟩
            · subst hy
              exact Or.inr ⟨h00, rfl, hc, hs⟩
          · subst hy
            exact Or.inr ⟨h00, rfl, hc, hs⟩
        · subst hy
          exact Or.inr ⟨h00, rfl, hc, hs⟩
      · intro z cells slots L σ r h hzk hc hs H locs ls hP hD hS hl
        rw [f_X5_holesStatement] at h
        refine lv_aload_n hx hb dX5_holesStatement_57 rfl (lv_at hl 0 rfl) ?_
        refine lv_iconst (v := (-1)) hx hb dX5_holesStatement_58 (by decide) ?_
        obtain ⟨r1, hc1, hle1, h9⟩ := ox_ex h
        clear h
        refine kx_i (vx_runV (As := [.int (-1)]) (rest := []) ⟨hx, hb, hml, hown, hts⟩ (c_f_X5_target l hl0 dC dI cy ek a k (lI lZ 1 ((-1))) σ r1 hc1 z H.size) (cwV 1 hts g_f_X5_holesStatement_X5_target_V280 rfl rfl rfl hd_f_X5_target ⟨Nat.le_of_ble_eq_true rfl, Nat.le_of_ble_eq_true rfl⟩) ⟨nb_blindF, va_recv hK hP (ci := 4) (q0 := 40) rfl rfl, (kx_pre hK hG hE hT hA hP hD hS)⟩ rfl rfl hl.1 rfl (lv_room (Nat.le_of_ble_eq_true rfl)) dX5_holesStatement_59 ⟨Nat.le_trans (Nat.add_le_add_left hle1.1 _) (Nat.le_of_eq hc), Nat.le_trans (Nat.add_le_add_left hle1.2 _) (Nat.le_of_eq hs)⟩) hK hA hzk hP hD hS (by decide) hno hlocks ?_
        rcases h9 with ⟨h00, y1, hny1, hy⟩ | ⟨h00, hy⟩
        · subst hy
          have h := hny1
          refine Or.inl ⟨h00, fun z H locs hz1 hzk hP hD hS => ?_⟩
          replace hc := (Nat.add_assoc _ _ _).trans hc
          replace hs := (Nat.add_assoc _ _ _).trans hs
          refine lv_istore (lv' := [(6, .int r1.1.2), (0, .ref (a 40)), (1, .int (L.1 1)), (2, .int (L.1 2)), (3, .int (L.1 3)), (5, .int (L.1 5))]) hx hb dX5_holesStatement_62 hl (by decide) rfl (fun ls hl => ?_)
          refine lv_iload_n hx hb dX5_holesStatement_64 rfl (lv_at hl 4 rfl) ?_
          refine lv_aload_n hx hb dX5_holesStatement_65 rfl (lv_at hl 1 rfl) ?_
          refine hg_40_10 hx hb hts in_f_X5_holesStatement_X5 hown hK hP (hts _ (List.mem_cons_of_mem _ (List.mem_append_left _ (List.mem_append_left _ (List.mem_of_getElem? (i := 29) rfl))))) dX5_holesStatement_66 ?_
          refine lv_iload hx hb dX5_holesStatement_69 (lv_at hl 0 rfl) ?_
          refine lv_iconst (v := 2) hx hb dX5_holesStatement_71 (by decide) ?_
          refine lv_iadd hx hb dX5_holesStatement_72 ?_
          obtain ⟨q2, h⟩ := kr_ite1 h
          refine hl_41 hx hb hK hP q2 dX5_holesStatement_73 ?_
          refine lv_iadd hx hb dX5_holesStatement_74 ?_
          refine lv_istore_n (lv' := [(3, .int (((L.1 3)) + ((r1.2.1.2.2.1 41 ((r1.1.2 + 2)).toNatClampNeg)))), (6, .int r1.1.2), (0, .ref (a 40)), (1, .int (L.1 1)), (2, .int (L.1 2)), (5, .int (L.1 5))]) hx hb dX5_holesStatement_75 rfl hl (by decide) rfl (fun ls hl => ?_)
          exact ih.2.2.2.2.1 z _ _ (lI L 3 ((((L.1 3)) + ((r1.2.1.2.2.1 41 ((r1.1.2 + 2)).toNatClampNeg))))) r1.2.1 _ h hzk hc hs H locs ls hP hD hS (lv_sub hl [2, 3, 4, 0, 5] rfl)
        · subst hy
          exact Or.inr ⟨h00, rfl, hc, hs⟩
      · intro z cells slots L σ r h hzk hc hs H locs ls hP hD hS hl
        rw [f_X5_holesStatement] at h
        refine lv_iinc (v := ((L.1 2)) + 1) (lv' := [(2, .int (((L.1 2)) + 1)), (0, .ref (a 40)), (1, .int (L.1 1)), (3, .int (L.1 3)), (5, .int (L.1 5))]) hx hb dX5_holesStatement_76 hl (k := 2) rfl rfl (by decide) rfl (fun ls hl => ?_)
        refine lv_aload_n hx hb dX5_holesStatement_79 rfl (lv_at hl 1 rfl) ?_
        refine hg_40_0 hx hb hts in_f_X5_holesStatement_X5 hown hK hP (hts _ (List.mem_cons_of_mem _ (List.mem_append_left _ (List.mem_append_left _ (List.mem_of_getElem? (i := 6) rfl))))) dX5_holesStatement_80 ?_
        refine hg_37_2n hx hb hts in_f_X5_holesStatement_X2 hown hK hP (va_Nw.use rfl (hG.1 _ (List.mem_of_getElem? (i := 52) rfl))) dX5_holesStatement_83 ?_
        refine lv_bipush (v := 16) hx hb dX5_holesStatement_86 (by decide) ?_
        refine lv_icmp_ne (tgt := 95) hx hb dX5_holesStatement_88 (by decide) (fun c1 => ?_) (fun c1 => ?_)
        · rw [if_neg c1] at h
          exact ih.2.2.2.2.2.1 z _ _ (lI L 2 ((((L.1 2)) + 1))) σ _ h hzk hc hs H locs ls hP hD hS (lv_sub hl [1, 2, 0, 3, 4] rfl)
        · rw [if_pos c1] at h
          refine lv_iconst (v := 1) hx hb dX5_holesStatement_91 (by decide) ?_
          refine lv_goto (tgt := 96) hx hb dX5_holesStatement_92 (by decide) ?_
          exact ih.2.2.2.2.2.2.1 z _ _ (lI (lI L 2 ((((L.1 2)) + 1))) 100 1) σ _ h hzk hc hs H locs ls hP hD hS (lv_sub hl [1, 2, 0, 3, 4] rfl)
      · intro z cells slots L σ r h hzk hc hs H locs ls hP hD hS hl
        rw [f_X5_holesStatement] at h
        refine lv_iconst (v := 0) hx hb dX5_holesStatement_95 (by decide) ?_
        exact ih.2.2.2.2.2.2.1 z _ _ (lI L 100 0) σ _ h hzk hc hs H locs ls hP hD hS (lv_sub hl [0, 1, 2, 3, 4] rfl)
      · intro z cells slots L σ r h hzk hc hs H locs ls hP hD hS hl
        rw [f_X5_holesStatement] at h
        refine lv_istore (lv' := [(4, .int (L.1 100)), (0, .ref (a 40)), (1, .int (L.1 1)), (2, .int (L.1 2)), (3, .int (L.1 3)), (5, .int (L.1 5))]) hx hb dX5_holesStatement_96 hl (by decide) rfl (fun ls hl => ?_)
        refine lv_iload hx hb dX5_holesStatement_98 (lv_at hl 0 rfl) ?_
        refine lv_if_eq (tgt := 110) hx hb dX5_holesStatement_100 (by decide) (fun c1 => ?_) (fun c1 => ?_)
        · rw [if_pos c1] at h
          exact ih.2.2.2.2.2.2.2 z _ _ (lI L 4 ((L.1 100))) σ _ h hzk hc hs H locs ls hP hD hS (lv_sub hl [1, 2, 3, 4, 0, 5] rfl)
        · rw [if_neg c1] at h
          refine lv_aload_n hx hb dX5_holesStatement_103 rfl (lv_at hl 1 rfl) ?_
          refine hg_40_0 hx hb hts in_f_X5_holesStatement_X5 hown hK hP (hts _ (List.mem_cons_of_mem _ (List.mem_append_left _ (List.mem_append_left _ (List.mem_of_getElem? (i := 6) rfl))))) dX5_holesStatement_104 ?_
          obtain ⟨r2, hc2, hle2, h9⟩ := ox_ex h
          clear h
          refine kx_v (vx_runV (As := []) (rest := []) ⟨hx, hb, hml, hown, hts⟩ (c_f_X2_advance l hl0 dC dI cy ek a k lZ σ r2 hc2 z H.size) (cwV 0 hts g_f_X5_holesStatement_X2_advance_V30 rfl rfl rfl hd_f_X2_advance ⟨Nat.le_of_ble_eq_true rfl, Nat.le_of_ble_eq_true rfl⟩) ⟨nb_blindF, va_recv hK hP (ci := 2) (q0 := 37) rfl rfl, (kx_pre hK hG hE hT hA hP hD hS)⟩ rfl rfl hl.1 rfl (lv_room (Nat.le_of_ble_eq_true rfl)) dX5_holesStatement_107 ⟨Nat.le_trans (Nat.add_le_add_left hle2.1 _) (Nat.le_of_eq hc), Nat.le_trans (Nat.add_le_add_left hle2.2 _) (Nat.le_of_eq hs)⟩) hK hA hzk hP hD hS (by decide) hno hlocks ?_
          rcases h9 with ⟨h00, y2, hny2, hy⟩ | ⟨h00, hy⟩
          · subst hy
            have h := hny2
            refine Or.inl ⟨h00, fun u H locs hz2 hzk hP hD hS => ?_⟩
            obtain rfl := (zk_nil hz2).symm
            replace hc := (Nat.add_assoc _ _ _).trans hc
            replace hs := (Nat.add_assoc _ _ _).trans hs
            exact ih.2.2.2.2.2.2.2 z _ _ (lI L 4 ((L.1 100))) r2.2.1 _ h hzk hc hs H locs ls hP hD hS (lv_sub hl [1, 2, 3, 4, 0, 5] rfl)
          · subst hy
            exact Or.inr ⟨h00, rfl, hc, hs⟩
      · intro z cells slots L σ r h hzk hc hs H locs ls hP hD hS hl
        rw [f_X5_holesStatement] at h
        refine lv_iinc (v := ((L.1 5)) + 1) (lv' := [(5, .int (((L.1 5)) + 1)), (0, .ref (a 40)), (1, .int (L.1 1)), (2, .int (L.1 2)), (3, .int (L.1 3)), (4, .int (L.1 4))]) hx hb dX5_holesStatement_110 hl (k := 5) rfl rfl (by decide) rfl (fun ls hl => ?_)
        refine lv_goto (tgt := 19) hx hb dX5_holesStatement_113 (by decide) ?_
        exact ih.2.1 z _ _ (lI L 5 ((((L.1 5)) + 1))) σ _ h hzk hc hs H locs ls hP hD hS (lv_sub hl [1, 2, 3, 4, 5, 0] rfl)
  exact (blk k0).1 z 0 0 L0 σ0 r0 h0 (zk_rf _ _) ((Nat.zero_add _).trans hmc) ((Nat.zero_add _).trans hms) s.heap [] ls hP hD hS hl

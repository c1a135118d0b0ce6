/-! X3_newAtom -/
def f_X3_newAtom : Nat → Nat → LV → CS → Option RS
  | 0, _, _, _ => none
  | k + 1, 0, L, σ => if ((σ.1 1914)) < 1000000 then (f_X3_newAtom k 1 L σ) else (op (y_X3_fail k 0 (lI lZ 1 6) σ) (fun r2 => some ((0, 0), r2.2, (0, 0))))
  | k + 1, 1, L, σ => ox (f_X3_give k 0 (lI lZ 1 ((((-1342177280)) ||| (((uI σ 1914 ((((σ.1 1914)) + 1))).1 1914))))) (uI σ 1914 ((((σ.1 1914)) + 1)))) (fun r1 => some ((0, 0), r1.2.1, (0, 0)))
  | _ + 1, _ + 2, _, _ => none
def o_f_X3_newAtom : List Cond := [.fieldLink RX3 14 "SetHouse$Machine" "run" "LSetHouse$Run;", .constant RX3 468 (1000000), .methodLink RX3 313 yX3_fail, .instanceMethod yX3_fail, .selects RX3 yX3_fail yX3_fail, .initialized RX3, .constant RX3 469 (-1342177280), .methodLink RX3 391 yX3_give, .instanceMethod yX3_give, .selects RX3 yX3_give yX3_give]
theorem o_f_X3_newAtom_good : o_f_X3_newAtom.all goodWord = true := by decide +kernel
def p_f_X3_newAtom : List Cond := o_f_X3_newAtom ++ ((.code yX3_fail cX3_fail 2 none :: p_y_X3_fail) ++ ((.code yX3_give cX3_give 2 none :: p_f_X3_give) ++ []))
theorem p_f_X3_newAtom_good : p_f_X3_newAtom.all goodWord = true := nb_all2 o_f_X3_newAtom_good (nb_all2 (nb_allc (by decide +kernel) p_y_X3_fail_good) (nb_all2 (nb_allc (by decide +kernel) p_f_X3_give_good) rfl))
def w_f_X3_newAtom : List Cond := .code yX3_newAtom cX3_newAtom 1 none :: (p_f_X3_newAtom ++ fC)
theorem w_f_X3_newAtom_good : w_f_X3_newAtom.all goodWord = true := nb_allc (by decide +kernel) (nb_all2 p_f_X3_newAtom_good fC_good)
theorem in_f_X3_newAtom_X3 : ∀ w ∈ wsX30, w ∈ w_f_X3_newAtom := fun _ h => List.mem_cons_of_mem _ (List.mem_append_right _ (List.mem_append_right _ (List.mem_append_right _ (List.mem_append_right _ (List.mem_append_left _ h)))))
theorem in_f_X3_newAtom_X8 : ∀ w ∈ wsX80, w ∈ w_f_X3_newAtom := fun _ h => List.mem_cons_of_mem _ (List.mem_append_right _ (List.mem_append_right _ (List.mem_append_right _ (List.mem_append_right _ (List.mem_append_right _ (List.mem_append_right _ (List.mem_append_right _ (List.mem_append_right _ (List.mem_append_left _ h)))))))))
theorem hd_f_X3_newAtom : yX3_newAtom.cls = RX3 ∧ yX3_newAtom.cls ≠ "java/lang/invoke/MethodHandle" ∧ yX3_newAtom.cls ≠ "java/lang/invoke/VarHandle" ∧ (parseMethodDescriptor yX3_newAtom.desc).map (fun d => d.parameters.length) = some 0 := by decide +kernel
theorem gg_f_X3_newAtom_X3_give : GoodIn w_f_X3_newAtom w_f_X3_give := goodIn_sub (fun w h => (List.mem_cons.mp h).elim (fun e => (List.mem_cons_of_mem _ (List.mem_append_left _ (List.mem_append_right _ (List.mem_append_right _ (List.mem_append_left _ (List.mem_cons.mpr (Or.inl e)))))))) (fun h => (List.mem_append.mp h).elim (fun h => (List.mem_cons_of_mem _ (List.mem_append_left _ (List.mem_append_right _ (List.mem_append_right _ (List.mem_append_left _ (List.mem_cons_of_mem _ h))))))) (fun h => List.mem_cons_of_mem _ (List.mem_append_right _ h)))) w_f_X3_give_good
theorem g_f_X3_newAtom_X3_give_V391 : GoodIn w_f_X3_newAtom (wsV RX3 391 RX3 yX3_give w_f_X3_give) := goodIn_app (nb_g4 (List.mem_cons_of_mem _ (List.mem_append_left _ (List.mem_append_left _ (List.mem_of_getElem? (i := 7) rfl)))) (List.mem_cons_of_mem _ (List.mem_append_left _ (List.mem_append_left _ (List.mem_of_getElem? (i := 8) rfl)))) (List.mem_cons_of_mem _ (List.mem_append_left _ (List.mem_append_left _ (List.mem_of_getElem? (i := 9) rfl)))) (List.mem_cons_of_mem _ (List.mem_append_left _ (List.mem_append_left _ (List.mem_of_getElem? (i := 5) rfl)))) (by decide +kernel)) gg_f_X3_newAtom_X3_give
theorem gg_f_X3_newAtom_X3_fail : GoodIn w_f_X3_newAtom w_y_X3_fail := goodIn_sub (fun w h => (List.mem_cons.mp h).elim (fun e => (List.mem_cons_of_mem _ (List.mem_append_left _ (List.mem_append_right _ (List.mem_append_left _ (List.mem_cons.mpr (Or.inl e))))))) (fun h => (List.mem_append.mp h).elim (fun h => (List.mem_cons_of_mem _ (List.mem_append_left _ (List.mem_append_right _ (List.mem_append_left _ (List.mem_cons_of_mem _ h)))))) (fun h => List.mem_cons_of_mem _ (List.mem_append_right _ h)))) w_y_X3_fail_good
theorem g_y_X3_newAtom_X3_fail_V313 : GoodIn w_f_X3_newAtom (wsV RX3 313 RX3 yX3_fail w_y_X3_fail) := goodIn_app (nb_g4 (List.mem_cons_of_mem _ (List.mem_append_left _ (List.mem_append_left _ (List.mem_of_getElem? (i := 2) rfl)))) (List.mem_cons_of_mem _ (List.mem_append_left _ (List.mem_append_left _ (List.mem_of_getElem? (i := 3) rfl)))) (List.mem_cons_of_mem _ (List.mem_append_left _ (List.mem_append_left _ (List.mem_of_getElem? (i := 4) rfl)))) (List.mem_cons_of_mem _ (List.mem_append_left _ (List.mem_append_left _ (List.mem_of_getElem? (i := 5) rfl)))) (by decide +kernel)) gg_f_X3_newAtom_X3_fail
set_option maxHeartbeats 40000000 in
set_option maxRecDepth 100000 in
theorem c_f_X3_newAtom (l : Launch) (hl0 : l.stackTraces = false) (dC : Nat → ClassId) (dI : Nat → Nat → Nat) (cy : Nat → ClassId) (ek a : Nat → Nat) (k0 : Nat) (L0 : LV) (σ0 : CS) (r0 : RS) (h0 : f_X3_newAtom k0 0 L0 σ0 = some r0) (z : Nat → Nat) (sz : Nat) : vx_Met l yX3_newAtom w_f_X3_newAtom ({ frames := 6, cells := r0.2.2.1, slots := r0.2.2.2, locals := 177 }) (va_Pc [.ref (a 18)] (nInF (dC, dI) cy ek sz (vC cy a z σ0))) (xV dC dI cy a (va_A (vC cy a z σ0) sz) [20] z r0) (xX dC dI cy a (va_A (vC cy a z σ0) sz) [20] z r0) r0.2.2.1 r0.2.2.2 (va_A (vC cy a z σ0) sz) := by
  refine vx_ofW (cc := cX3_newAtom) (maxL := 1) (ret := none) (by decide) rfl ?_
  intro p e s m args below meth c s₁ B hml hno hv
  obtain ⟨rfl, ⟨⟨hsz, hP, hK, hD0, hG⟩, hE⟩, hT⟩ := hv
  have hx := B.exec
  have hb := B.bytes
  have hr := B.returns
  have hts := atoms_spec (ws := w_f_X3_newAtom) B.pre
  have hown : s.vm.findClass RX3 = some m.cls := findClass_of_methodNamed B.named
  have hlocks := B.notSynchronized
  subst hsz
  have hD := hD0.self (sz := s.heap.size)
  generalize hAe : va_A (vC cy a z σ0) s.heap.size = A at hD hE hT ⊢
  have hA : ∀ q : Nat, s.heap.size ≤ q → A q := fun q h => by rw [← hAe]; exact Or.inr h
  have hS : va_S A s.heap s.heap [] := va_S.rf
  have hl := lv_entry ([.ref (a 18)]) (n := 1) (Nat.le_of_ble_eq_true rfl)
  rw [lg_entry_eq]
  generalize (lg_sl ([.ref (a 18)]) ++ List.replicate (1 - (lg_sl ([.ref (a 18)])).length) Slot.unset).toArray = ls at hl ⊢
  have hl : lv_has ls 1 [(0, .ref (a 18))] := hl
  generalize hmc : r0.2.2.1 = mc
  generalize hms : r0.2.2.2 = ms
  have blk : ∀ k : Nat, (bX p l e (headSpec w_f_X3_newAtom ({ frames := 6, cells := mc, slots := ms, locals := 177 })).room s m #[.ref (a 18)] below meth c dC dI cy a A (fun r => vx_MQ below (xV dC dI cy a A [20] z r) (xX dC dI cy a A [20] z r) #[.ref (a 18)] s mc ms A) [20] z mc ms 1 (f_X3_newAtom k 0) (fun z L => [(0, .ref (a 18))]) 0 (fun z L => [])) ∧ (bX p l e (headSpec w_f_X3_newAtom ({ frames := 6, cells := mc, slots := ms, locals := 177 })).room s m #[.ref (a 18)] below meth c dC dI cy a A (fun r => vx_MQ below (xV dC dI cy a A [20] z r) (xX dC dI cy a A [20] z r) #[.ref (a 18)] s mc ms A) [20] z mc ms 1 (f_X3_newAtom k 1) (fun z L => [(0, .ref (a 18))]) 20 (fun z L => [])) := by
    intro k
    induction k with
    | zero => exact ⟨fun z c1 c2 L σ r h => (by cases h), fun z c1 c2 L σ r h => (by cases h)⟩
    | succ k ih =>
      refine ⟨?_, ?_⟩
      · intro z cells slots L σ r h hzk hc hs H locs ls hP hD hS hl
        rw [f_X3_newAtom] at h
        refine lv_aload_n hx hb dX3_newAtom_0 rfl (lv_at hl 0 rfl) ?_
        refine hg_18_5 hx hb hts in_f_X3_newAtom_X3 hown hK hP (hts _ (List.mem_cons_of_mem _ (List.mem_append_left _ (List.mem_append_left _ (List.mem_of_getElem? (i := 0) rfl))))) dX3_newAtom_1 ?_
        refine hg_19_14n hx hb hts in_f_X3_newAtom_X8 hown hK hP (va_Nw.use rfl (hG.1 _ (List.mem_of_getElem? (i := 36) rfl))) dX3_newAtom_4 ?_
        refine lv_ldcw (v := 1000000) hx hb hown (hts _ (List.mem_cons_of_mem _ (List.mem_append_left _ (List.mem_append_left _ (List.mem_of_getElem? (i := 1) rfl))))) dX3_newAtom_7 ?_
        refine lv_icmp_lt (tgt := 20) hx hb dX3_newAtom_10 (by decide) (fun c1 => ?_) (fun c1 => ?_)
        · rw [if_pos c1] at h
          exact ih.2 z _ _ L σ _ h hzk hc hs H locs ls hP hD hS (lv_sub hl [0] rfl)
        · rw [if_neg c1] at h
          refine lv_aload_n hx hb dX3_newAtom_13 rfl (lv_at hl 0 rfl) ?_
          refine lv_bipush (v := 6) hx hb dX3_newAtom_14 (by decide) ?_
          obtain ⟨r2, hc2, h⟩ := op_ex h
          refine kc_v (va_runV (As := [.int 6]) (rest := []) ⟨hx, hb, hml, hown, hts⟩ (c_y_X3_fail l dC dI cy a z k (lI lZ 1 6) σ r2 hc2 H.size) (cwV 1 hts g_y_X3_newAtom_X3_fail_V313 rfl rfl rfl hd_y_X3_fail ⟨Nat.le_of_ble_eq_true rfl, Nat.le_of_ble_eq_true rfl⟩) ⟨nb_blind, va_recv hK hP (ci := 3) (q0 := 18) rfl rfl, (kb_pre hK hG hP hD)⟩ rfl rfl hl.1 rfl (lv_room (Nat.le_of_ble_eq_true rfl)) dX3_newAtom_16 ⟨(Nat.le_trans (Nat.le_add_right _ _) (Nat.le_of_eq hc)), (Nat.le_trans (Nat.le_add_right _ _) (Nat.le_of_eq hs))⟩) hA hP hD hS (fun H locs hP hD hS => ?_)
          obtain rfl := Option.some.inj h
          subst hc
          subst hs
          exact xr_v hx hb hr hK hzk hP hD hS hlocks dX3_newAtom_19
      · intro z cells slots L σ r h hzk hc hs H locs ls hP hD hS hl
        rw [f_X3_newAtom] at h
        refine lv_aload_n hx hb dX3_newAtom_20 rfl (lv_at hl 0 rfl) ?_
        refine hg_18_5 hx hb hts in_f_X3_newAtom_X3 hown hK hP (hts _ (List.mem_cons_of_mem _ (List.mem_append_left _ (List.mem_append_left _ (List.mem_of_getElem? (i := 0) rfl))))) dX3_newAtom_21 ?_
        refine lv_dup hx hb dX3_newAtom_24 rfl ?_
        refine hg_19_14n hx hb hts in_f_X3_newAtom_X8 hown hK hP (va_Nw.use rfl (hG.1 _ (List.mem_of_getElem? (i := 36) rfl))) dX3_newAtom_25 ?_
        refine lv_iconst (v := 1) hx hb dX3_newAtom_28 (by decide) ?_
        refine lv_iadd hx hb dX3_newAtom_29 ?_
        refine hp_19_14n hx hb hts in_f_X3_newAtom_X8 hown hK hP hD hS (va_Nw.use rfl (hG.1 _ (List.mem_of_getElem? (i := 36) rfl))) dX3_newAtom_30 (fun H locs hP hD hS => ?_)
        refine lv_aload_n hx hb dX3_newAtom_33 rfl (lv_at hl 0 rfl) ?_
        refine lv_ldcw (v := (-1342177280)) hx hb hown (hts _ (List.mem_cons_of_mem _ (List.mem_append_left _ (List.mem_append_left _ (List.mem_of_getElem? (i := 6) rfl))))) dX3_newAtom_34 ?_
        refine lv_aload_n hx hb dX3_newAtom_37 rfl (lv_at hl 0 rfl) ?_
        refine hg_18_5 hx hb hts in_f_X3_newAtom_X3 hown hK hP (hts _ (List.mem_cons_of_mem _ (List.mem_append_left _ (List.mem_append_left _ (List.mem_of_getElem? (i := 0) rfl))))) dX3_newAtom_38 ?_
        refine hg_19_14n hx hb hts in_f_X3_newAtom_X8 hown hK hP (va_Nw.use rfl (hG.1 _ (List.mem_of_getElem? (i := 36) rfl))) dX3_newAtom_41 ?_
        refine lv_ior hx hb dX3_newAtom_44 ?_
        obtain ⟨r1, hc1, hle1, h9⟩ := ox_ex h
        clear h
        refine kx_v (vx_runV (As := [.int (((-1342177280)) ||| (((uI σ 1914 ((((σ.1 1914)) + 1))).1 1914)))]) (rest := []) ⟨hx, hb, hml, hown, hts⟩ (c_f_X3_give l hl0 dC dI cy ek a k (lI lZ 1 ((((-1342177280)) ||| (((uI σ 1914 ((((σ.1 1914)) + 1))).1 1914))))) (uI σ 1914 ((((σ.1 1914)) + 1))) r1 hc1 z H.size) (cwV 1 hts g_f_X3_newAtom_X3_give_V391 rfl rfl rfl hd_f_X3_give ⟨Nat.le_of_ble_eq_true rfl, Nat.le_of_ble_eq_true rfl⟩) ⟨nb_blindF, va_recv hK hP (ci := 3) (q0 := 18) rfl rfl, (kx_pre hK hG hE hT hA hP hD hS)⟩ rfl rfl hl.1 rfl (lv_room (Nat.le_of_ble_eq_true rfl)) dX3_newAtom_45 ⟨Nat.le_trans (Nat.add_le_add_left hle1.1 _) (Nat.le_of_eq hc), Nat.le_trans (Nat.add_le_add_left hle1.2 _) (Nat.le_of_eq hs)⟩) hK hA hzk hP hD hS (by decide) hno hlocks ?_
        rcases h9 with ⟨h00, y1, hny1, hy⟩ | ⟨h00, hy⟩
        · subst hy
          have h := hny1
          refine Or.inl ⟨h00, fun z H locs hz1 hzk hP hD hS => ?_⟩
          replace hc := (Nat.add_assoc _ _ _).trans hc
          replace hs := (Nat.add_assoc _ _ _).trans hs
          obtain rfl := Option.some.inj h
          subst hc
          subst hs
          exact xr_v hx hb hr hK hzk hP hD hS hlocks dX3_newAtom_48
        · subst hy
          exact Or.inr ⟨h00, rfl, hc, hs⟩
  exact (blk k0).1 z 0 0 L0 σ0 r0 h0 (zk_rf _ _) ((Nat.zero_add _).trans hmc) ((Nat.zero_add _).trans hms) s.heap [] ls hP hD hS hl
/-! X0_insert__z20 -/
def y_X0_insert__z20 : Nat → Nat → LV → CS → Option (Int32 × CS)
  | 0, _, _, _ => none
  | k + 1, 0, L, σ => if ((L.1 3)) ≤ 0 then (y_X0_insert__z20 k 1 (lI (lI L 6 ((L.1 2))) 7 ((((L.1 2)) + ((L.1 3))))) σ) else (if ¬ (((((((L.1 2)) + ((L.1 3)))) - 1)) < 0 ∨ (sN σ 20) ≤ ((((((L.1 2)) + ((L.1 3)))) - 1)).toNatClampNeg) then (oc (y_X1_compare k 0 (lI (lI lZ 1 ((σ.2.2.1 20 ((((((L.1 2)) + ((L.1 3)))) - 1)).toNatClampNeg))) 2 ((L.1 5))) σ) (fun r3 => if 0 ≤ r3.1 then (y_X0_insert__z20 k 1 (lI (lI L 6 ((L.1 2))) 7 ((((L.1 2)) + ((L.1 3))))) r3.2) else (y_X0_insert__z20 k 1 (lI (lI L 6 ((((L.1 2)) + ((L.1 3))))) 7 ((((L.1 2)) + ((L.1 3))))) r3.2))) else none)
  | k + 1, 1, L, σ => y_X0_insert__z20 k 2 (lI L 8 0) σ
  | k + 1, 2, L, σ => if 32 ≤ ((L.1 8)) then (y_X0_insert__z20 k 3 L σ) else (if ((L.1 7)) ≤ ((L.1 6)) then (y_X0_insert__z20 k 3 L σ) else (if ¬ ((((((((L.1 6)) + ((L.1 7)))).toUInt32 >>> ((1 : Int32).toUInt32 &&& Int32.toUInt32 31)).toInt32)) < 0 ∨ (sN σ 20) ≤ (((((((L.1 6)) + ((L.1 7)))).toUInt32 >>> ((1 : Int32).toUInt32 &&& Int32.toUInt32 31)).toInt32)).toNatClampNeg) then (oc (y_X1_compare k 0 (lI (lI lZ 1 ((σ.2.2.1 20 (((((((L.1 6)) + ((L.1 7)))).toUInt32 >>> ((1 : Int32).toUInt32 &&& Int32.toUInt32 31)).toInt32)).toNatClampNeg))) 2 ((L.1 5))) σ) (fun r4 => if 0 ≤ r4.1 then (y_X0_insert__z20 k 4 (lI L 9 (((((((L.1 6)) + ((L.1 7)))).toUInt32 >>> ((1 : Int32).toUInt32 &&& Int32.toUInt32 31)).toInt32))) r4.2) else (y_X0_insert__z20 k 5 (lI L 6 (((((((((L.1 6)) + ((L.1 7)))).toUInt32 >>> ((1 : Int32).toUInt32 &&& Int32.toUInt32 31)).toInt32)) + 1))) r4.2))) else none))
  | k + 1, 3, L, σ => if ((((L.1 2)) + ((L.1 3)))) ≤ ((L.1 6)) then (y_X0_insert__z20 k 6 L σ) else (if ¬ (((L.1 6)) < 0 ∨ (sN σ 20) ≤ ((L.1 6)).toNatClampNeg) then (oc (y_X1_same k 0 (lI (lI lZ 1 ((σ.2.2.1 20 ((L.1 6)).toNatClampNeg))) 2 ((L.1 5))) σ) (fun r3 => if r3.1 = 0 then (y_X0_insert__z20 k 6 L r3.2) else (some (0, r3.2)))) else none)
  | k + 1, 4, L, σ => y_X0_insert__z20 k 5 (lI L 7 ((L.1 9))) σ
  | k + 1, 5, L, σ => y_X0_insert__z20 k 2 (lI L 8 ((((L.1 8)) + 1))) σ
  | k + 1, 6, L, σ => if ¬ ((L.1 6)) < 0 ∧ ¬ ((((L.1 6)) + 1)) < 0 ∧ ¬ ((((L.1 4)) - ((L.1 6)))) < 0 ∧ ((L.1 6)).toNatClampNeg + ((((L.1 4)) - ((L.1 6)))).toNatClampNeg ≤ (sN σ 20) ∧ ((((L.1 6)) + 1)).toNatClampNeg + ((((L.1 4)) - ((L.1 6)))).toNatClampNeg ≤ (sN σ 20) then (if ¬ (((L.1 6)) < 0 ∨ (sN (uF σ 20 (va_cpy (σ.2.2.1 20) (σ.2.2.1 20) ((L.1 6)).toNatClampNeg ((((L.1 6)) + 1)).toNatClampNeg ((((L.1 4)) - ((L.1 6)))).toNatClampNeg)) 20) ≤ ((L.1 6)).toNatClampNeg) then (some (1, (uA (uF σ 20 (va_cpy (σ.2.2.1 20) (σ.2.2.1 20) ((L.1 6)).toNatClampNeg ((((L.1 6)) + 1)).toNatClampNeg ((((L.1 4)) - ((L.1 6)))).toNatClampNeg)) 20 ((L.1 6)).toNatClampNeg ((L.1 5))))) else none) else none
  | _ + 1, _ + 7, _, _ => none
def o_y_X0_insert__z20 : List Cond := [.fieldLink RX0 22 "SetHouse$Algebra" "heap" "LSetHouse$Heap;", .methodLink RX0 91 yX1_compare, .instanceMethod yX1_compare, .selects RX1 yX1_compare yX1_compare, .initialized RX1, .methodLink RX0 60 yX1_same, .instanceMethod yX1_same, .selects RX1 yX1_same yX1_same, .methodLink RX0 148 arraycopyName, .native arraycopyName, .static arraycopyName, .initialized "java/lang/System"]
theorem o_y_X0_insert__z20_good : o_y_X0_insert__z20.all goodWord = true := by decide +kernel
def p_y_X0_insert__z20 : List Cond := o_y_X0_insert__z20 ++ ((.code yX1_compare cX1_compare 9 (some .int) :: p_y_H1) ++ ((.code yX1_same cX1_same 3 (some .boolean) :: p_y_X1_same) ++ []))
theorem p_y_X0_insert__z20_good : p_y_X0_insert__z20.all goodWord = true := nb_all2 o_y_X0_insert__z20_good (nb_all2 (nb_allc (by decide +kernel) p_y_H1_good) (nb_all2 (nb_allc (by decide +kernel) p_y_X1_same_good) rfl))
def w_y_X0_insert__z20 : List Cond := .code yX0_insert cX0_insert 10 (some .boolean) :: (p_y_X0_insert__z20 ++ fC)
theorem w_y_X0_insert__z20_good : w_y_X0_insert__z20.all goodWord = true := nb_allc (by decide +kernel) (nb_all2 p_y_X0_insert__z20_good fC_good)
theorem in_y_X0_insert__z20_X0 : ∀ w ∈ wsX00, w ∈ w_y_X0_insert__z20 := fun _ h => List.mem_cons_of_mem _ (List.mem_append_right _ (List.mem_append_left _ h))
theorem hd_y_X0_insert__z20 : yX0_insert.cls = RX0 ∧ yX0_insert.cls ≠ "java/lang/invoke/MethodHandle" ∧ yX0_insert.cls ≠ "java/lang/invoke/VarHandle" ∧ (parseMethodDescriptor yX0_insert.desc).map (fun d => d.parameters.length) = some 5 := by decide +kernel
theorem gg_y_X0_insert__z20_X1_compare : GoodIn w_y_X0_insert__z20 w_y_X1_compare := goodIn_sub (fun w h => (List.mem_cons.mp h).elim (fun e => (List.mem_cons_of_mem _ (List.mem_append_left _ (List.mem_append_right _ (List.mem_append_left _ (List.mem_cons.mpr (Or.inl e))))))) (fun h => (List.mem_append.mp h).elim (fun h => (List.mem_cons_of_mem _ (List.mem_append_left _ (List.mem_append_right _ (List.mem_append_left _ (List.mem_cons_of_mem _ h)))))) (fun h => List.mem_cons_of_mem _ (List.mem_append_right _ h)))) w_y_X1_compare_good
theorem g_y_X0_insert__z20_X1_compare_V91 : GoodIn w_y_X0_insert__z20 (wsV RX0 91 RX1 yX1_compare w_y_X1_compare) := goodIn_app (nb_g4 (List.mem_cons_of_mem _ (List.mem_append_left _ (List.mem_append_left _ (List.mem_of_getElem? (i := 1) rfl)))) (List.mem_cons_of_mem _ (List.mem_append_left _ (List.mem_append_left _ (List.mem_of_getElem? (i := 2) rfl)))) (List.mem_cons_of_mem _ (List.mem_append_left _ (List.mem_append_left _ (List.mem_of_getElem? (i := 3) rfl)))) (List.mem_cons_of_mem _ (List.mem_append_left _ (List.mem_append_left _ (List.mem_of_getElem? (i := 4) rfl)))) (by decide +kernel)) gg_y_X0_insert__z20_X1_compare
theorem gg_y_X0_insert__z20_X1_same : GoodIn w_y_X0_insert__z20 w_y_X1_same := goodIn_sub (fun w h => (List.mem_cons.mp h).elim (fun e => (List.mem_cons_of_mem _ (List.mem_append_left _ (List.mem_append_right _ (List.mem_append_right _ (List.mem_append_left _ (List.mem_cons.mpr (Or.inl e)))))))) (fun h => (List.mem_append.mp h).elim (fun h => (List.mem_cons_of_mem _ (List.mem_append_left _ (List.mem_append_right _ (List.mem_append_right _ (List.mem_append_left _ (List.mem_cons_of_mem _ h))))))) (fun h => List.mem_cons_of_mem _ (List.mem_append_right _ h)))) w_y_X1_same_good
theorem g_y_X0_insert__z20_X1_same_V60 : GoodIn w_y_X0_insert__z20 (wsV RX0 60 RX1 yX1_same w_y_X1_same) := goodIn_app (nb_g4 (List.mem_cons_of_mem _ (List.mem_append_left _ (List.mem_append_left _ (List.mem_of_getElem? (i := 5) rfl)))) (List.mem_cons_of_mem _ (List.mem_append_left _ (List.mem_append_left _ (List.mem_of_getElem? (i := 6) rfl)))) (List.mem_cons_of_mem _ (List.mem_append_left _ (List.mem_append_left _ (List.mem_of_getElem? (i := 7) rfl)))) (List.mem_cons_of_mem _ (List.mem_append_left _ (List.mem_append_left _ (List.mem_of_getElem? (i := 4) rfl)))) (by decide +kernel)) gg_y_X0_insert__z20_X1_same
set_option maxHeartbeats 40000000 in
set_option maxRecDepth 100000 in
theorem c_y_X0_insert__z20 (l : Launch) (dC : Nat → ClassId) (dI : Nat → Nat → Nat) (cy : Nat → ClassId) (a z : Nat → Nat) (k0 : Nat) (L0 : LV) (σ0 : CS) (r0 : Int32 × CS) (h0 : y_X0_insert__z20 k0 0 L0 σ0 = some r0) (sz : Nat) : Met l yX0_insert w_y_X0_insert__z20 ({ frames := 63, cells := 0, slots := 0, locals := 1760 }) (va_Pc [.ref (a 14), .ref (z 20), .int (L0.1 2), .int (L0.1 3), .int (L0.1 4), .int (L0.1 5)] (nIn (dC, dI) cy sz (vC cy a z σ0))) (va_Qi (fun (x : Int32) (_ : Unit) => x = r0.1) (fun _ t => nOut (dC, dI) cy (va_A (vC cy a z σ0) sz) (vC cy a z r0.2) t) (va_A (vC cy a z σ0) sz)) 0 0 (va_A (vC cy a z σ0) sz) := by
  refine Met.ofW (cc := cX0_insert) (maxL := 10) (ret := (some .boolean)) (by decide) rfl ?_
  intro p e s m args below meth c s₁ B hml hv
  obtain ⟨rfl, hsz, hP, hK, hD0, hG⟩ := hv
  have hx := B.exec
  have hb := B.bytes
  have hr := B.returns
  have hts := atoms_spec (ws := w_y_X0_insert__z20) B.pre
  have hown : s.vm.findClass RX0 = some m.cls := findClass_of_methodNamed B.named
  have hlocks := B.notSynchronized
  subst hsz
  have hD := hD0.self (sz := s.heap.size)
  generalize hAe : va_A (vC cy a z σ0) s.heap.size = A at hD ⊢
  have hA : ∀ q : Nat, s.heap.size ≤ q → A q := fun q h => by rw [← hAe]; exact Or.inr h
  have hS : va_S A s.heap s.heap [] := va_S.rf
  have hl := lv_entry ([.ref (a 14), .ref (z 20), .int (L0.1 2), .int (L0.1 3), .int (L0.1 4), .int (L0.1 5)]) (n := 10) (Nat.le_of_ble_eq_true rfl)
  rw [lg_entry_eq]
  generalize (lg_sl ([.ref (a 14), .ref (z 20), .int (L0.1 2), .int (L0.1 3), .int (L0.1 4), .int (L0.1 5)]) ++ List.replicate (10 - (lg_sl ([.ref (a 14), .ref (z 20), .int (L0.1 2), .int (L0.1 3), .int (L0.1 4), .int (L0.1 5)])).length) Slot.unset).toArray = ls at hl ⊢
  have hl : lv_has ls 10 [(0, .ref (a 14)), (1, .ref (z 20)), (2, .int (L0.1 2)), (3, .int (L0.1 3)), (4, .int (L0.1 4)), (5, .int (L0.1 5))] := hl
  have blk : ∀ k : Nat, (bC p l e (headSpec w_y_X0_insert__z20 ({ frames := 63, cells := 0, slots := 0, locals := 1760 })).room s m #[.ref (a 14), .ref (z 20), .int (L0.1 2), .int (L0.1 3), .int (L0.1 4), .int (L0.1 5)] below meth c dC dI cy a z A (kI dC dI cy a z A below #[.ref (a 14), .ref (z 20), .int (L0.1 2), .int (L0.1 3), .int (L0.1 4), .int (L0.1 5)] s) 10 (y_X0_insert__z20 k 0) (fun L => [(0, .ref (a 14)), (1, .ref (z 20)), (2, .int (L.1 2)), (3, .int (L.1 3)), (4, .int (L.1 4)), (5, .int (L.1 5))]) 0 (fun L => [])) ∧ (bC p l e (headSpec w_y_X0_insert__z20 ({ frames := 63, cells := 0, slots := 0, locals := 1760 })).room s m #[.ref (a 14), .ref (z 20), .int (L0.1 2), .int (L0.1 3), .int (L0.1 4), .int (L0.1 5)] below meth c dC dI cy a z A (kI dC dI cy a z A below #[.ref (a 14), .ref (z 20), .int (L0.1 2), .int (L0.1 3), .int (L0.1 4), .int (L0.1 5)] s) 10 (y_X0_insert__z20 k 1) (fun L => [(0, .ref (a 14)), (1, .ref (z 20)), (2, .int (L.1 2)), (3, .int (L.1 3)), (4, .int (L.1 4)), (5, .int (L.1 5)), (6, .int (L.1 6)), (7, .int (L.1 7))]) 34 (fun L => [])) ∧ (bC p l e (headSpec w_y_X0_insert__z20 ({ frames := 63, cells := 0, slots := 0, locals := 1760 })).room s m #[.ref (a 14), .ref (z 20), .int (L0.1 2), .int (L0.1 3), .int (L0.1 4), .int (L0.1 5)] below meth c dC dI cy a z A (kI dC dI cy a z A below #[.ref (a 14), .ref (z 20), .int (L0.1 2), .int (L0.1 3), .int (L0.1 4), .int (L0.1 5)] s) 10 (y_X0_insert__z20 k 2) (fun L => [(0, .ref (a 14)), (1, .ref (z 20)), (2, .int (L.1 2)), (3, .int (L.1 3)), (4, .int (L.1 4)), (5, .int (L.1 5)), (6, .int (L.1 6)), (7, .int (L.1 7)), (8, .int (L.1 8))]) 37 (fun L => [])) ∧ (bC p l e (headSpec w_y_X0_insert__z20 ({ frames := 63, cells := 0, slots := 0, locals := 1760 })).room s m #[.ref (a 14), .ref (z 20), .int (L0.1 2), .int (L0.1 3), .int (L0.1 4), .int (L0.1 5)] below meth c dC dI cy a z A (kI dC dI cy a z A below #[.ref (a 14), .ref (z 20), .int (L0.1 2), .int (L0.1 3), .int (L0.1 4), .int (L0.1 5)] s) 10 (y_X0_insert__z20 k 3) (fun L => [(0, .ref (a 14)), (1, .ref (z 20)), (2, .int (L.1 2)), (3, .int (L.1 3)), (4, .int (L.1 4)), (5, .int (L.1 5)), (6, .int (L.1 6))]) 95 (fun L => [])) ∧ (bC p l e (headSpec w_y_X0_insert__z20 ({ frames := 63, cells := 0, slots := 0, locals := 1760 })).room s m #[.ref (a 14), .ref (z 20), .int (L0.1 2), .int (L0.1 3), .int (L0.1 4), .int (L0.1 5)] below meth c dC dI cy a z A (kI dC dI cy a z A below #[.ref (a 14), .ref (z 20), .int (L0.1 2), .int (L0.1 3), .int (L0.1 4), .int (L0.1 5)] s) 10 (y_X0_insert__z20 k 4) (fun L => [(0, .ref (a 14)), (1, .ref (z 20)), (2, .int (L.1 2)), (3, .int (L.1 3)), (4, .int (L.1 4)), (5, .int (L.1 5)), (6, .int (L.1 6)), (8, .int (L.1 8)), (9, .int (L.1 9))]) 85 (fun L => [])) ∧ (bC p l e (headSpec w_y_X0_insert__z20 ({ frames := 63, cells := 0, slots := 0, locals := 1760 })).room s m #[.ref (a 14), .ref (z 20), .int (L0.1 2), .int (L0.1 3), .int (L0.1 4), .int (L0.1 5)] below meth c dC dI cy a z A (kI dC dI cy a z A below #[.ref (a 14), .ref (z 20), .int (L0.1 2), .int (L0.1 3), .int (L0.1 4), .int (L0.1 5)] s) 10 (y_X0_insert__z20 k 5) (fun L => [(0, .ref (a 14)), (1, .ref (z 20)), (2, .int (L.1 2)), (3, .int (L.1 3)), (4, .int (L.1 4)), (5, .int (L.1 5)), (6, .int (L.1 6)), (7, .int (L.1 7)), (8, .int (L.1 8))]) 89 (fun L => [])) ∧ (bC p l e (headSpec w_y_X0_insert__z20 ({ frames := 63, cells := 0, slots := 0, locals := 1760 })).room s m #[.ref (a 14), .ref (z 20), .int (L0.1 2), .int (L0.1 3), .int (L0.1 4), .int (L0.1 5)] below meth c dC dI cy a z A (kI dC dI cy a z A below #[.ref (a 14), .ref (z 20), .int (L0.1 2), .int (L0.1 3), .int (L0.1 4), .int (L0.1 5)] s) 10 (y_X0_insert__z20 k 6) (fun L => [(1, .ref (z 20)), (4, .int (L.1 4)), (5, .int (L.1 5)), (6, .int (L.1 6))]) 121 (fun L => [])) := by
    intro k
    induction k with
    | zero => exact ⟨fun L σ r h => (by cases h), fun L σ r h => (by cases h), fun L σ r h => (by cases h), fun L σ r h => (by cases h), fun L σ r h => (by cases h), fun L σ r h => (by cases h), fun L σ r h => (by cases h)⟩
    | succ k ih =>
      refine ⟨?_, ?_, ?_, ?_, ?_, ?_, ?_⟩
      · intro L σ r h H locs ls hP hD hS hl
        rw [y_X0_insert__z20] at h
        refine lv_iload_n hx hb dX0_insert_0 rfl (lv_at hl 2 rfl) ?_
        refine lv_istore (lv' := [(6, .int (L.1 2)), (0, .ref (a 14)), (1, .ref (z 20)), (2, .int (L.1 2)), (3, .int (L.1 3)), (4, .int (L.1 4)), (5, .int (L.1 5))]) hx hb dX0_insert_1 hl (by decide) rfl (fun ls hl => ?_)
        refine lv_iload_n hx hb dX0_insert_3 rfl (lv_at hl 3 rfl) ?_
        refine lv_iload_n hx hb dX0_insert_4 rfl (lv_at hl 4 rfl) ?_
        refine lv_iadd hx hb dX0_insert_5 ?_
        refine lv_istore (lv' := [(7, .int (((L.1 2)) + ((L.1 3)))), (6, .int (L.1 2)), (0, .ref (a 14)), (1, .ref (z 20)), (2, .int (L.1 2)), (3, .int (L.1 3)), (4, .int (L.1 4)), (5, .int (L.1 5))]) hx hb dX0_insert_6 hl (by decide) rfl (fun ls hl => ?_)
        refine lv_iload_n hx hb dX0_insert_8 rfl (lv_at hl 5 rfl) ?_
        refine lv_if_le (tgt := 34) hx hb dX0_insert_9 (by decide) (fun c1 => ?_) (fun c1 => ?_)
        · rw [if_pos c1] at h
          exact ih.2.1 (lI (lI L 6 ((L.1 2))) 7 ((((L.1 2)) + ((L.1 3))))) σ r h H locs ls hP hD hS (lv_sub hl [2, 3, 4, 5, 6, 7, 1, 0] rfl)
        · rw [if_neg c1] at h
          refine lv_aload_n hx hb dX0_insert_12 rfl (lv_at hl 2 rfl) ?_
          refine hg_14_0 hx hb hts in_y_X0_insert__z20_X0 hown hK hP (hts _ (List.mem_cons_of_mem _ (List.mem_append_left _ (List.mem_append_left _ (List.mem_of_getElem? (i := 0) rfl))))) dX0_insert_13 ?_
          refine lv_aload_n hx hb dX0_insert_16 rfl (lv_at hl 3 rfl) ?_
          refine lv_iload hx hb dX0_insert_17 (lv_at hl 0 rfl) ?_
          refine lv_iconst (v := 1) hx hb dX0_insert_19 (by decide) ?_
          refine lv_isub hx hb dX0_insert_20 ?_
          obtain ⟨q2, h⟩ := kb_ite1 h
          refine hl_20 hx hb hK hP q2 dX0_insert_21 ?_
          refine lv_iload hx hb dX0_insert_22 (lv_at hl 7 rfl) ?_
          obtain ⟨r3, hc3, h⟩ := oc_ex h
          refine kc_i (va_runV (As := [.int (σ.2.2.1 20 ((((((L.1 2)) + ((L.1 3)))) - 1)).toNatClampNeg), .int (L.1 5)]) (rest := []) ⟨hx, hb, hml, hown, hts⟩ (c_y_X1_compare l dC dI cy a z k (lI (lI lZ 1 ((σ.2.2.1 20 ((((((L.1 2)) + ((L.1 3)))) - 1)).toNatClampNeg))) 2 ((L.1 5))) σ r3 hc3 H.size) (cwV 2 hts g_y_X0_insert__z20_X1_compare_V91 rfl rfl rfl hd_y_X1_compare ⟨Nat.le_of_ble_eq_true rfl, Nat.le_of_ble_eq_true rfl⟩) ⟨nb_blind, va_recv hK hP (ci := 1) (q0 := 0) rfl rfl, (kb_pre hK hG hP hD)⟩ rfl rfl hl.1 rfl (lv_room (Nat.le_of_ble_eq_true rfl)) dX0_insert_24 ⟨Nat.le_refl _, Nat.le_refl _⟩) hA hP hD hS (fun H locs hP hD hS => ?_)
          refine lv_if_ge (tgt := 34) hx hb dX0_insert_27 (by decide) (fun c4 => ?_) (fun c4 => ?_)
          · rw [if_pos c4] at h
            exact ih.2.1 (lI (lI L 6 ((L.1 2))) 7 ((((L.1 2)) + ((L.1 3))))) r3.2 r h H locs ls hP hD hS (lv_sub hl [2, 3, 4, 5, 6, 7, 1, 0] rfl)
          · rw [if_neg c4] at h
            refine lv_iload hx hb dX0_insert_30 (lv_at hl 0 rfl) ?_
            refine lv_istore (lv' := [(6, .int (((L.1 2)) + ((L.1 3)))), (7, .int (((L.1 2)) + ((L.1 3)))), (0, .ref (a 14)), (1, .ref (z 20)), (2, .int (L.1 2)), (3, .int (L.1 3)), (4, .int (L.1 4)), (5, .int (L.1 5))]) hx hb dX0_insert_32 hl (by decide) rfl (fun ls hl => ?_)
            exact ih.2.1 (lI (lI L 6 ((((L.1 2)) + ((L.1 3))))) 7 ((((L.1 2)) + ((L.1 3))))) r3.2 r h H locs ls hP hD hS (lv_sub hl [2, 3, 4, 5, 6, 7, 0, 1] rfl)
      · intro L σ r h H locs ls hP hD hS hl
        rw [y_X0_insert__z20] at h
        refine lv_iconst (v := 0) hx hb dX0_insert_34 (by decide) ?_
        refine lv_istore (lv' := [(8, .int 0), (0, .ref (a 14)), (1, .ref (z 20)), (2, .int (L.1 2)), (3, .int (L.1 3)), (4, .int (L.1 4)), (5, .int (L.1 5)), (6, .int (L.1 6)), (7, .int (L.1 7))]) hx hb dX0_insert_35 hl (by decide) rfl (fun ls hl => ?_)
        exact ih.2.2.1 (lI L 8 0) σ r h H locs ls hP hD hS (lv_sub hl [1, 2, 3, 4, 5, 6, 7, 8, 0] rfl)
      · intro L σ r h H locs ls hP hD hS hl
        rw [y_X0_insert__z20] at h
        refine lv_iload hx hb dX0_insert_37 (lv_at hl 8 rfl) ?_
        refine lv_bipush (v := 32) hx hb dX0_insert_39 (by decide) ?_
        refine lv_icmp_ge (tgt := 95) hx hb dX0_insert_41 (by decide) (fun c1 => ?_) (fun c1 => ?_)
        · rw [if_pos c1] at h
          exact ih.2.2.2.1 L σ r h H locs ls hP hD hS (lv_sub hl [0, 1, 2, 3, 4, 5, 6] rfl)
        · rw [if_neg c1] at h
          refine lv_iload hx hb dX0_insert_44 (lv_at hl 6 rfl) ?_
          refine lv_iload hx hb dX0_insert_46 (lv_at hl 7 rfl) ?_
          refine lv_icmp_ge (tgt := 95) hx hb dX0_insert_48 (by decide) (fun c2 => ?_) (fun c2 => ?_)
          · rw [if_pos c2] at h
            exact ih.2.2.2.1 L σ r h H locs ls hP hD hS (lv_sub hl [0, 1, 2, 3, 4, 5, 6] rfl)
          · rw [if_neg c2] at h
            refine lv_iload hx hb dX0_insert_51 (lv_at hl 6 rfl) ?_
            refine lv_iload hx hb dX0_insert_53 (lv_at hl 7 rfl) ?_
            refine lv_iadd hx hb dX0_insert_55 ?_
            refine lv_iconst (v := 1) hx hb dX0_insert_56 (by decide) ?_
            refine lv_iushr (v := (((((L.1 6)) + ((L.1 7)))).toUInt32 >>> ((1 : Int32).toUInt32 &&& Int32.toUInt32 31)).toInt32) hx hb dX0_insert_57 rfl ?_
            refine lv_istore (lv' := [(9, .int ((((((L.1 6)) + ((L.1 7)))).toUInt32 >>> ((1 : Int32).toUInt32 &&& Int32.toUInt32 31)).toInt32)), (0, .ref (a 14)), (1, .ref (z 20)), (2, .int (L.1 2)), (3, .int (L.1 3)), (4, .int (L.1 4)), (5, .int (L.1 5)), (6, .int (L.1 6)), (7, .int (L.1 7)), (8, .int (L.1 8))]) hx hb dX0_insert_58 hl (by decide) rfl (fun ls hl => ?_)
            refine lv_aload_n hx hb dX0_insert_60 rfl (lv_at hl 1 rfl) ?_
            refine hg_14_0 hx hb hts in_y_X0_insert__z20_X0 hown hK hP (hts _ (List.mem_cons_of_mem _ (List.mem_append_left _ (List.mem_append_left _ (List.mem_of_getElem? (i := 0) rfl))))) dX0_insert_61 ?_
            refine lv_aload_n hx hb dX0_insert_64 rfl (lv_at hl 2 rfl) ?_
            refine lv_iload hx hb dX0_insert_65 (lv_at hl 0 rfl) ?_
            obtain ⟨q3, h⟩ := kb_ite1 h
            refine hl_20 hx hb hK hP q3 dX0_insert_67 ?_
            refine lv_iload hx hb dX0_insert_68 (lv_at hl 6 rfl) ?_
            obtain ⟨r4, hc4, h⟩ := oc_ex h
            refine kc_i (va_runV (As := [.int (σ.2.2.1 20 (((((((L.1 6)) + ((L.1 7)))).toUInt32 >>> ((1 : Int32).toUInt32 &&& Int32.toUInt32 31)).toInt32)).toNatClampNeg), .int (L.1 5)]) (rest := []) ⟨hx, hb, hml, hown, hts⟩ (c_y_X1_compare l dC dI cy a z k (lI (lI lZ 1 ((σ.2.2.1 20 (((((((L.1 6)) + ((L.1 7)))).toUInt32 >>> ((1 : Int32).toUInt32 &&& Int32.toUInt32 31)).toInt32)).toNatClampNeg))) 2 ((L.1 5))) σ r4 hc4 H.size) (cwV 2 hts g_y_X0_insert__z20_X1_compare_V91 rfl rfl rfl hd_y_X1_compare ⟨Nat.le_of_ble_eq_true rfl, Nat.le_of_ble_eq_true rfl⟩) ⟨nb_blind, va_recv hK hP (ci := 1) (q0 := 0) rfl rfl, (kb_pre hK hG hP hD)⟩ rfl rfl hl.1 rfl (lv_room (Nat.le_of_ble_eq_true rfl)) dX0_insert_70 ⟨Nat.le_refl _, Nat.le_refl _⟩) hA hP hD hS (fun H locs hP hD hS => ?_)
            refine lv_if_ge (tgt := 85) hx hb dX0_insert_73 (by decide) (fun c5 => ?_) (fun c5 => ?_)
            · rw [if_pos c5] at h
              exact ih.2.2.2.2.1 (lI L 9 (((((((L.1 6)) + ((L.1 7)))).toUInt32 >>> ((1 : Int32).toUInt32 &&& Int32.toUInt32 31)).toInt32))) r4.2 r h H locs ls hP hD hS (lv_sub hl [1, 2, 3, 4, 5, 6, 7, 9, 0] rfl)
            · rw [if_neg c5] at h
              refine lv_iload hx hb dX0_insert_76 (lv_at hl 0 rfl) ?_
              refine lv_iconst (v := 1) hx hb dX0_insert_78 (by decide) ?_
              refine lv_iadd hx hb dX0_insert_79 ?_
              refine lv_istore (lv' := [(6, .int ((((((((L.1 6)) + ((L.1 7)))).toUInt32 >>> ((1 : Int32).toUInt32 &&& Int32.toUInt32 31)).toInt32)) + 1)), (9, .int ((((((L.1 6)) + ((L.1 7)))).toUInt32 >>> ((1 : Int32).toUInt32 &&& Int32.toUInt32 31)).toInt32)), (0, .ref (a 14)), (1, .ref (z 20)), (2, .int (L.1 2)), (3, .int (L.1 3)), (4, .int (L.1 4)), (5, .int (L.1 5)), (7, .int (L.1 7)), (8, .int (L.1 8))]) hx hb dX0_insert_80 hl (by decide) rfl (fun ls hl => ?_)
              refine lv_goto (tgt := 89) hx hb dX0_insert_82 (by decide) ?_
              exact ih.2.2.2.2.2.1 (lI L 6 (((((((((L.1 6)) + ((L.1 7)))).toUInt32 >>> ((1 : Int32).toUInt32 &&& Int32.toUInt32 31)).toInt32)) + 1))) r4.2 r h H locs ls hP hD hS (lv_sub hl [2, 3, 4, 5, 6, 7, 0, 8, 9] rfl)
      · intro L σ r h H locs ls hP hD hS hl
        rw [y_X0_insert__z20] at h
        refine lv_iload hx hb dX0_insert_95 (lv_at hl 6 rfl) ?_
        refine lv_iload_n hx hb dX0_insert_97 rfl (lv_at hl 2 rfl) ?_
        refine lv_iload_n hx hb dX0_insert_98 rfl (lv_at hl 3 rfl) ?_
        refine lv_iadd hx hb dX0_insert_99 ?_
        refine lv_icmp_ge (tgt := 121) hx hb dX0_insert_100 (by decide) (fun c1 => ?_) (fun c1 => ?_)
        · rw [if_pos c1] at h
          exact ih.2.2.2.2.2.2 L σ r h H locs ls hP hD hS (lv_sub hl [1, 4, 5, 6] rfl)
        · rw [if_neg c1] at h
          refine lv_aload_n hx hb dX0_insert_103 rfl (lv_at hl 0 rfl) ?_
          refine hg_14_0 hx hb hts in_y_X0_insert__z20_X0 hown hK hP (hts _ (List.mem_cons_of_mem _ (List.mem_append_left _ (List.mem_append_left _ (List.mem_of_getElem? (i := 0) rfl))))) dX0_insert_104 ?_
          refine lv_aload_n hx hb dX0_insert_107 rfl (lv_at hl 1 rfl) ?_
          refine lv_iload hx hb dX0_insert_108 (lv_at hl 6 rfl) ?_
          obtain ⟨q2, h⟩ := kb_ite1 h
          refine hl_20 hx hb hK hP q2 dX0_insert_110 ?_
          refine lv_iload hx hb dX0_insert_111 (lv_at hl 5 rfl) ?_
          obtain ⟨r3, hc3, h⟩ := oc_ex h
          refine kc_i (va_runV (As := [.int (σ.2.2.1 20 ((L.1 6)).toNatClampNeg), .int (L.1 5)]) (rest := []) ⟨hx, hb, hml, hown, hts⟩ (c_y_X1_same l dC dI cy a z k (lI (lI lZ 1 ((σ.2.2.1 20 ((L.1 6)).toNatClampNeg))) 2 ((L.1 5))) σ r3 hc3 H.size) (cwV 2 hts g_y_X0_insert__z20_X1_same_V60 rfl rfl rfl hd_y_X1_same ⟨Nat.le_of_ble_eq_true rfl, Nat.le_of_ble_eq_true rfl⟩) ⟨nb_blind, va_recv hK hP (ci := 1) (q0 := 0) rfl rfl, (kb_pre hK hG hP hD)⟩ rfl rfl hl.1 rfl (lv_room (Nat.le_of_ble_eq_true rfl)) dX0_insert_113 ⟨Nat.le_refl _, Nat.le_refl _⟩) hA hP hD hS (fun H locs hP hD hS => ?_)
          refine lv_if_eq (tgt := 121) hx hb dX0_insert_116 (by decide) (fun c4 => ?_) (fun c4 => ?_)
          · rw [if_pos c4] at h
            exact ih.2.2.2.2.2.2 L r3.2 r h H locs ls hP hD hS (lv_sub hl [1, 4, 5, 6] rfl)
          · rw [if_neg c4] at h
            refine lv_iconst (v := 0) hx hb dX0_insert_119 (by decide) ?_
            obtain rfl := Option.some.inj h
            exact W.zret (v := 0) hx hb hr rfl (fun t ht hW => ⟨⟨0, (), rfl, rfl, by rw [ht]; exact hP, va_K.moved hW.alike hK, hD⟩, hS.F ht⟩) hS.2.2 dX0_insert_120
      · intro L σ r h H locs ls hP hD hS hl
        rw [y_X0_insert__z20] at h
        refine lv_iload hx hb dX0_insert_85 (lv_at hl 8 rfl) ?_
        refine lv_istore (lv' := [(7, .int (L.1 9)), (0, .ref (a 14)), (1, .ref (z 20)), (2, .int (L.1 2)), (3, .int (L.1 3)), (4, .int (L.1 4)), (5, .int (L.1 5)), (6, .int (L.1 6)), (8, .int (L.1 8)), (9, .int (L.1 9))]) hx hb dX0_insert_87 hl (by decide) rfl (fun ls hl => ?_)
        exact ih.2.2.2.2.2.1 (lI L 7 ((L.1 9))) σ r h H locs ls hP hD hS (lv_sub hl [1, 2, 3, 4, 5, 6, 7, 0, 8] rfl)
      · intro L σ r h H locs ls hP hD hS hl
        rw [y_X0_insert__z20] at h
        refine lv_iinc (v := ((L.1 8)) + 1) (lv' := [(8, .int (((L.1 8)) + 1)), (0, .ref (a 14)), (1, .ref (z 20)), (2, .int (L.1 2)), (3, .int (L.1 3)), (4, .int (L.1 4)), (5, .int (L.1 5)), (6, .int (L.1 6)), (7, .int (L.1 7))]) hx hb dX0_insert_89 hl (k := 8) rfl rfl (by decide) rfl (fun ls hl => ?_)
        refine lv_goto (tgt := 37) hx hb dX0_insert_92 (by decide) ?_
        exact ih.2.2.1 (lI L 8 ((((L.1 8)) + 1))) σ r h H locs ls hP hD hS (lv_sub hl [1, 2, 3, 4, 5, 6, 7, 8, 0] rfl)
      · intro L σ r h H locs ls hP hD hS hl
        rw [y_X0_insert__z20] at h
        refine lv_aload_n hx hb dX0_insert_121 rfl (lv_at hl 0 rfl) ?_
        refine lv_iload hx hb dX0_insert_122 (lv_at hl 3 rfl) ?_
        refine lv_aload_n hx hb dX0_insert_124 rfl (lv_at hl 0 rfl) ?_
        refine lv_iload hx hb dX0_insert_125 (lv_at hl 3 rfl) ?_
        refine lv_iconst (v := 1) hx hb dX0_insert_127 (by decide) ?_
        refine lv_iadd hx hb dX0_insert_128 ?_
        refine lv_iload hx hb dX0_insert_129 (lv_at hl 1 rfl) ?_
        refine lv_iload hx hb dX0_insert_131 (lv_at hl 3 rfl) ?_
        refine lv_isub hx hb dX0_insert_133 ?_
        obtain ⟨q1, h⟩ := kb_ite1 h
        refine va_copyi (ty := .int) hx hb (hml.trans hl.1.symm) hown (hts _ (List.mem_cons_of_mem _ (List.mem_append_left _ (List.mem_append_left _ (List.mem_of_getElem? (i := 8) rfl))))) (hts _ (List.mem_cons_of_mem _ (List.mem_append_left _ (List.mem_append_left _ (List.mem_of_getElem? (i := 9) rfl))))) (hts _ (List.mem_cons_of_mem _ (List.mem_append_left _ (List.mem_append_left _ (List.mem_of_getElem? (i := 10) rfl))))) (hts _ (List.mem_cons_of_mem _ (List.mem_append_left _ (List.mem_append_left _ (List.mem_of_getElem? (i := 11) rfl))))) hK hP hD hS 20 20 1 1 rfl rfl rfl rfl rfl q1.1 q1.2.1 q1.2.2.1 q1.2.2.2.1 q1.2.2.2.2 (fun _ _ => rfl) (Nat.le_of_ble_eq_true rfl) (Nat.le_of_ble_eq_true rfl) dX0_insert_134 (fun H locs hP hD hS => ?_)
        have hP : va_P (dC, dI) nCl (vC cy a z (uF σ 20 (va_cpy (σ.2.2.1 20) (σ.2.2.1 20) ((L.1 6)).toNatClampNeg ((((L.1 6)) + 1)).toNatClampNeg ((((L.1 4)) - ((L.1 6)))).toNatClampNeg))) H := hP
        have hD : va_D A (vC cy a z (uF σ 20 (va_cpy (σ.2.2.1 20) (σ.2.2.1 20) ((L.1 6)).toNatClampNeg ((((L.1 6)) + 1)).toNatClampNeg ((((L.1 4)) - ((L.1 6)))).toNatClampNeg))) := hD
        refine lv_aload_n hx hb dX0_insert_137 rfl (lv_at hl 0 rfl) ?_
        refine lv_iload hx hb dX0_insert_138 (lv_at hl 3 rfl) ?_
        refine lv_iload hx hb dX0_insert_140 (lv_at hl 2 rfl) ?_
        obtain ⟨q2, h⟩ := kb_ite1 h
        refine hs_20 hx hb hK hP hD hS q2 dX0_insert_142 (fun H locs hP hD hS => ?_)
        refine lv_iconst (v := 1) hx hb dX0_insert_143 (by decide) ?_
        obtain rfl := Option.some.inj h
        exact W.zret (v := 1) hx hb hr rfl (fun t ht hW => ⟨⟨1, (), rfl, rfl, by rw [ht]; exact hP, va_K.moved hW.alike hK, hD⟩, hS.F ht⟩) hS.2.2 dX0_insert_144
  exact (blk k0).1 L0 σ0 r0 h0 s.heap [] ls hP hD hS hl
/-! X1_makeRow__z20 -/
def y_X1_makeRow__z20 : Nat → Nat → LV → CS → Option (Int32 × CS)
  | 0, _, _, _ => none
  | k + 1, 0, L, σ => if 0 < ((L.1 4)) then (y_X1_makeRow__z20 k 1 L σ) else (if ((L.1 1)) = 6 then (y_X1_makeRow__z20 k 3 (lI L 100 2) σ) else (y_X1_makeRow__z20 k 2 L σ))
  | k + 1, 1, L, σ => if ((L.1 1)) = 6 then (y_X1_makeRow__z20 k 5 (lI (lI (lI L 5 1) 6 0) 100 1) σ) else (y_X1_makeRow__z20 k 4 (lI (lI L 5 1) 6 0) σ)
  | k + 1, 2, L, σ => y_X1_makeRow__z20 k 3 (lI L 100 1) σ
  | k + 1, 3, L, σ => some ((L.1 100), σ)
  | k + 1, 4, L, σ => y_X1_makeRow__z20 k 5 (lI L 100 0) σ
  | k + 1, 5, L, σ => y_X1_makeRow__z20 k 6 (lI (lI L 7 ((L.1 100))) 8 ((L.1 3))) σ
  | k + 1, 6, L, σ => if ((((L.1 3)) + ((L.1 4)))) ≤ ((L.1 8)) then (y_X1_makeRow__z20 k 7 L σ) else (if 1000 < ((L.1 5)) then (y_X1_makeRow__z20 k 7 L σ) else (if ¬ (((L.1 8)) < 0 ∨ (sN σ 20) ≤ ((L.1 8)).toNatClampNeg) then (if ((σ.2.2.1 20 ((L.1 8)).toNatClampNeg)) < 0 then (y_X1_makeRow__z20 k 8 (lI L 9 ((σ.2.2.1 20 ((L.1 8)).toNatClampNeg))) σ) else (if ¬ (((σ.2.2.1 20 ((L.1 8)).toNatClampNeg)) < 0 ∨ (sN σ 3) ≤ ((σ.2.2.1 20 ((L.1 8)).toNatClampNeg)).toNatClampNeg) then (if ((L.1 6)) ≤ (((((σ.2.2.1 3 ((σ.2.2.1 20 ((L.1 8)).toNatClampNeg)).toNatClampNeg)).toUInt32 >>> ((26 : Int32).toUInt32 &&& Int32.toUInt32 31)).toInt32)) then (y_X1_makeRow__z20 k 9 (lI (lI L 5 ((((L.1 5)) + (((((((σ.2.2.1 3 ((σ.2.2.1 20 ((L.1 8)).toNatClampNeg)).toNatClampNeg)).toUInt32 >>> ((16 : Int32).toUInt32 &&& Int32.toUInt32 31)).toInt32)) &&& 1023))))) 10 ((σ.2.2.1 3 ((σ.2.2.1 20 ((L.1 8)).toNatClampNeg)).toNatClampNeg))) σ) else (y_X1_makeRow__z20 k 10 (lI (lI (lI L 5 ((((L.1 5)) + (((((((σ.2.2.1 3 ((σ.2.2.1 20 ((L.1 8)).toNatClampNeg)).toNatClampNeg)).toUInt32 >>> ((16 : Int32).toUInt32 &&& Int32.toUInt32 31)).toInt32)) &&& 1023))))) 10 ((σ.2.2.1 3 ((σ.2.2.1 20 ((L.1 8)).toNatClampNeg)).toNatClampNeg))) 100 ((L.1 6))) σ)) else none)) else none))
  | k + 1, 7, L, σ => if 1000 < ((L.1 5)) then (y_X1_makeRow__z20 k 11 L σ) else (if ((L.1 6)) < 30 then (y_X1_makeRow__z20 k 12 L σ) else (y_X1_makeRow__z20 k 11 L σ))
  | k + 1, 8, L, σ => if ((((L.1 9)) &&& ((-268435456)))) = ((-1073741824)) then (y_X1_makeRow__z20 k 13 (lI L 100 ((L.1 5))) σ) else (if ((((L.1 9)) &&& ((-268435456)))) = ((-1610612736)) then (if ((L.1 9)) = ((-1610612736)) then (y_X1_makeRow__z20 k 14 (lI L 100 ((L.1 5))) σ) else (y_X1_makeRow__z20 k 13 (lI L 100 ((L.1 5))) σ)) else (y_X1_makeRow__z20 k 14 (lI L 100 ((L.1 5))) σ))
  | k + 1, 9, L, σ => y_X1_makeRow__z20 k 10 (lI L 100 (((((L.1 10)).toUInt32 >>> ((26 : Int32).toUInt32 &&& Int32.toUInt32 31)).toInt32))) σ
  | k + 1, 10, L, σ => if ((L.1 7)) = 0 then (y_X1_makeRow__z20 k 15 (lI L 6 ((L.1 100))) σ) else (if ((((L.1 10)) &&& 65535)) = 37 then (y_X1_makeRow__z20 k 16 (lI (lI L 6 ((L.1 100))) 100 1) σ) else (y_X1_makeRow__z20 k 15 (lI L 6 ((L.1 100))) σ))
  | k + 1, 11, L, σ => some ((-268435451), σ)
  | k + 1, 12, L, σ => if ((1 + ((L.1 4)))) ≤ ((((Int32.ofNat (sN σ 3))) - ((σ.1 1)))) then (y_X1_makeRow__z20 k 17 (lI L 8 ((σ.1 1))) σ) else (some ((-268435450), σ))
  | k + 1, 13, L, σ => y_X1_makeRow__z20 k 18 (lI (lI L 100 2) 101 ((L.1 100))) σ
  | k + 1, 14, L, σ => y_X1_makeRow__z20 k 18 (lI (lI L 100 1) 101 ((L.1 100))) σ
  | k + 1, 15, L, σ => y_X1_makeRow__z20 k 16 (lI L 100 0) σ
  | k + 1, 16, L, σ => y_X1_makeRow__z20 k 19 (lI L 7 ((L.1 100))) σ
  | k + 1, 17, L, σ => if ((L.1 7)) = 0 then (y_X1_makeRow__z20 k 20 (lI (lI L 100 ((L.1 1))) 101 ((L.1 8))) (uI σ 1 ((((((L.1 8)) + 1)) + ((L.1 4)))))) else (y_X1_makeRow__z20 k 21 (lI (lI (lI L 100 8) 101 ((L.1 1))) 102 ((L.1 8))) (uI σ 1 ((((((L.1 8)) + 1)) + ((L.1 4))))))
  | k + 1, 18, L, σ => y_X1_makeRow__z20 k 19 (lI (lI L 5 ((((L.1 101)) + ((L.1 100))))) 7 0) σ
  | k + 1, 19, L, σ => y_X1_makeRow__z20 k 6 (lI L 8 ((((L.1 8)) + 1))) σ
  | k + 1, 20, L, σ => y_X1_makeRow__z20 k 21 (lI (lI (lI L 100 0) 101 ((L.1 100))) 102 ((L.1 101))) σ
  | k + 1, 21, L, σ => if ¬ (((L.1 102)) < 0 ∨ (sN σ 3) ≤ ((L.1 102)).toNatClampNeg) then (if ¬ ((L.1 3)) < 0 ∧ ¬ ((((L.1 8)) + 1)) < 0 ∧ ¬ ((L.1 4)) < 0 ∧ ((L.1 3)).toNatClampNeg + ((L.1 4)).toNatClampNeg ≤ (sN (uA σ 3 ((L.1 102)).toNatClampNeg ((((((((((L.1 101)) ||| ((L.1 100)))) ||| ((((L.1 4)) <<< ((4 : Int32) &&& 31))))) ||| ((((L.1 5)) <<< ((16 : Int32) &&& 31))))) ||| ((((((L.1 6)) + 1)) <<< ((26 : Int32) &&& 31)))))) 20) ∧ ((((L.1 8)) + 1)).toNatClampNeg + ((L.1 4)).toNatClampNeg ≤ (sN (uA σ 3 ((L.1 102)).toNatClampNeg ((((((((((L.1 101)) ||| ((L.1 100)))) ||| ((((L.1 4)) <<< ((4 : Int32) &&& 31))))) ||| ((((L.1 5)) <<< ((16 : Int32) &&& 31))))) ||| ((((((L.1 6)) + 1)) <<< ((26 : Int32) &&& 31)))))) 3) then (some ((L.1 8), (uF (uA σ 3 ((L.1 102)).toNatClampNeg ((((((((((L.1 101)) ||| ((L.1 100)))) ||| ((((L.1 4)) <<< ((4 : Int32) &&& 31))))) ||| ((((L.1 5)) <<< ((16 : Int32) &&& 31))))) ||| ((((((L.1 6)) + 1)) <<< ((26 : Int32) &&& 31)))))) 3 (va_cpy ((uA σ 3 ((L.1 102)).toNatClampNeg ((((((((((L.1 101)) ||| ((L.1 100)))) ||| ((((L.1 4)) <<< ((4 : Int32) &&& 31))))) ||| ((((L.1 5)) <<< ((16 : Int32) &&& 31))))) ||| ((((((L.1 6)) + 1)) <<< ((26 : Int32) &&& 31)))))).2.2.1 20) ((uA σ 3 ((L.1 102)).toNatClampNeg ((((((((((L.1 101)) ||| ((L.1 100)))) ||| ((((L.1 4)) <<< ((4 : Int32) &&& 31))))) ||| ((((L.1 5)) <<< ((16 : Int32) &&& 31))))) ||| ((((((L.1 6)) + 1)) <<< ((26 : Int32) &&& 31)))))).2.2.1 3) ((L.1 3)).toNatClampNeg ((((L.1 8)) + 1)).toNatClampNeg ((L.1 4)).toNatClampNeg)))) else none) else none
  | _ + 1, _ + 22, _, _ => none
def o_y_X1_makeRow__z20 : List Cond := [.fieldLink RX1 11 "SetHouse$Heap" "mem" "[I", .constant RX1 33 (-268435456), .constant RX1 34 (-1073741824), .constant RX1 35 (-1610612736), .constant RX1 64 (65535), .constant RX1 52 (-268435451), .fieldLink RX1 15 "SetHouse$Heap" "top" "I", .constant RX1 53 (-268435450), .methodLink RX1 54 arraycopyName, .native arraycopyName, .static arraycopyName, .initialized "java/lang/System"]
theorem o_y_X1_makeRow__z20_good : o_y_X1_makeRow__z20.all goodWord = true := by decide +kernel
def p_y_X1_makeRow__z20 : List Cond := o_y_X1_makeRow__z20 ++ []
theorem p_y_X1_makeRow__z20_good : p_y_X1_makeRow__z20.all goodWord = true := nb_all2 o_y_X1_makeRow__z20_good rfl
def w_y_X1_makeRow__z20 : List Cond := .code yX1_makeRow cX1_makeRow 11 (some .int) :: (p_y_X1_makeRow__z20 ++ fC)
theorem w_y_X1_makeRow__z20_good : w_y_X1_makeRow__z20.all goodWord = true := nb_allc (by decide +kernel) (nb_all2 p_y_X1_makeRow__z20_good fC_good)
theorem in_y_X1_makeRow__z20_X1 : ∀ w ∈ wsX10, w ∈ w_y_X1_makeRow__z20 := fun _ h => List.mem_cons_of_mem _ (List.mem_append_right _ (List.mem_append_right _ (List.mem_append_left _ h)))
theorem hd_y_X1_makeRow__z20 : yX1_makeRow.cls = RX1 ∧ yX1_makeRow.cls ≠ "java/lang/invoke/MethodHandle" ∧ yX1_makeRow.cls ≠ "java/lang/invoke/VarHandle" ∧ (parseMethodDescriptor yX1_makeRow.desc).map (fun d => d.parameters.length) = some 4 := by decide +kernel
set_option maxHeartbeats 40000000 in
set_option maxRecDepth 100000 in
theorem c_y_X1_makeRow__z20 (l : Launch) (dC : Nat → ClassId) (dI : Nat → Nat → Nat) (cy : Nat → ClassId) (a z : Nat → Nat) (k0 : Nat) (L0 : LV) (σ0 : CS) (r0 : Int32 × CS) (h0 : y_X1_makeRow__z20 k0 0 L0 σ0 = some r0) (sz : Nat) : Met l yX1_makeRow w_y_X1_makeRow__z20 ({ frames := 1, cells := 0, slots := 0, locals := 60 }) (va_Pc [.ref (a 0), .int (L0.1 1), .ref (z 20), .int (L0.1 3), .int (L0.1 4)] (nIn (dC, dI) cy sz (vC cy a z σ0))) (va_Qi (fun (x : Int32) (_ : Unit) => x = r0.1) (fun _ t => nOut (dC, dI) cy (va_A (vC cy a z σ0) sz) (vC cy a z r0.2) t) (va_A (vC cy a z σ0) sz)) 0 0 (va_A (vC cy a z σ0) sz) := by
  refine Met.ofW (cc := cX1_makeRow) (maxL := 11) (ret := (some .int)) (by decide) rfl ?_
  intro p e s m args below meth c s₁ B hml hv
  obtain ⟨rfl, hsz, hP, hK, hD0, hG⟩ := hv
  have hx := B.exec
  have hb := B.bytes
  have hr := B.returns
  have hts := atoms_spec (ws := w_y_X1_makeRow__z20) B.pre
  have hown : s.vm.findClass RX1 = some m.cls := findClass_of_methodNamed B.named
  have hlocks := B.notSynchronized
  subst hsz
  have hD := hD0.self (sz := s.heap.size)
  generalize hAe : va_A (vC cy a z σ0) s.heap.size = A at hD ⊢
  have hA : ∀ q : Nat, s.heap.size ≤ q → A q := fun q h => by rw [← hAe]; exact Or.inr h
  have hS : va_S A s.heap s.heap [] := va_S.rf
  have hl := lv_entry ([.ref (a 0), .int (L0.1 1), .ref (z 20), .int (L0.1 3), .int (L0.1 4)]) (n := 11) (Nat.le_of_ble_eq_true rfl)
  rw [lg_entry_eq]
  generalize (lg_sl ([.ref (a 0), .int (L0.1 1), .ref (z 20), .int (L0.1 3), .int (L0.1 4)]) ++ List.replicate (11 - (lg_sl ([.ref (a 0), .int (L0.1 1), .ref (z 20), .int (L0.1 3), .int (L0.1 4)])).length) Slot.unset).toArray = ls at hl ⊢
  have hl : lv_has ls 11 [(0, .ref (a 0)), (1, .int (L0.1 1)), (2, .ref (z 20)), (3, .int (L0.1 3)), (4, .int (L0.1 4))] := hl
  have blk : ∀ k : Nat, (bC p l e (headSpec w_y_X1_makeRow__z20 ({ frames := 1, cells := 0, slots := 0, locals := 60 })).room s m #[.ref (a 0), .int (L0.1 1), .ref (z 20), .int (L0.1 3), .int (L0.1 4)] below meth c dC dI cy a z A (kI dC dI cy a z A below #[.ref (a 0), .int (L0.1 1), .ref (z 20), .int (L0.1 3), .int (L0.1 4)] s) 11 (y_X1_makeRow__z20 k 0) (fun L => [(0, .ref (a 0)), (1, .int (L.1 1)), (2, .ref (z 20)), (3, .int (L.1 3)), (4, .int (L.1 4))]) 0 (fun L => [])) ∧ (bC p l e (headSpec w_y_X1_makeRow__z20 ({ frames := 1, cells := 0, slots := 0, locals := 60 })).room s m #[.ref (a 0), .int (L0.1 1), .ref (z 20), .int (L0.1 3), .int (L0.1 4)] below meth c dC dI cy a z A (kI dC dI cy a z A below #[.ref (a 0), .int (L0.1 1), .ref (z 20), .int (L0.1 3), .int (L0.1 4)] s) 11 (y_X1_makeRow__z20 k 1) (fun L => [(0, .ref (a 0)), (1, .int (L.1 1)), (2, .ref (z 20)), (3, .int (L.1 3)), (4, .int (L.1 4))]) 17 (fun L => [])) ∧ (bC p l e (headSpec w_y_X1_makeRow__z20 ({ frames := 1, cells := 0, slots := 0, locals := 60 })).room s m #[.ref (a 0), .int (L0.1 1), .ref (z 20), .int (L0.1 3), .int (L0.1 4)] below meth c dC dI cy a z A (kI dC dI cy a z A below #[.ref (a 0), .int (L0.1 1), .ref (z 20), .int (L0.1 3), .int (L0.1 4)] s) 11 (y_X1_makeRow__z20 k 2) (fun L => []) 15 (fun L => [])) ∧ (bC p l e (headSpec w_y_X1_makeRow__z20 ({ frames := 1, cells := 0, slots := 0, locals := 60 })).room s m #[.ref (a 0), .int (L0.1 1), .ref (z 20), .int (L0.1 3), .int (L0.1 4)] below meth c dC dI cy a z A (kI dC dI cy a z A below #[.ref (a 0), .int (L0.1 1), .ref (z 20), .int (L0.1 3), .int (L0.1 4)] s) 11 (y_X1_makeRow__z20 k 3) (fun L => []) 16 (fun L => [.int (L.1 100)])) ∧ (bC p l e (headSpec w_y_X1_makeRow__z20 ({ frames := 1, cells := 0, slots := 0, locals := 60 })).room s m #[.ref (a 0), .int (L0.1 1), .ref (z 20), .int (L0.1 3), .int (L0.1 4)] below meth c dC dI cy a z A (kI dC dI cy a z A below #[.ref (a 0), .int (L0.1 1), .ref (z 20), .int (L0.1 3), .int (L0.1 4)] s) 11 (y_X1_makeRow__z20 k 4) (fun L => [(0, .ref (a 0)), (1, .int (L.1 1)), (2, .ref (z 20)), (3, .int (L.1 3)), (4, .int (L.1 4)), (5, .int (L.1 5)), (6, .int (L.1 6))]) 33 (fun L => [])) ∧ (bC p l e (headSpec w_y_X1_makeRow__z20 ({ frames := 1, cells := 0, slots := 0, locals := 60 })).room s m #[.ref (a 0), .int (L0.1 1), .ref (z 20), .int (L0.1 3), .int (L0.1 4)] below meth c dC dI cy a z A (kI dC dI cy a z A below #[.ref (a 0), .int (L0.1 1), .ref (z 20), .int (L0.1 3), .int (L0.1 4)] s) 11 (y_X1_makeRow__z20 k 5) (fun L => [(0, .ref (a 0)), (1, .int (L.1 1)), (2, .ref (z 20)), (3, .int (L.1 3)), (4, .int (L.1 4)), (5, .int (L.1 5)), (6, .int (L.1 6))]) 34 (fun L => [.int (L.1 100)])) ∧ (bC p l e (headSpec w_y_X1_makeRow__z20 ({ frames := 1, cells := 0, slots := 0, locals := 60 })).room s m #[.ref (a 0), .int (L0.1 1), .ref (z 20), .int (L0.1 3), .int (L0.1 4)] below meth c dC dI cy a z A (kI dC dI cy a z A below #[.ref (a 0), .int (L0.1 1), .ref (z 20), .int (L0.1 3), .int (L0.1 4)] s) 11 (y_X1_makeRow__z20 k 6) (fun L => [(0, .ref (a 0)), (1, .int (L.1 1)), (2, .ref (z 20)), (3, .int (L.1 3)), (4, .int (L.1 4)), (5, .int (L.1 5)), (6, .int (L.1 6)), (7, .int (L.1 7)), (8, .int (L.1 8))]) 39 (fun L => [])) ∧ (bC p l e (headSpec w_y_X1_makeRow__z20 ({ frames := 1, cells := 0, slots := 0, locals := 60 })).room s m #[.ref (a 0), .int (L0.1 1), .ref (z 20), .int (L0.1 3), .int (L0.1 4)] below meth c dC dI cy a z A (kI dC dI cy a z A below #[.ref (a 0), .int (L0.1 1), .ref (z 20), .int (L0.1 3), .int (L0.1 4)] s) 11 (y_X1_makeRow__z20 k 7) (fun L => [(0, .ref (a 0)), (1, .int (L.1 1)), (2, .ref (z 20)), (3, .int (L.1 3)), (4, .int (L.1 4)), (5, .int (L.1 5)), (6, .int (L.1 6)), (7, .int (L.1 7))]) 184 (fun L => [])) ∧ (bC p l e (headSpec w_y_X1_makeRow__z20 ({ frames := 1, cells := 0, slots := 0, locals := 60 })).room s m #[.ref (a 0), .int (L0.1 1), .ref (z 20), .int (L0.1 3), .int (L0.1 4)] below meth c dC dI cy a z A (kI dC dI cy a z A below #[.ref (a 0), .int (L0.1 1), .ref (z 20), .int (L0.1 3), .int (L0.1 4)] s) 11 (y_X1_makeRow__z20 k 8) (fun L => [(0, .ref (a 0)), (1, .int (L.1 1)), (2, .ref (z 20)), (3, .int (L.1 3)), (4, .int (L.1 4)), (5, .int (L.1 5)), (6, .int (L.1 6)), (8, .int (L.1 8)), (9, .int (L.1 9))]) 137 (fun L => [])) ∧ (bC p l e (headSpec w_y_X1_makeRow__z20 ({ frames := 1, cells := 0, slots := 0, locals := 60 })).room s m #[.ref (a 0), .int (L0.1 1), .ref (z 20), .int (L0.1 3), .int (L0.1 4)] below meth c dC dI cy a z A (kI dC dI cy a z A below #[.ref (a 0), .int (L0.1 1), .ref (z 20), .int (L0.1 3), .int (L0.1 4)] s) 11 (y_X1_makeRow__z20 k 9) (fun L => [(0, .ref (a 0)), (1, .int (L.1 1)), (2, .ref (z 20)), (3, .int (L.1 3)), (4, .int (L.1 4)), (5, .int (L.1 5)), (7, .int (L.1 7)), (8, .int (L.1 8)), (10, .int (L.1 10))]) 105 (fun L => [])) ∧ (bC p l e (headSpec w_y_X1_makeRow__z20 ({ frames := 1, cells := 0, slots := 0, locals := 60 })).room s m #[.ref (a 0), .int (L0.1 1), .ref (z 20), .int (L0.1 3), .int (L0.1 4)] below meth c dC dI cy a z A (kI dC dI cy a z A below #[.ref (a 0), .int (L0.1 1), .ref (z 20), .int (L0.1 3), .int (L0.1 4)] s) 11 (y_X1_makeRow__z20 k 10) (fun L => [(0, .ref (a 0)), (1, .int (L.1 1)), (2, .ref (z 20)), (3, .int (L.1 3)), (4, .int (L.1 4)), (5, .int (L.1 5)), (7, .int (L.1 7)), (8, .int (L.1 8)), (10, .int (L.1 10))]) 110 (fun L => [.int (L.1 100)])) ∧ (bC p l e (headSpec w_y_X1_makeRow__z20 ({ frames := 1, cells := 0, slots := 0, locals := 60 })).room s m #[.ref (a 0), .int (L0.1 1), .ref (z 20), .int (L0.1 3), .int (L0.1 4)] below meth c dC dI cy a z A (kI dC dI cy a z A below #[.ref (a 0), .int (L0.1 1), .ref (z 20), .int (L0.1 3), .int (L0.1 4)] s) 11 (y_X1_makeRow__z20 k 11) (fun L => []) 199 (fun L => [])) ∧ (bC p l e (headSpec w_y_X1_makeRow__z20 ({ frames := 1, cells := 0, slots := 0, locals := 60 })).room s m #[.ref (a 0), .int (L0.1 1), .ref (z 20), .int (L0.1 3), .int (L0.1 4)] below meth c dC dI cy a z A (kI dC dI cy a z A below #[.ref (a 0), .int (L0.1 1), .ref (z 20), .int (L0.1 3), .int (L0.1 4)] s) 11 (y_X1_makeRow__z20 k 12) (fun L => [(0, .ref (a 0)), (1, .int (L.1 1)), (2, .ref (z 20)), (3, .int (L.1 3)), (4, .int (L.1 4)), (5, .int (L.1 5)), (6, .int (L.1 6)), (7, .int (L.1 7))]) 202 (fun L => [])) ∧ (bC p l e (headSpec w_y_X1_makeRow__z20 ({ frames := 1, cells := 0, slots := 0, locals := 60 })).room s m #[.ref (a 0), .int (L0.1 1), .ref (z 20), .int (L0.1 3), .int (L0.1 4)] below meth c dC dI cy a z A (kI dC dI cy a z A below #[.ref (a 0), .int (L0.1 1), .ref (z 20), .int (L0.1 3), .int (L0.1 4)] s) 11 (y_X1_makeRow__z20 k 13) (fun L => [(0, .ref (a 0)), (1, .int (L.1 1)), (2, .ref (z 20)), (3, .int (L.1 3)), (4, .int (L.1 4)), (6, .int (L.1 6)), (8, .int (L.1 8))]) 167 (fun L => [.int (L.1 100)])) ∧ (bC p l e (headSpec w_y_X1_makeRow__z20 ({ frames := 1, cells := 0, slots := 0, locals := 60 })).room s m #[.ref (a 0), .int (L0.1 1), .ref (z 20), .int (L0.1 3), .int (L0.1 4)] below meth c dC dI cy a z A (kI dC dI cy a z A below #[.ref (a 0), .int (L0.1 1), .ref (z 20), .int (L0.1 3), .int (L0.1 4)] s) 11 (y_X1_makeRow__z20 k 14) (fun L => [(0, .ref (a 0)), (1, .int (L.1 1)), (2, .ref (z 20)), (3, .int (L.1 3)), (4, .int (L.1 4)), (6, .int (L.1 6)), (8, .int (L.1 8))]) 171 (fun L => [.int (L.1 100)])) ∧ (bC p l e (headSpec w_y_X1_makeRow__z20 ({ frames := 1, cells := 0, slots := 0, locals := 60 })).room s m #[.ref (a 0), .int (L0.1 1), .ref (z 20), .int (L0.1 3), .int (L0.1 4)] below meth c dC dI cy a z A (kI dC dI cy a z A below #[.ref (a 0), .int (L0.1 1), .ref (z 20), .int (L0.1 3), .int (L0.1 4)] s) 11 (y_X1_makeRow__z20 k 15) (fun L => [(0, .ref (a 0)), (1, .int (L.1 1)), (2, .ref (z 20)), (3, .int (L.1 3)), (4, .int (L.1 4)), (5, .int (L.1 5)), (6, .int (L.1 6)), (8, .int (L.1 8))]) 131 (fun L => [])) ∧ (bC p l e (headSpec w_y_X1_makeRow__z20 ({ frames := 1, cells := 0, slots := 0, locals := 60 })).room s m #[.ref (a 0), .int (L0.1 1), .ref (z 20), .int (L0.1 3), .int (L0.1 4)] below meth c dC dI cy a z A (kI dC dI cy a z A below #[.ref (a 0), .int (L0.1 1), .ref (z 20), .int (L0.1 3), .int (L0.1 4)] s) 11 (y_X1_makeRow__z20 k 16) (fun L => [(0, .ref (a 0)), (1, .int (L.1 1)), (2, .ref (z 20)), (3, .int (L.1 3)), (4, .int (L.1 4)), (5, .int (L.1 5)), (6, .int (L.1 6)), (8, .int (L.1 8))]) 132 (fun L => [.int (L.1 100)])) ∧ (bC p l e (headSpec w_y_X1_makeRow__z20 ({ frames := 1, cells := 0, slots := 0, locals := 60 })).room s m #[.ref (a 0), .int (L0.1 1), .ref (z 20), .int (L0.1 3), .int (L0.1 4)] below meth c dC dI cy a z A (kI dC dI cy a z A below #[.ref (a 0), .int (L0.1 1), .ref (z 20), .int (L0.1 3), .int (L0.1 4)] s) 11 (y_X1_makeRow__z20 k 17) (fun L => [(0, .ref (a 0)), (1, .int (L.1 1)), (2, .ref (z 20)), (3, .int (L.1 3)), (4, .int (L.1 4)), (5, .int (L.1 5)), (6, .int (L.1 6)), (7, .int (L.1 7)), (8, .int (L.1 8))]) 226 (fun L => [])) ∧ (bC p l e (headSpec w_y_X1_makeRow__z20 ({ frames := 1, cells := 0, slots := 0, locals := 60 })).room s m #[.ref (a 0), .int (L0.1 1), .ref (z 20), .int (L0.1 3), .int (L0.1 4)] below meth c dC dI cy a z A (kI dC dI cy a z A below #[.ref (a 0), .int (L0.1 1), .ref (z 20), .int (L0.1 3), .int (L0.1 4)] s) 11 (y_X1_makeRow__z20 k 18) (fun L => [(0, .ref (a 0)), (1, .int (L.1 1)), (2, .ref (z 20)), (3, .int (L.1 3)), (4, .int (L.1 4)), (6, .int (L.1 6)), (8, .int (L.1 8))]) 172 (fun L => [.int (L.1 100), .int (L.1 101)])) ∧ (bC p l e (headSpec w_y_X1_makeRow__z20 ({ frames := 1, cells := 0, slots := 0, locals := 60 })).room s m #[.ref (a 0), .int (L0.1 1), .ref (z 20), .int (L0.1 3), .int (L0.1 4)] below meth c dC dI cy a z A (kI dC dI cy a z A below #[.ref (a 0), .int (L0.1 1), .ref (z 20), .int (L0.1 3), .int (L0.1 4)] s) 11 (y_X1_makeRow__z20 k 19) (fun L => [(0, .ref (a 0)), (1, .int (L.1 1)), (2, .ref (z 20)), (3, .int (L.1 3)), (4, .int (L.1 4)), (5, .int (L.1 5)), (6, .int (L.1 6)), (7, .int (L.1 7)), (8, .int (L.1 8))]) 178 (fun L => [])) ∧ (bC p l e (headSpec w_y_X1_makeRow__z20 ({ frames := 1, cells := 0, slots := 0, locals := 60 })).room s m #[.ref (a 0), .int (L0.1 1), .ref (z 20), .int (L0.1 3), .int (L0.1 4)] below meth c dC dI cy a z A (kI dC dI cy a z A below #[.ref (a 0), .int (L0.1 1), .ref (z 20), .int (L0.1 3), .int (L0.1 4)] s) 11 (y_X1_makeRow__z20 k 20) (fun L => [(0, .ref (a 0)), (2, .ref (z 20)), (3, .int (L.1 3)), (4, .int (L.1 4)), (5, .int (L.1 5)), (6, .int (L.1 6)), (8, .int (L.1 8))]) 254 (fun L => [.int (L.1 100), .int (L.1 101), .ref (z 3)])) ∧ (bC p l e (headSpec w_y_X1_makeRow__z20 ({ frames := 1, cells := 0, slots := 0, locals := 60 })).room s m #[.ref (a 0), .int (L0.1 1), .ref (z 20), .int (L0.1 3), .int (L0.1 4)] below meth c dC dI cy a z A (kI dC dI cy a z A below #[.ref (a 0), .int (L0.1 1), .ref (z 20), .int (L0.1 3), .int (L0.1 4)] s) 11 (y_X1_makeRow__z20 k 21) (fun L => [(0, .ref (a 0)), (2, .ref (z 20)), (3, .int (L.1 3)), (4, .int (L.1 4)), (5, .int (L.1 5)), (6, .int (L.1 6)), (8, .int (L.1 8))]) 255 (fun L => [.int (L.1 100), .int (L.1 101), .int (L.1 102), .ref (z 3)])) := by
    intro k
    induction k with
    | zero => exact ⟨fun L σ r h => (by cases h), fun L σ r h => (by cases h), fun L σ r h => (by cases h), fun L σ r h => (by cases h), fun L σ r h => (by cases h), fun L σ r h => (by cases h), fun L σ r h => (by cases h), fun L σ r h => (by cases h), fun L σ r h => (by cases h), fun L σ r h => (by cases h), fun L σ r h => (by cases h), fun L σ r h => (by cases h), fun L σ r h => (by cases h), fun L σ r h => (by cases h), fun L σ r h => (by cases h), fun L σ r h => (by cases h), fun L σ r h => (by cases h), fun L σ r h => (by cases h), fun L σ r h => (by cases h), fun L σ r h => (by cases h), fun L σ r h => (by cases h), fun L σ r h => (by cases h)⟩
    | succ k ih =>
      refine ⟨?_, ?_, ?_, ?_, ?_, ?_, ?_, ?_, ?_, ?_, ?_, ?_, ?_, ?_, ?_, ?_, ?_, ?_, ?_, ?_, ?_, ?_⟩
      · intro L σ r h H locs ls hP hD hS hl
        rw [y_X1_makeRow__z20] at h
        refine lv_iload hx hb dX1_makeRow_0 (lv_at hl 4 rfl) ?_
        refine lv_if_gt (tgt := 17) hx hb dX1_makeRow_2 (by decide) (fun c1 => ?_) (fun c1 => ?_)
        · rw [if_pos c1] at h
          exact ih.2.1 L σ r h H locs ls hP hD hS (lv_sub hl [0, 1, 2, 3, 4] rfl)
        · rw [if_neg c1] at h
          refine lv_iload_n hx hb dX1_makeRow_5 rfl (lv_at hl 1 rfl) ?_
          refine lv_bipush (v := 6) hx hb dX1_makeRow_6 (by decide) ?_
          refine lv_icmp_ne (tgt := 15) hx hb dX1_makeRow_8 (by decide) (fun c2 => ?_) (fun c2 => ?_)
          · rw [if_neg c2] at h
            exact ih.2.2.1 L σ r h H locs ls hP hD hS (lv_sub hl [] rfl)
          · rw [if_pos c2] at h
            refine lv_iconst (v := 2) hx hb dX1_makeRow_11 (by decide) ?_
            refine lv_goto (tgt := 16) hx hb dX1_makeRow_12 (by decide) ?_
            exact ih.2.2.2.1 (lI L 100 2) σ r h H locs ls hP hD hS (lv_sub hl [] rfl)
      · intro L σ r h H locs ls hP hD hS hl
        rw [y_X1_makeRow__z20] at h
        refine lv_iconst (v := 1) hx hb dX1_makeRow_17 (by decide) ?_
        refine lv_istore (lv' := [(5, .int 1), (0, .ref (a 0)), (1, .int (L.1 1)), (2, .ref (z 20)), (3, .int (L.1 3)), (4, .int (L.1 4))]) hx hb dX1_makeRow_18 hl (by decide) rfl (fun ls hl => ?_)
        refine lv_iconst (v := 0) hx hb dX1_makeRow_20 (by decide) ?_
        refine lv_istore (lv' := [(6, .int 0), (5, .int 1), (0, .ref (a 0)), (1, .int (L.1 1)), (2, .ref (z 20)), (3, .int (L.1 3)), (4, .int (L.1 4))]) hx hb dX1_makeRow_21 hl (by decide) rfl (fun ls hl => ?_)
        refine lv_iload_n hx hb dX1_makeRow_23 rfl (lv_at hl 3 rfl) ?_
        refine lv_bipush (v := 6) hx hb dX1_makeRow_24 (by decide) ?_
        refine lv_icmp_ne (tgt := 33) hx hb dX1_makeRow_26 (by decide) (fun c1 => ?_) (fun c1 => ?_)
        · rw [if_neg c1] at h
          exact ih.2.2.2.2.1 (lI (lI L 5 1) 6 0) σ r h H locs ls hP hD hS (lv_sub hl [2, 3, 4, 5, 6, 1, 0] rfl)
        · rw [if_pos c1] at h
          refine lv_iconst (v := 1) hx hb dX1_makeRow_29 (by decide) ?_
          refine lv_goto (tgt := 34) hx hb dX1_makeRow_30 (by decide) ?_
          exact ih.2.2.2.2.2.1 (lI (lI (lI L 5 1) 6 0) 100 1) σ r h H locs ls hP hD hS (lv_sub hl [2, 3, 4, 5, 6, 1, 0] rfl)
      · intro L σ r h H locs ls hP hD hS hl
        rw [y_X1_makeRow__z20] at h
        refine lv_iconst (v := 1) hx hb dX1_makeRow_15 (by decide) ?_
        exact ih.2.2.2.1 (lI L 100 1) σ r h H locs ls hP hD hS (lv_sub hl [] rfl)
      · intro L σ r h H locs ls hP hD hS hl
        rw [y_X1_makeRow__z20] at h
        obtain rfl := Option.some.inj h
        exact W.iret (v := (L.1 100)) hx hb hr (fun t ht hW => ⟨⟨(L.1 100), (), rfl, rfl, by rw [ht]; exact hP, va_K.moved hW.alike hK, hD⟩, hS.F ht⟩) hS.2.2 dX1_makeRow_16
      · intro L σ r h H locs ls hP hD hS hl
        rw [y_X1_makeRow__z20] at h
        refine lv_iconst (v := 0) hx hb dX1_makeRow_33 (by decide) ?_
        exact ih.2.2.2.2.2.1 (lI L 100 0) σ r h H locs ls hP hD hS (lv_sub hl [0, 1, 2, 3, 4, 5, 6] rfl)
      · intro L σ r h H locs ls hP hD hS hl
        rw [y_X1_makeRow__z20] at h
        refine lv_istore (lv' := [(7, .int (L.1 100)), (0, .ref (a 0)), (1, .int (L.1 1)), (2, .ref (z 20)), (3, .int (L.1 3)), (4, .int (L.1 4)), (5, .int (L.1 5)), (6, .int (L.1 6))]) hx hb dX1_makeRow_34 hl (by decide) rfl (fun ls hl => ?_)
        refine lv_iload_n hx hb dX1_makeRow_36 rfl (lv_at hl 4 rfl) ?_
        refine lv_istore (lv' := [(8, .int (L.1 3)), (7, .int (L.1 100)), (0, .ref (a 0)), (1, .int (L.1 1)), (2, .ref (z 20)), (3, .int (L.1 3)), (4, .int (L.1 4)), (5, .int (L.1 5)), (6, .int (L.1 6))]) hx hb dX1_makeRow_37 hl (by decide) rfl (fun ls hl => ?_)
        exact ih.2.2.2.2.2.2.1 (lI (lI L 7 ((L.1 100))) 8 ((L.1 3))) σ r h H locs ls hP hD hS (lv_sub hl [2, 3, 4, 5, 6, 7, 8, 1, 0] rfl)
      · intro L σ r h H locs ls hP hD hS hl
        rw [y_X1_makeRow__z20] at h
        refine lv_iload hx hb dX1_makeRow_39 (lv_at hl 8 rfl) ?_
        refine lv_iload_n hx hb dX1_makeRow_41 rfl (lv_at hl 3 rfl) ?_
        refine lv_iload hx hb dX1_makeRow_42 (lv_at hl 4 rfl) ?_
        refine lv_iadd hx hb dX1_makeRow_44 ?_
        refine lv_icmp_ge (tgt := 184) hx hb dX1_makeRow_45 (by decide) (fun c1 => ?_) (fun c1 => ?_)
        · rw [if_pos c1] at h
          exact ih.2.2.2.2.2.2.2.1 L σ r h H locs ls hP hD hS (lv_sub hl [0, 1, 2, 3, 4, 5, 6, 7] rfl)
        · rw [if_neg c1] at h
          refine lv_iload hx hb dX1_makeRow_48 (lv_at hl 5 rfl) ?_
          refine lv_sipush (v := 1000) hx hb dX1_makeRow_50 (by decide) ?_
          refine lv_icmp_gt (tgt := 184) hx hb dX1_makeRow_53 (by decide) (fun c2 => ?_) (fun c2 => ?_)
          · rw [if_pos c2] at h
            exact ih.2.2.2.2.2.2.2.1 L σ r h H locs ls hP hD hS (lv_sub hl [0, 1, 2, 3, 4, 5, 6, 7] rfl)
          · rw [if_neg c2] at h
            refine lv_aload_n hx hb dX1_makeRow_56 rfl (lv_at hl 2 rfl) ?_
            refine lv_iload hx hb dX1_makeRow_57 (lv_at hl 8 rfl) ?_
            obtain ⟨q3, h⟩ := kb_ite1 h
            refine hl_20 hx hb hK hP q3 dX1_makeRow_59 ?_
            refine lv_istore (lv' := [(9, .int (σ.2.2.1 20 ((L.1 8)).toNatClampNeg)), (0, .ref (a 0)), (1, .int (L.1 1)), (2, .ref (z 20)), (3, .int (L.1 3)), (4, .int (L.1 4)), (5, .int (L.1 5)), (6, .int (L.1 6)), (7, .int (L.1 7)), (8, .int (L.1 8))]) hx hb dX1_makeRow_60 hl (by decide) rfl (fun ls hl => ?_)
            refine lv_iload hx hb dX1_makeRow_62 (lv_at hl 0 rfl) ?_
            refine lv_if_lt (tgt := 137) hx hb dX1_makeRow_64 (by decide) (fun c4 => ?_) (fun c4 => ?_)
            · rw [if_pos c4] at h
              exact ih.2.2.2.2.2.2.2.2.1 (lI L 9 ((σ.2.2.1 20 ((L.1 8)).toNatClampNeg))) σ r h H locs ls hP hD hS (lv_sub hl [1, 2, 3, 4, 5, 6, 7, 9, 0] rfl)
            · rw [if_neg c4] at h
              refine lv_aload_n hx hb dX1_makeRow_67 rfl (lv_at hl 1 rfl) ?_
              refine hg_0_0 hx hb hts in_y_X1_makeRow__z20_X1 hown hK hP (hts _ (List.mem_cons_of_mem _ (List.mem_append_left _ (List.mem_append_left _ (List.mem_of_getElem? (i := 0) rfl))))) dX1_makeRow_68 ?_
              refine lv_iload hx hb dX1_makeRow_71 (lv_at hl 0 rfl) ?_
              obtain ⟨q5, h⟩ := kb_ite1 h
              refine hl_3 hx hb hK hP q5 dX1_makeRow_73 ?_
              refine lv_istore (lv' := [(10, .int (σ.2.2.1 3 ((σ.2.2.1 20 ((L.1 8)).toNatClampNeg)).toNatClampNeg)), (9, .int (σ.2.2.1 20 ((L.1 8)).toNatClampNeg)), (0, .ref (a 0)), (1, .int (L.1 1)), (2, .ref (z 20)), (3, .int (L.1 3)), (4, .int (L.1 4)), (5, .int (L.1 5)), (6, .int (L.1 6)), (7, .int (L.1 7)), (8, .int (L.1 8))]) hx hb dX1_makeRow_74 hl (by decide) rfl (fun ls hl => ?_)
              refine lv_iload hx hb dX1_makeRow_76 (lv_at hl 7 rfl) ?_
              refine lv_iload hx hb dX1_makeRow_78 (lv_at hl 0 rfl) ?_
              refine lv_bipush (v := 16) hx hb dX1_makeRow_80 (by decide) ?_
              refine lv_iushr (v := (((σ.2.2.1 3 ((σ.2.2.1 20 ((L.1 8)).toNatClampNeg)).toNatClampNeg)).toUInt32 >>> ((16 : Int32).toUInt32 &&& Int32.toUInt32 31)).toInt32) hx hb dX1_makeRow_82 rfl ?_
              refine lv_sipush (v := 1023) hx hb dX1_makeRow_83 (by decide) ?_
              refine lv_iand hx hb dX1_makeRow_86 ?_
              refine lv_iadd hx hb dX1_makeRow_87 ?_
              refine lv_istore (lv' := [(5, .int (((L.1 5)) + (((((((σ.2.2.1 3 ((σ.2.2.1 20 ((L.1 8)).toNatClampNeg)).toNatClampNeg)).toUInt32 >>> ((16 : Int32).toUInt32 &&& Int32.toUInt32 31)).toInt32)) &&& 1023)))), (10, .int (σ.2.2.1 3 ((σ.2.2.1 20 ((L.1 8)).toNatClampNeg)).toNatClampNeg)), (9, .int (σ.2.2.1 20 ((L.1 8)).toNatClampNeg)), (0, .ref (a 0)), (1, .int (L.1 1)), (2, .ref (z 20)), (3, .int (L.1 3)), (4, .int (L.1 4)), (6, .int (L.1 6)), (7, .int (L.1 7)), (8, .int (L.1 8))]) hx hb dX1_makeRow_88 hl (by decide) rfl (fun ls hl => ?_)
              refine lv_iload hx hb dX1_makeRow_90 (lv_at hl 8 rfl) ?_
              refine lv_iload hx hb dX1_makeRow_92 (lv_at hl 1 rfl) ?_
              refine lv_bipush (v := 26) hx hb dX1_makeRow_94 (by decide) ?_
              refine lv_iushr (v := (((σ.2.2.1 3 ((σ.2.2.1 20 ((L.1 8)).toNatClampNeg)).toNatClampNeg)).toUInt32 >>> ((26 : Int32).toUInt32 &&& Int32.toUInt32 31)).toInt32) hx hb dX1_makeRow_96 rfl ?_
              refine lv_icmp_le (tgt := 105) hx hb dX1_makeRow_97 (by decide) (fun c6 => ?_) (fun c6 => ?_)
              · rw [if_pos c6] at h
                exact ih.2.2.2.2.2.2.2.2.2.1 (lI (lI L 5 ((((L.1 5)) + (((((((σ.2.2.1 3 ((σ.2.2.1 20 ((L.1 8)).toNatClampNeg)).toNatClampNeg)).toUInt32 >>> ((16 : Int32).toUInt32 &&& Int32.toUInt32 31)).toInt32)) &&& 1023))))) 10 ((σ.2.2.1 3 ((σ.2.2.1 20 ((L.1 8)).toNatClampNeg)).toNatClampNeg))) σ r h H locs ls hP hD hS (lv_sub hl [3, 4, 5, 6, 7, 0, 9, 10, 1] rfl)
              · rw [if_neg c6] at h
                refine lv_iload hx hb dX1_makeRow_100 (lv_at hl 8 rfl) ?_
                refine lv_goto (tgt := 110) hx hb dX1_makeRow_102 (by decide) ?_
                exact ih.2.2.2.2.2.2.2.2.2.2.1 (lI (lI (lI L 5 ((((L.1 5)) + (((((((σ.2.2.1 3 ((σ.2.2.1 20 ((L.1 8)).toNatClampNeg)).toNatClampNeg)).toUInt32 >>> ((16 : Int32).toUInt32 &&& Int32.toUInt32 31)).toInt32)) &&& 1023))))) 10 ((σ.2.2.1 3 ((σ.2.2.1 20 ((L.1 8)).toNatClampNeg)).toNatClampNeg))) 100 ((L.1 6))) σ r h H locs ls hP hD hS (lv_sub hl [3, 4, 5, 6, 7, 0, 9, 10, 1] rfl)
      · intro L σ r h H locs ls hP hD hS hl
        rw [y_X1_makeRow__z20] at h
        refine lv_iload hx hb dX1_makeRow_184 (lv_at hl 5 rfl) ?_
        refine lv_sipush (v := 1000) hx hb dX1_makeRow_186 (by decide) ?_
        refine lv_icmp_gt (tgt := 199) hx hb dX1_makeRow_189 (by decide) (fun c1 => ?_) (fun c1 => ?_)
        · rw [if_pos c1] at h
          exact ih.2.2.2.2.2.2.2.2.2.2.2.1 L σ r h H locs ls hP hD hS (lv_sub hl [] rfl)
        · rw [if_neg c1] at h
          refine lv_iload hx hb dX1_makeRow_192 (lv_at hl 6 rfl) ?_
          refine lv_bipush (v := 30) hx hb dX1_makeRow_194 (by decide) ?_
          refine lv_icmp_lt (tgt := 202) hx hb dX1_makeRow_196 (by decide) (fun c2 => ?_) (fun c2 => ?_)
          · rw [if_pos c2] at h
            exact ih.2.2.2.2.2.2.2.2.2.2.2.2.1 L σ r h H locs ls hP hD hS (lv_sub hl [0, 1, 2, 3, 4, 5, 6, 7] rfl)
          · rw [if_neg c2] at h
            exact ih.2.2.2.2.2.2.2.2.2.2.2.1 L σ r h H locs ls hP hD hS (lv_sub hl [] rfl)
      · intro L σ r h H locs ls hP hD hS hl
        rw [y_X1_makeRow__z20] at h
        refine lv_iload hx hb dX1_makeRow_137 (lv_at hl 8 rfl) ?_
        refine lv_ldc (v := (-268435456)) hx hb hown (hts _ (List.mem_cons_of_mem _ (List.mem_append_left _ (List.mem_append_left _ (List.mem_of_getElem? (i := 1) rfl))))) dX1_makeRow_139 ?_
        refine lv_iand hx hb dX1_makeRow_141 ?_
        refine lv_istore (lv' := [(10, .int (((L.1 9)) &&& ((-268435456)))), (0, .ref (a 0)), (1, .int (L.1 1)), (2, .ref (z 20)), (3, .int (L.1 3)), (4, .int (L.1 4)), (5, .int (L.1 5)), (6, .int (L.1 6)), (8, .int (L.1 8)), (9, .int (L.1 9))]) hx hb dX1_makeRow_142 hl (by decide) rfl (fun ls hl => ?_)
        refine lv_iload hx hb dX1_makeRow_144 (lv_at hl 6 rfl) ?_
        refine lv_iload hx hb dX1_makeRow_146 (lv_at hl 0 rfl) ?_
        refine lv_ldc (v := (-1073741824)) hx hb hown (hts _ (List.mem_cons_of_mem _ (List.mem_append_left _ (List.mem_append_left _ (List.mem_of_getElem? (i := 2) rfl))))) dX1_makeRow_148 ?_
        refine lv_icmp_eq (tgt := 167) hx hb dX1_makeRow_150 (by decide) (fun c1 => ?_) (fun c1 => ?_)
        · rw [if_pos c1] at h
          exact ih.2.2.2.2.2.2.2.2.2.2.2.2.2.1 (lI L 100 ((L.1 5))) σ r h H locs ls hP hD hS (lv_sub hl [1, 2, 3, 4, 5, 7, 8] rfl)
        · rw [if_neg c1] at h
          refine lv_iload hx hb dX1_makeRow_153 (lv_at hl 0 rfl) ?_
          refine lv_ldc (v := (-1610612736)) hx hb hown (hts _ (List.mem_cons_of_mem _ (List.mem_append_left _ (List.mem_append_left _ (List.mem_of_getElem? (i := 3) rfl))))) dX1_makeRow_155 ?_
          refine lv_icmp_ne (tgt := 171) hx hb dX1_makeRow_157 (by decide) (fun c2 => ?_) (fun c2 => ?_)
          · rw [if_neg c2] at h
            exact ih.2.2.2.2.2.2.2.2.2.2.2.2.2.2.1 (lI L 100 ((L.1 5))) σ r h H locs ls hP hD hS (lv_sub hl [1, 2, 3, 4, 5, 7, 8] rfl)
          · rw [if_pos c2] at h
            refine lv_iload hx hb dX1_makeRow_160 (lv_at hl 9 rfl) ?_
            refine lv_ldc (v := (-1610612736)) hx hb hown (hts _ (List.mem_cons_of_mem _ (List.mem_append_left _ (List.mem_append_left _ (List.mem_of_getElem? (i := 3) rfl))))) dX1_makeRow_162 ?_
            refine lv_icmp_eq (tgt := 171) hx hb dX1_makeRow_164 (by decide) (fun c3 => ?_) (fun c3 => ?_)
            · rw [if_pos c3] at h
              exact ih.2.2.2.2.2.2.2.2.2.2.2.2.2.2.1 (lI L 100 ((L.1 5))) σ r h H locs ls hP hD hS (lv_sub hl [1, 2, 3, 4, 5, 7, 8] rfl)
            · rw [if_neg c3] at h
              exact ih.2.2.2.2.2.2.2.2.2.2.2.2.2.1 (lI L 100 ((L.1 5))) σ r h H locs ls hP hD hS (lv_sub hl [1, 2, 3, 4, 5, 7, 8] rfl)
      · intro L σ r h H locs ls hP hD hS hl
        rw [y_X1_makeRow__z20] at h
        refine lv_iload hx hb dX1_makeRow_105 (lv_at hl 8 rfl) ?_
        refine lv_bipush (v := 26) hx hb dX1_makeRow_107 (by decide) ?_
        refine lv_iushr (v := (((L.1 10)).toUInt32 >>> ((26 : Int32).toUInt32 &&& Int32.toUInt32 31)).toInt32) hx hb dX1_makeRow_109 rfl ?_
        exact ih.2.2.2.2.2.2.2.2.2.2.1 (lI L 100 (((((L.1 10)).toUInt32 >>> ((26 : Int32).toUInt32 &&& Int32.toUInt32 31)).toInt32))) σ r h H locs ls hP hD hS (lv_sub hl [0, 1, 2, 3, 4, 5, 6, 7, 8] rfl)
      · intro L σ r h H locs ls hP hD hS hl
        rw [y_X1_makeRow__z20] at h
        refine lv_istore (lv' := [(6, .int (L.1 100)), (0, .ref (a 0)), (1, .int (L.1 1)), (2, .ref (z 20)), (3, .int (L.1 3)), (4, .int (L.1 4)), (5, .int (L.1 5)), (7, .int (L.1 7)), (8, .int (L.1 8)), (10, .int (L.1 10))]) hx hb dX1_makeRow_110 hl (by decide) rfl (fun ls hl => ?_)
        refine lv_iload hx hb dX1_makeRow_112 (lv_at hl 7 rfl) ?_
        refine lv_if_eq (tgt := 131) hx hb dX1_makeRow_114 (by decide) (fun c1 => ?_) (fun c1 => ?_)
        · rw [if_pos c1] at h
          exact ih.2.2.2.2.2.2.2.2.2.2.2.2.2.2.2.1 (lI L 6 ((L.1 100))) σ r h H locs ls hP hD hS (lv_sub hl [1, 2, 3, 4, 5, 6, 0, 8] rfl)
        · rw [if_neg c1] at h
          refine lv_iload hx hb dX1_makeRow_117 (lv_at hl 9 rfl) ?_
          refine lv_ldc (v := 65535) hx hb hown (hts _ (List.mem_cons_of_mem _ (List.mem_append_left _ (List.mem_append_left _ (List.mem_of_getElem? (i := 4) rfl))))) dX1_makeRow_119 ?_
          refine lv_iand hx hb dX1_makeRow_121 ?_
          refine lv_bipush (v := 37) hx hb dX1_makeRow_122 (by decide) ?_
          refine lv_icmp_ne (tgt := 131) hx hb dX1_makeRow_124 (by decide) (fun c2 => ?_) (fun c2 => ?_)
          · rw [if_neg c2] at h
            exact ih.2.2.2.2.2.2.2.2.2.2.2.2.2.2.2.1 (lI L 6 ((L.1 100))) σ r h H locs ls hP hD hS (lv_sub hl [1, 2, 3, 4, 5, 6, 0, 8] rfl)
          · rw [if_pos c2] at h
            refine lv_iconst (v := 1) hx hb dX1_makeRow_127 (by decide) ?_
            refine lv_goto (tgt := 132) hx hb dX1_makeRow_128 (by decide) ?_
            exact ih.2.2.2.2.2.2.2.2.2.2.2.2.2.2.2.2.1 (lI (lI L 6 ((L.1 100))) 100 1) σ r h H locs ls hP hD hS (lv_sub hl [1, 2, 3, 4, 5, 6, 0, 8] rfl)
      · intro L σ r h H locs ls hP hD hS hl
        rw [y_X1_makeRow__z20] at h
        refine lv_ldc (v := (-268435451)) hx hb hown (hts _ (List.mem_cons_of_mem _ (List.mem_append_left _ (List.mem_append_left _ (List.mem_of_getElem? (i := 5) rfl))))) dX1_makeRow_199 ?_
        obtain rfl := Option.some.inj h
        exact W.iret (v := (-268435451)) hx hb hr (fun t ht hW => ⟨⟨(-268435451), (), rfl, rfl, by rw [ht]; exact hP, va_K.moved hW.alike hK, hD⟩, hS.F ht⟩) hS.2.2 dX1_makeRow_201
      · intro L σ r h H locs ls hP hD hS hl
        rw [y_X1_makeRow__z20] at h
        refine lv_aload_n hx hb dX1_makeRow_202 rfl (lv_at hl 0 rfl) ?_
        refine hg_0_1 hx hb hts in_y_X1_makeRow__z20_X1 hown hK hP (hts _ (List.mem_cons_of_mem _ (List.mem_append_left _ (List.mem_append_left _ (List.mem_of_getElem? (i := 6) rfl))))) dX1_makeRow_203 ?_
        refine lv_istore (lv' := [(8, .int (σ.1 1)), (0, .ref (a 0)), (1, .int (L.1 1)), (2, .ref (z 20)), (3, .int (L.1 3)), (4, .int (L.1 4)), (5, .int (L.1 5)), (6, .int (L.1 6)), (7, .int (L.1 7))]) hx hb dX1_makeRow_206 hl (by decide) rfl (fun ls hl => ?_)
        refine lv_iconst (v := 1) hx hb dX1_makeRow_208 (by decide) ?_
        refine lv_iload hx hb dX1_makeRow_209 (lv_at hl 5 rfl) ?_
        refine lv_iadd hx hb dX1_makeRow_211 ?_
        refine lv_aload_n hx hb dX1_makeRow_212 rfl (lv_at hl 1 rfl) ?_
        refine hg_0_0 hx hb hts in_y_X1_makeRow__z20_X1 hown hK hP (hts _ (List.mem_cons_of_mem _ (List.mem_append_left _ (List.mem_append_left _ (List.mem_of_getElem? (i := 0) rfl))))) dX1_makeRow_213 ?_
        refine hn_3 hx hb hK hP dX1_makeRow_216 ?_
        refine lv_iload hx hb dX1_makeRow_217 (lv_at hl 0 rfl) ?_
        refine lv_isub hx hb dX1_makeRow_219 ?_
        refine lv_icmp_le (tgt := 226) hx hb dX1_makeRow_220 (by decide) (fun c1 => ?_) (fun c1 => ?_)
        · rw [if_pos c1] at h
          exact ih.2.2.2.2.2.2.2.2.2.2.2.2.2.2.2.2.2.1 (lI L 8 ((σ.1 1))) σ r h H locs ls hP hD hS (lv_sub hl [1, 2, 3, 4, 5, 6, 7, 8, 0] rfl)
        · rw [if_neg c1] at h
          refine lv_ldc (v := (-268435450)) hx hb hown (hts _ (List.mem_cons_of_mem _ (List.mem_append_left _ (List.mem_append_left _ (List.mem_of_getElem? (i := 7) rfl))))) dX1_makeRow_223 ?_
          obtain rfl := Option.some.inj h
          exact W.iret (v := (-268435450)) hx hb hr (fun t ht hW => ⟨⟨(-268435450), (), rfl, rfl, by rw [ht]; exact hP, va_K.moved hW.alike hK, hD⟩, hS.F ht⟩) hS.2.2 dX1_makeRow_225
      · intro L σ r h H locs ls hP hD hS hl
        rw [y_X1_makeRow__z20] at h
        refine lv_iconst (v := 2) hx hb dX1_makeRow_167 (by decide) ?_
        refine lv_goto (tgt := 172) hx hb dX1_makeRow_168 (by decide) ?_
        exact ih.2.2.2.2.2.2.2.2.2.2.2.2.2.2.2.2.2.2.1 (lI (lI L 100 2) 101 ((L.1 100))) σ r h H locs ls hP hD hS (lv_sub hl [0, 1, 2, 3, 4, 5, 6] rfl)
      · intro L σ r h H locs ls hP hD hS hl
        rw [y_X1_makeRow__z20] at h
        refine lv_iconst (v := 1) hx hb dX1_makeRow_171 (by decide) ?_
        exact ih.2.2.2.2.2.2.2.2.2.2.2.2.2.2.2.2.2.2.1 (lI (lI L 100 1) 101 ((L.1 100))) σ r h H locs ls hP hD hS (lv_sub hl [0, 1, 2, 3, 4, 5, 6] rfl)
      · intro L σ r h H locs ls hP hD hS hl
        rw [y_X1_makeRow__z20] at h
        refine lv_iconst (v := 0) hx hb dX1_makeRow_131 (by decide) ?_
        exact ih.2.2.2.2.2.2.2.2.2.2.2.2.2.2.2.2.1 (lI L 100 0) σ r h H locs ls hP hD hS (lv_sub hl [0, 1, 2, 3, 4, 5, 6, 7] rfl)
      · intro L σ r h H locs ls hP hD hS hl
        rw [y_X1_makeRow__z20] at h
        refine lv_istore (lv' := [(7, .int (L.1 100)), (0, .ref (a 0)), (1, .int (L.1 1)), (2, .ref (z 20)), (3, .int (L.1 3)), (4, .int (L.1 4)), (5, .int (L.1 5)), (6, .int (L.1 6)), (8, .int (L.1 8))]) hx hb dX1_makeRow_132 hl (by decide) rfl (fun ls hl => ?_)
        refine lv_goto (tgt := 178) hx hb dX1_makeRow_134 (by decide) ?_
        exact ih.2.2.2.2.2.2.2.2.2.2.2.2.2.2.2.2.2.2.2.1 (lI L 7 ((L.1 100))) σ r h H locs ls hP hD hS (lv_sub hl [1, 2, 3, 4, 5, 6, 7, 0, 8] rfl)
      · intro L σ r h H locs ls hP hD hS hl
        rw [y_X1_makeRow__z20] at h
        refine lv_aload_n hx hb dX1_makeRow_226 rfl (lv_at hl 0 rfl) ?_
        refine lv_iload hx hb dX1_makeRow_227 (lv_at hl 8 rfl) ?_
        refine lv_iconst (v := 1) hx hb dX1_makeRow_229 (by decide) ?_
        refine lv_iadd hx hb dX1_makeRow_230 ?_
        refine lv_iload hx hb dX1_makeRow_231 (lv_at hl 4 rfl) ?_
        refine lv_iadd hx hb dX1_makeRow_233 ?_
        refine hp_0_1 hx hb hts in_y_X1_makeRow__z20_X1 hown hK hP hD hS (hts _ (List.mem_cons_of_mem _ (List.mem_append_left _ (List.mem_append_left _ (List.mem_of_getElem? (i := 6) rfl))))) dX1_makeRow_234 (fun H locs hP hD hS => ?_)
        refine lv_aload_n hx hb dX1_makeRow_237 rfl (lv_at hl 0 rfl) ?_
        refine hg_0_0 hx hb hts in_y_X1_makeRow__z20_X1 hown hK hP (hts _ (List.mem_cons_of_mem _ (List.mem_append_left _ (List.mem_append_left _ (List.mem_of_getElem? (i := 0) rfl))))) dX1_makeRow_238 ?_
        refine lv_iload hx hb dX1_makeRow_241 (lv_at hl 8 rfl) ?_
        refine lv_iload_n hx hb dX1_makeRow_243 rfl (lv_at hl 1 rfl) ?_
        refine lv_iload hx hb dX1_makeRow_244 (lv_at hl 7 rfl) ?_
        refine lv_if_eq (tgt := 254) hx hb dX1_makeRow_246 (by decide) (fun c1 => ?_) (fun c1 => ?_)
        · rw [if_pos c1] at h
          exact ih.2.2.2.2.2.2.2.2.2.2.2.2.2.2.2.2.2.2.2.2.1 (lI (lI L 100 ((L.1 1))) 101 ((L.1 8))) (uI σ 1 ((((((L.1 8)) + 1)) + ((L.1 4))))) r h H locs ls hP hD hS (lv_sub hl [0, 2, 3, 4, 5, 6, 8] rfl)
        · rw [if_neg c1] at h
          refine lv_bipush (v := 8) hx hb dX1_makeRow_249 (by decide) ?_
          refine lv_goto (tgt := 255) hx hb dX1_makeRow_251 (by decide) ?_
          exact ih.2.2.2.2.2.2.2.2.2.2.2.2.2.2.2.2.2.2.2.2.2 (lI (lI (lI L 100 8) 101 ((L.1 1))) 102 ((L.1 8))) (uI σ 1 ((((((L.1 8)) + 1)) + ((L.1 4))))) r h H locs ls hP hD hS (lv_sub hl [0, 2, 3, 4, 5, 6, 8] rfl)
      · intro L σ r h H locs ls hP hD hS hl
        rw [y_X1_makeRow__z20] at h
        refine lv_iadd hx hb dX1_makeRow_172 ?_
        refine lv_istore (lv' := [(5, .int (((L.1 101)) + ((L.1 100)))), (0, .ref (a 0)), (1, .int (L.1 1)), (2, .ref (z 20)), (3, .int (L.1 3)), (4, .int (L.1 4)), (6, .int (L.1 6)), (8, .int (L.1 8))]) hx hb dX1_makeRow_173 hl (by decide) rfl (fun ls hl => ?_)
        refine lv_iconst (v := 0) hx hb dX1_makeRow_175 (by decide) ?_
        refine lv_istore (lv' := [(7, .int 0), (5, .int (((L.1 101)) + ((L.1 100)))), (0, .ref (a 0)), (1, .int (L.1 1)), (2, .ref (z 20)), (3, .int (L.1 3)), (4, .int (L.1 4)), (6, .int (L.1 6)), (8, .int (L.1 8))]) hx hb dX1_makeRow_176 hl (by decide) rfl (fun ls hl => ?_)
        exact ih.2.2.2.2.2.2.2.2.2.2.2.2.2.2.2.2.2.2.2.1 (lI (lI L 5 ((((L.1 101)) + ((L.1 100))))) 7 0) σ r h H locs ls hP hD hS (lv_sub hl [2, 3, 4, 5, 6, 1, 7, 0, 8] rfl)
      · intro L σ r h H locs ls hP hD hS hl
        rw [y_X1_makeRow__z20] at h
        refine lv_iinc (v := ((L.1 8)) + 1) (lv' := [(8, .int (((L.1 8)) + 1)), (0, .ref (a 0)), (1, .int (L.1 1)), (2, .ref (z 20)), (3, .int (L.1 3)), (4, .int (L.1 4)), (5, .int (L.1 5)), (6, .int (L.1 6)), (7, .int (L.1 7))]) hx hb dX1_makeRow_178 hl (k := 8) rfl rfl (by decide) rfl (fun ls hl => ?_)
        refine lv_goto (tgt := 39) hx hb dX1_makeRow_181 (by decide) ?_
        exact ih.2.2.2.2.2.2.1 (lI L 8 ((((L.1 8)) + 1))) σ r h H locs ls hP hD hS (lv_sub hl [1, 2, 3, 4, 5, 6, 7, 8, 0] rfl)
      · intro L σ r h H locs ls hP hD hS hl
        rw [y_X1_makeRow__z20] at h
        refine lv_iconst (v := 0) hx hb dX1_makeRow_254 (by decide) ?_
        exact ih.2.2.2.2.2.2.2.2.2.2.2.2.2.2.2.2.2.2.2.2.2 (lI (lI (lI L 100 0) 101 ((L.1 100))) 102 ((L.1 101))) σ r h H locs ls hP hD hS (lv_sub hl [0, 1, 2, 3, 4, 5, 6] rfl)
      · intro L σ r h H locs ls hP hD hS hl
        rw [y_X1_makeRow__z20] at h
        refine lv_ior hx hb dX1_makeRow_255 ?_
        refine lv_iload hx hb dX1_makeRow_256 (lv_at hl 3 rfl) ?_
        refine lv_iconst (v := 4) hx hb dX1_makeRow_258 (by decide) ?_
        refine lv_ishl hx hb dX1_makeRow_259 ?_
        refine lv_ior hx hb dX1_makeRow_260 ?_
        refine lv_iload hx hb dX1_makeRow_261 (lv_at hl 4 rfl) ?_
        refine lv_bipush (v := 16) hx hb dX1_makeRow_263 (by decide) ?_
        refine lv_ishl hx hb dX1_makeRow_265 ?_
        refine lv_ior hx hb dX1_makeRow_266 ?_
        refine lv_iload hx hb dX1_makeRow_267 (lv_at hl 5 rfl) ?_
        refine lv_iconst (v := 1) hx hb dX1_makeRow_269 (by decide) ?_
        refine lv_iadd hx hb dX1_makeRow_270 ?_
        refine lv_bipush (v := 26) hx hb dX1_makeRow_271 (by decide) ?_
        refine lv_ishl hx hb dX1_makeRow_273 ?_
        refine lv_ior hx hb dX1_makeRow_274 ?_
        obtain ⟨q1, h⟩ := kb_ite1 h
        refine hs_3 hx hb hK hP hD hS q1 dX1_makeRow_275 (fun H locs hP hD hS => ?_)
        refine lv_aload_n hx hb dX1_makeRow_276 rfl (lv_at hl 1 rfl) ?_
        refine lv_iload_n hx hb dX1_makeRow_277 rfl (lv_at hl 2 rfl) ?_
        refine lv_aload_n hx hb dX1_makeRow_278 rfl (lv_at hl 0 rfl) ?_
        refine hg_0_0 hx hb hts in_y_X1_makeRow__z20_X1 hown hK hP (hts _ (List.mem_cons_of_mem _ (List.mem_append_left _ (List.mem_append_left _ (List.mem_of_getElem? (i := 0) rfl))))) dX1_makeRow_279 ?_
        refine lv_iload hx hb dX1_makeRow_282 (lv_at hl 6 rfl) ?_
        refine lv_iconst (v := 1) hx hb dX1_makeRow_284 (by decide) ?_
        refine lv_iadd hx hb dX1_makeRow_285 ?_
        refine lv_iload hx hb dX1_makeRow_286 (lv_at hl 3 rfl) ?_
        obtain ⟨q2, h⟩ := kb_ite1 h
        refine va_copyi (ty := .int) hx hb (hml.trans hl.1.symm) hown (hts _ (List.mem_cons_of_mem _ (List.mem_append_left _ (List.mem_append_left _ (List.mem_of_getElem? (i := 8) rfl))))) (hts _ (List.mem_cons_of_mem _ (List.mem_append_left _ (List.mem_append_left _ (List.mem_of_getElem? (i := 9) rfl))))) (hts _ (List.mem_cons_of_mem _ (List.mem_append_left _ (List.mem_append_left _ (List.mem_of_getElem? (i := 10) rfl))))) (hts _ (List.mem_cons_of_mem _ (List.mem_append_left _ (List.mem_append_left _ (List.mem_of_getElem? (i := 11) rfl))))) hK hP hD hS 20 3 1 1 rfl rfl rfl rfl rfl q2.1 q2.2.1 q2.2.2.1 q2.2.2.2.1 q2.2.2.2.2 (fun _ _ => rfl) (Nat.le_of_ble_eq_true rfl) (Nat.le_of_ble_eq_true rfl) dX1_makeRow_288 (fun H locs hP hD hS => ?_)
        have hP : va_P (dC, dI) nCl (vC cy a z (uF (uA σ 3 ((L.1 102)).toNatClampNeg ((((((((((L.1 101)) ||| ((L.1 100)))) ||| ((((L.1 4)) <<< ((4 : Int32) &&& 31))))) ||| ((((L.1 5)) <<< ((16 : Int32) &&& 31))))) ||| ((((((L.1 6)) + 1)) <<< ((26 : Int32) &&& 31)))))) 3 (va_cpy ((uA σ 3 ((L.1 102)).toNatClampNeg ((((((((((L.1 101)) ||| ((L.1 100)))) ||| ((((L.1 4)) <<< ((4 : Int32) &&& 31))))) ||| ((((L.1 5)) <<< ((16 : Int32) &&& 31))))) ||| ((((((L.1 6)) + 1)) <<< ((26 : Int32) &&& 31)))))).2.2.1 20) ((uA σ 3 ((L.1 102)).toNatClampNeg ((((((((((L.1 101)) ||| ((L.1 100)))) ||| ((((L.1 4)) <<< ((4 : Int32) &&& 31))))) ||| ((((L.1 5)) <<< ((16 : Int32) &&& 31))))) ||| ((((((L.1 6)) + 1)) <<< ((26 : Int32) &&& 31)))))).2.2.1 3) ((L.1 3)).toNatClampNeg ((((L.1 8)) + 1)).toNatClampNeg ((L.1 4)).toNatClampNeg))) H := hP
        have hD : va_D A (vC cy a z (uF (uA σ 3 ((L.1 102)).toNatClampNeg ((((((((((L.1 101)) ||| ((L.1 100)))) ||| ((((L.1 4)) <<< ((4 : Int32) &&& 31))))) ||| ((((L.1 5)) <<< ((16 : Int32) &&& 31))))) ||| ((((((L.1 6)) + 1)) <<< ((26 : Int32) &&& 31)))))) 3 (va_cpy ((uA σ 3 ((L.1 102)).toNatClampNeg ((((((((((L.1 101)) ||| ((L.1 100)))) ||| ((((L.1 4)) <<< ((4 : Int32) &&& 31))))) ||| ((((L.1 5)) <<< ((16 : Int32) &&& 31))))) ||| ((((((L.1 6)) + 1)) <<< ((26 : Int32) &&& 31)))))).2.2.1 20) ((uA σ 3 ((L.1 102)).toNatClampNeg ((((((((((L.1 101)) ||| ((L.1 100)))) ||| ((((L.1 4)) <<< ((4 : Int32) &&& 31))))) ||| ((((L.1 5)) <<< ((16 : Int32) &&& 31))))) ||| ((((((L.1 6)) + 1)) <<< ((26 : Int32) &&& 31)))))).2.2.1 3) ((L.1 3)).toNatClampNeg ((((L.1 8)) + 1)).toNatClampNeg ((L.1 4)).toNatClampNeg))) := hD
        refine lv_iload hx hb dX1_makeRow_291 (lv_at hl 6 rfl) ?_
        obtain rfl := Option.some.inj h
        exact W.iret (v := (L.1 8)) hx hb hr (fun t ht hW => ⟨⟨(L.1 8), (), rfl, rfl, by rw [ht]; exact hP, va_K.moved hW.alike hK, hD⟩, hS.F ht⟩) hS.2.2 dX1_makeRow_293
  exact (blk k0).1 L0 σ0 r0 h0 s.heap [] ls hP hD hS hl
/-! X0_setOf__z20 -/
def y_X0_setOf__z20 : Nat → Nat → LV → CS → Option (Int32 × CS)
  | 0, _, _, _ => none
  | k + 1, 0, L, σ => y_X0_setOf__z20 k 1 (lI L 4 ((L.1 2))) σ
  | k + 1, 1, L, σ => if ((((L.1 2)) + ((L.1 3)))) ≤ ((L.1 4)) then (y_X0_setOf__z20 k 2 L σ) else (if ¬ (((L.1 4)) < 0 ∨ (sN σ 20) ≤ ((L.1 4)).toNatClampNeg) then (if ((σ.2.2.1 20 ((L.1 4)).toNatClampNeg)) = ((-2147483648)) then (some ((-268435453), σ)) else (y_X0_setOf__z20 k 3 L σ)) else none)
  | k + 1, 2, L, σ => y_X0_setOf__z20 k 4 (lI (lI (lI L 4 0) 5 1) 6 0) σ
  | k + 1, 3, L, σ => y_X0_setOf__z20 k 1 (lI L 4 ((((L.1 4)) + 1))) σ
  | k + 1, 4, L, σ => if ((L.1 3)) ≤ ((L.1 6)) then (y_X0_setOf__z20 k 5 L σ) else (if ¬ (((((L.1 2)) + ((L.1 6)))) < 0 ∨ (sN σ 20) ≤ ((((L.1 2)) + ((L.1 6)))).toNatClampNeg) then (oc (y_X0_insert__z20 k 0 (lI (lI (lI (lI lZ 2 ((L.1 2))) 3 ((L.1 4))) 4 ((((L.1 2)) + ((L.1 4))))) 5 ((σ.2.2.1 20 ((((L.1 2)) + ((L.1 6)))).toNatClampNeg))) σ) (fun r3 => if r3.1 = 0 then (y_X0_setOf__z20 k 6 L r3.2) else (oc (y_X1_size k 0 (lI lZ 1 ((σ.2.2.1 20 ((((L.1 2)) + ((L.1 6)))).toNatClampNeg))) r3.2) (fun r5 => if ((((L.1 5)) + r5.1)) ≤ 1000 then (y_X0_setOf__z20 k 6 (lI (lI L 4 ((((L.1 4)) + 1))) 5 ((((L.1 5)) + r5.1))) r5.2) else (some ((-268435451), r5.2)))))) else none)
  | k + 1, 5, L, σ => oc (y_X1_makeRow__z20 k 0 (lI (lI (lI lZ 1 6) 3 ((L.1 2))) 4 ((L.1 4))) σ) (fun r1 => some (r1.1, r1.2))
  | k + 1, 6, L, σ => y_X0_setOf__z20 k 4 (lI L 6 ((((L.1 6)) + 1))) σ
  | _ + 1, _ + 7, _, _ => none
def o_y_X0_setOf__z20 : List Cond := [.constant RX0 167 (-2147483648), .constant RX0 174 (-268435453), .methodLink RX0 175 yX0_insert, .instanceMethod yX0_insert, .selects RX0 yX0_insert yX0_insert, .initialized RX0, .fieldLink RX0 22 "SetHouse$Algebra" "heap" "LSetHouse$Heap;", .methodLink RX0 179 yX1_size, .instanceMethod yX1_size, .selects RX1 yX1_size yX1_size, .initialized RX1, .constant RX0 139 (-268435451), .methodLink RX0 160 yX1_makeRow, .instanceMethod yX1_makeRow, .selects RX1 yX1_makeRow yX1_makeRow]
theorem o_y_X0_setOf__z20_good : o_y_X0_setOf__z20.all goodWord = true := by decide +kernel
def p_y_X0_setOf__z20 : List Cond := o_y_X0_setOf__z20 ++ ((.code yX0_insert cX0_insert 10 (some .boolean) :: p_y_X0_insert__z20) ++ ((.code yX1_size cX1_size 3 (some .int) :: p_y_X1_size) ++ ((.code yX1_makeRow cX1_makeRow 11 (some .int) :: p_y_X1_makeRow__z20) ++ [])))
theorem p_y_X0_setOf__z20_good : p_y_X0_setOf__z20.all goodWord = true := nb_all2 o_y_X0_setOf__z20_good (nb_all2 (nb_allc (by decide +kernel) p_y_X0_insert__z20_good) (nb_all2 (nb_allc (by decide +kernel) p_y_X1_size_good) (nb_all2 (nb_allc (by decide +kernel) p_y_X1_makeRow__z20_good) rfl)))
def w_y_X0_setOf__z20 : List Cond := .code yX0_setOf cX0_setOf 8 (some .int) :: (p_y_X0_setOf__z20 ++ fC)
theorem w_y_X0_setOf__z20_good : w_y_X0_setOf__z20.all goodWord = true := nb_allc (by decide +kernel) (nb_all2 p_y_X0_setOf__z20_good fC_good)
theorem in_y_X0_setOf__z20_X0 : ∀ w ∈ wsX00, w ∈ w_y_X0_setOf__z20 := fun _ h => List.mem_cons_of_mem _ (List.mem_append_right _ (List.mem_append_left _ h))
theorem hd_y_X0_setOf__z20 : yX0_setOf.cls = RX0 ∧ yX0_setOf.cls ≠ "java/lang/invoke/MethodHandle" ∧ yX0_setOf.cls ≠ "java/lang/invoke/VarHandle" ∧ (parseMethodDescriptor yX0_setOf.desc).map (fun d => d.parameters.length) = some 3 := by decide +kernel
theorem gg_y_X0_setOf__z20_X0_insert__z20 : GoodIn w_y_X0_setOf__z20 w_y_X0_insert__z20 := goodIn_sub (fun w h => (List.mem_cons.mp h).elim (fun e => (List.mem_cons_of_mem _ (List.mem_append_left _ (List.mem_append_right _ (List.mem_append_left _ (List.mem_cons.mpr (Or.inl e))))))) (fun h => (List.mem_append.mp h).elim (fun h => (List.mem_cons_of_mem _ (List.mem_append_left _ (List.mem_append_right _ (List.mem_append_left _ (List.mem_cons_of_mem _ h)))))) (fun h => List.mem_cons_of_mem _ (List.mem_append_right _ h)))) w_y_X0_insert__z20_good
theorem g_y_X0_setOf__z20_X0_insert__z20_V175 : GoodIn w_y_X0_setOf__z20 (wsV RX0 175 RX0 yX0_insert w_y_X0_insert__z20) := goodIn_app (nb_g4 (List.mem_cons_of_mem _ (List.mem_append_left _ (List.mem_append_left _ (List.mem_of_getElem? (i := 2) rfl)))) (List.mem_cons_of_mem _ (List.mem_append_left _ (List.mem_append_left _ (List.mem_of_getElem? (i := 3) rfl)))) (List.mem_cons_of_mem _ (List.mem_append_left _ (List.mem_append_left _ (List.mem_of_getElem? (i := 4) rfl)))) (List.mem_cons_of_mem _ (List.mem_append_left _ (List.mem_append_left _ (List.mem_of_getElem? (i := 5) rfl)))) (by decide +kernel)) gg_y_X0_setOf__z20_X0_insert__z20
theorem gg_y_X0_setOf__z20_X1_makeRow__z20 : GoodIn w_y_X0_setOf__z20 w_y_X1_makeRow__z20 := goodIn_sub (fun w h => (List.mem_cons.mp h).elim (fun e => (List.mem_cons_of_mem _ (List.mem_append_left _ (List.mem_append_right _ (List.mem_append_right _ (List.mem_append_right _ (List.mem_append_left _ (List.mem_cons.mpr (Or.inl e))))))))) (fun h => (List.mem_append.mp h).elim (fun h => (List.mem_cons_of_mem _ (List.mem_append_left _ (List.mem_append_right _ (List.mem_append_right _ (List.mem_append_right _ (List.mem_append_left _ (List.mem_cons_of_mem _ h)))))))) (fun h => List.mem_cons_of_mem _ (List.mem_append_right _ h)))) w_y_X1_makeRow__z20_good
theorem g_y_X0_setOf__z20_X1_makeRow__z20_V160 : GoodIn w_y_X0_setOf__z20 (wsV RX0 160 RX1 yX1_makeRow w_y_X1_makeRow__z20) := goodIn_app (nb_g4 (List.mem_cons_of_mem _ (List.mem_append_left _ (List.mem_append_left _ (List.mem_of_getElem? (i := 12) rfl)))) (List.mem_cons_of_mem _ (List.mem_append_left _ (List.mem_append_left _ (List.mem_of_getElem? (i := 13) rfl)))) (List.mem_cons_of_mem _ (List.mem_append_left _ (List.mem_append_left _ (List.mem_of_getElem? (i := 14) rfl)))) (List.mem_cons_of_mem _ (List.mem_append_left _ (List.mem_append_left _ (List.mem_of_getElem? (i := 10) rfl)))) (by decide +kernel)) gg_y_X0_setOf__z20_X1_makeRow__z20
theorem gg_y_X0_setOf__z20_X1_size : GoodIn w_y_X0_setOf__z20 w_y_X1_size := goodIn_sub (fun w h => (List.mem_cons.mp h).elim (fun e => (List.mem_cons_of_mem _ (List.mem_append_left _ (List.mem_append_right _ (List.mem_append_right _ (List.mem_append_left _ (List.mem_cons.mpr (Or.inl e)))))))) (fun h => (List.mem_append.mp h).elim (fun h => (List.mem_cons_of_mem _ (List.mem_append_left _ (List.mem_append_right _ (List.mem_append_right _ (List.mem_append_left _ (List.mem_cons_of_mem _ h))))))) (fun h => List.mem_cons_of_mem _ (List.mem_append_right _ h)))) w_y_X1_size_good
theorem g_y_X0_setOf__z20_X1_size_V179 : GoodIn w_y_X0_setOf__z20 (wsV RX0 179 RX1 yX1_size w_y_X1_size) := goodIn_app (nb_g4 (List.mem_cons_of_mem _ (List.mem_append_left _ (List.mem_append_left _ (List.mem_of_getElem? (i := 7) rfl)))) (List.mem_cons_of_mem _ (List.mem_append_left _ (List.mem_append_left _ (List.mem_of_getElem? (i := 8) rfl)))) (List.mem_cons_of_mem _ (List.mem_append_left _ (List.mem_append_left _ (List.mem_of_getElem? (i := 9) rfl)))) (List.mem_cons_of_mem _ (List.mem_append_left _ (List.mem_append_left _ (List.mem_of_getElem? (i := 10) rfl)))) (by decide +kernel)) gg_y_X0_setOf__z20_X1_size
set_option maxHeartbeats 40000000 in
set_option maxRecDepth 100000 in
theorem c_y_X0_setOf__z20 (l : Launch) (dC : Nat → ClassId) (dI : Nat → Nat → Nat) (cy : Nat → ClassId) (a z : Nat → Nat) (k0 : Nat) (L0 : LV) (σ0 : CS) (r0 : Int32 × CS) (h0 : y_X0_setOf__z20 k0 0 L0 σ0 = some r0) (sz : Nat) : Met l yX0_setOf w_y_X0_setOf__z20 ({ frames := 64, cells := 0, slots := 0, locals := 1789 }) (va_Pc [.ref (a 14), .ref (z 20), .int (L0.1 2), .int (L0.1 3)] (nIn (dC, dI) cy sz (vC cy a z σ0))) (va_Qi (fun (x : Int32) (_ : Unit) => x = r0.1) (fun _ t => nOut (dC, dI) cy (va_A (vC cy a z σ0) sz) (vC cy a z r0.2) t) (va_A (vC cy a z σ0) sz)) 0 0 (va_A (vC cy a z σ0) sz) := by
  refine Met.ofW (cc := cX0_setOf) (maxL := 8) (ret := (some .int)) (by decide) rfl ?_
  intro p e s m args below meth c s₁ B hml hv
  obtain ⟨rfl, hsz, hP, hK, hD0, hG⟩ := hv
  have hx := B.exec
  have hb := B.bytes
  have hr := B.returns
  have hts := atoms_spec (ws := w_y_X0_setOf__z20) B.pre
  have hown : s.vm.findClass RX0 = some m.cls := findClass_of_methodNamed B.named
  have hlocks := B.notSynchronized
  subst hsz
  have hD := hD0.self (sz := s.heap.size)
  generalize hAe : va_A (vC cy a z σ0) s.heap.size = A at hD ⊢
  have hA : ∀ q : Nat, s.heap.size ≤ q → A q := fun q h => by rw [← hAe]; exact Or.inr h
  have hS : va_S A s.heap s.heap [] := va_S.rf
  have hl := lv_entry ([.ref (a 14), .ref (z 20), .int (L0.1 2), .int (L0.1 3)]) (n := 8) (Nat.le_of_ble_eq_true rfl)
  rw [lg_entry_eq]
  generalize (lg_sl ([.ref (a 14), .ref (z 20), .int (L0.1 2), .int (L0.1 3)]) ++ List.replicate (8 - (lg_sl ([.ref (a 14), .ref (z 20), .int (L0.1 2), .int (L0.1 3)])).length) Slot.unset).toArray = ls at hl ⊢
  have hl : lv_has ls 8 [(0, .ref (a 14)), (1, .ref (z 20)), (2, .int (L0.1 2)), (3, .int (L0.1 3))] := hl
  have blk : ∀ k : Nat, (bC p l e (headSpec w_y_X0_setOf__z20 ({ frames := 64, cells := 0, slots := 0, locals := 1789 })).room s m #[.ref (a 14), .ref (z 20), .int (L0.1 2), .int (L0.1 3)] below meth c dC dI cy a z A (kI dC dI cy a z A below #[.ref (a 14), .ref (z 20), .int (L0.1 2), .int (L0.1 3)] s) 8 (y_X0_setOf__z20 k 0) (fun L => [(0, .ref (a 14)), (1, .ref (z 20)), (2, .int (L.1 2)), (3, .int (L.1 3))]) 0 (fun L => [])) ∧ (bC p l e (headSpec w_y_X0_setOf__z20 ({ frames := 64, cells := 0, slots := 0, locals := 1789 })).room s m #[.ref (a 14), .ref (z 20), .int (L0.1 2), .int (L0.1 3)] below meth c dC dI cy a z A (kI dC dI cy a z A below #[.ref (a 14), .ref (z 20), .int (L0.1 2), .int (L0.1 3)] s) 8 (y_X0_setOf__z20 k 1) (fun L => [(0, .ref (a 14)), (1, .ref (z 20)), (2, .int (L.1 2)), (3, .int (L.1 3)), (4, .int (L.1 4))]) 3 (fun L => [])) ∧ (bC p l e (headSpec w_y_X0_setOf__z20 ({ frames := 64, cells := 0, slots := 0, locals := 1789 })).room s m #[.ref (a 14), .ref (z 20), .int (L0.1 2), .int (L0.1 3)] below meth c dC dI cy a z A (kI dC dI cy a z A below #[.ref (a 14), .ref (z 20), .int (L0.1 2), .int (L0.1 3)] s) 8 (y_X0_setOf__z20 k 2) (fun L => [(0, .ref (a 14)), (1, .ref (z 20)), (2, .int (L.1 2)), (3, .int (L.1 3))]) 29 (fun L => [])) ∧ (bC p l e (headSpec w_y_X0_setOf__z20 ({ frames := 64, cells := 0, slots := 0, locals := 1789 })).room s m #[.ref (a 14), .ref (z 20), .int (L0.1 2), .int (L0.1 3)] below meth c dC dI cy a z A (kI dC dI cy a z A below #[.ref (a 14), .ref (z 20), .int (L0.1 2), .int (L0.1 3)] s) 8 (y_X0_setOf__z20 k 3) (fun L => [(0, .ref (a 14)), (1, .ref (z 20)), (2, .int (L.1 2)), (3, .int (L.1 3)), (4, .int (L.1 4))]) 23 (fun L => [])) ∧ (bC p l e (headSpec w_y_X0_setOf__z20 ({ frames := 64, cells := 0, slots := 0, locals := 1789 })).room s m #[.ref (a 14), .ref (z 20), .int (L0.1 2), .int (L0.1 3)] below meth c dC dI cy a z A (kI dC dI cy a z A below #[.ref (a 14), .ref (z 20), .int (L0.1 2), .int (L0.1 3)] s) 8 (y_X0_setOf__z20 k 4) (fun L => [(0, .ref (a 14)), (1, .ref (z 20)), (2, .int (L.1 2)), (3, .int (L.1 3)), (4, .int (L.1 4)), (5, .int (L.1 5)), (6, .int (L.1 6))]) 38 (fun L => [])) ∧ (bC p l e (headSpec w_y_X0_setOf__z20 ({ frames := 64, cells := 0, slots := 0, locals := 1789 })).room s m #[.ref (a 14), .ref (z 20), .int (L0.1 2), .int (L0.1 3)] below meth c dC dI cy a z A (kI dC dI cy a z A below #[.ref (a 14), .ref (z 20), .int (L0.1 2), .int (L0.1 3)] s) 8 (y_X0_setOf__z20 k 5) (fun L => [(0, .ref (a 14)), (1, .ref (z 20)), (2, .int (L.1 2)), (4, .int (L.1 4))]) 103 (fun L => [])) ∧ (bC p l e (headSpec w_y_X0_setOf__z20 ({ frames := 64, cells := 0, slots := 0, locals := 1789 })).room s m #[.ref (a 14), .ref (z 20), .int (L0.1 2), .int (L0.1 3)] below meth c dC dI cy a z A (kI dC dI cy a z A below #[.ref (a 14), .ref (z 20), .int (L0.1 2), .int (L0.1 3)] s) 8 (y_X0_setOf__z20 k 6) (fun L => [(0, .ref (a 14)), (1, .ref (z 20)), (2, .int (L.1 2)), (3, .int (L.1 3)), (4, .int (L.1 4)), (5, .int (L.1 5)), (6, .int (L.1 6))]) 97 (fun L => [])) := by
    intro k
    induction k with
    | zero => exact ⟨fun L σ r h => (by cases h), fun L σ r h => (by cases h), fun L σ r h => (by cases h), fun L σ r h => (by cases h), fun L σ r h => (by cases h), fun L σ r h => (by cases h), fun L σ r h => (by cases h)⟩
    | succ k ih =>
      refine ⟨?_, ?_, ?_, ?_, ?_, ?_, ?_⟩
      · intro L σ r h H locs ls hP hD hS hl
        rw [y_X0_setOf__z20] at h
        refine lv_iload_n hx hb dX0_setOf_0 rfl (lv_at hl 2 rfl) ?_
        refine lv_istore (lv' := [(4, .int (L.1 2)), (0, .ref (a 14)), (1, .ref (z 20)), (2, .int (L.1 2)), (3, .int (L.1 3))]) hx hb dX0_setOf_1 hl (by decide) rfl (fun ls hl => ?_)
        exact ih.2.1 (lI L 4 ((L.1 2))) σ r h H locs ls hP hD hS (lv_sub hl [1, 2, 3, 4, 0] rfl)
      · intro L σ r h H locs ls hP hD hS hl
        rw [y_X0_setOf__z20] at h
        refine lv_iload hx hb dX0_setOf_3 (lv_at hl 4 rfl) ?_
        refine lv_iload_n hx hb dX0_setOf_5 rfl (lv_at hl 2 rfl) ?_
        refine lv_iload_n hx hb dX0_setOf_6 rfl (lv_at hl 3 rfl) ?_
        refine lv_iadd hx hb dX0_setOf_7 ?_
        refine lv_icmp_ge (tgt := 29) hx hb dX0_setOf_8 (by decide) (fun c1 => ?_) (fun c1 => ?_)
        · rw [if_pos c1] at h
          exact ih.2.2.1 L σ r h H locs ls hP hD hS (lv_sub hl [0, 1, 2, 3] rfl)
        · rw [if_neg c1] at h
          refine lv_aload_n hx hb dX0_setOf_11 rfl (lv_at hl 1 rfl) ?_
          refine lv_iload hx hb dX0_setOf_12 (lv_at hl 4 rfl) ?_
          obtain ⟨q2, h⟩ := kb_ite1 h
          refine hl_20 hx hb hK hP q2 dX0_setOf_14 ?_
          refine lv_ldc (v := (-2147483648)) hx hb hown (hts _ (List.mem_cons_of_mem _ (List.mem_append_left _ (List.mem_append_left _ (List.mem_of_getElem? (i := 0) rfl))))) dX0_setOf_15 ?_
          refine lv_icmp_ne (tgt := 23) hx hb dX0_setOf_17 (by decide) (fun c3 => ?_) (fun c3 => ?_)
          · rw [if_neg c3] at h
            exact ih.2.2.2.1 L σ r h H locs ls hP hD hS (lv_sub hl [0, 1, 2, 3, 4] rfl)
          · rw [if_pos c3] at h
            refine lv_ldc (v := (-268435453)) hx hb hown (hts _ (List.mem_cons_of_mem _ (List.mem_append_left _ (List.mem_append_left _ (List.mem_of_getElem? (i := 1) rfl))))) dX0_setOf_20 ?_
            obtain rfl := Option.some.inj h
            exact W.iret (v := (-268435453)) hx hb hr (fun t ht hW => ⟨⟨(-268435453), (), rfl, rfl, by rw [ht]; exact hP, va_K.moved hW.alike hK, hD⟩, hS.F ht⟩) hS.2.2 dX0_setOf_22
      · intro L σ r h H locs ls hP hD hS hl
        rw [y_X0_setOf__z20] at h
        refine lv_iconst (v := 0) hx hb dX0_setOf_29 (by decide) ?_
        refine lv_istore (lv' := [(4, .int 0), (0, .ref (a 14)), (1, .ref (z 20)), (2, .int (L.1 2)), (3, .int (L.1 3))]) hx hb dX0_setOf_30 hl (by decide) rfl (fun ls hl => ?_)
        refine lv_iconst (v := 1) hx hb dX0_setOf_32 (by decide) ?_
        refine lv_istore (lv' := [(5, .int 1), (4, .int 0), (0, .ref (a 14)), (1, .ref (z 20)), (2, .int (L.1 2)), (3, .int (L.1 3))]) hx hb dX0_setOf_33 hl (by decide) rfl (fun ls hl => ?_)
        refine lv_iconst (v := 0) hx hb dX0_setOf_35 (by decide) ?_
        refine lv_istore (lv' := [(6, .int 0), (5, .int 1), (4, .int 0), (0, .ref (a 14)), (1, .ref (z 20)), (2, .int (L.1 2)), (3, .int (L.1 3))]) hx hb dX0_setOf_36 hl (by decide) rfl (fun ls hl => ?_)
        exact ih.2.2.2.2.1 (lI (lI (lI L 4 0) 5 1) 6 0) σ r h H locs ls hP hD hS (lv_sub hl [3, 4, 5, 6, 2, 1, 0] rfl)
      · intro L σ r h H locs ls hP hD hS hl
        rw [y_X0_setOf__z20] at h
        refine lv_iinc (v := ((L.1 4)) + 1) (lv' := [(4, .int (((L.1 4)) + 1)), (0, .ref (a 14)), (1, .ref (z 20)), (2, .int (L.1 2)), (3, .int (L.1 3))]) hx hb dX0_setOf_23 hl (k := 4) rfl rfl (by decide) rfl (fun ls hl => ?_)
        refine lv_goto (tgt := 3) hx hb dX0_setOf_26 (by decide) ?_
        exact ih.2.1 (lI L 4 ((((L.1 4)) + 1))) σ r h H locs ls hP hD hS (lv_sub hl [1, 2, 3, 4, 0] rfl)
      · intro L σ r h H locs ls hP hD hS hl
        rw [y_X0_setOf__z20] at h
        refine lv_iload hx hb dX0_setOf_38 (lv_at hl 6 rfl) ?_
        refine lv_iload_n hx hb dX0_setOf_40 rfl (lv_at hl 3 rfl) ?_
        refine lv_icmp_ge (tgt := 103) hx hb dX0_setOf_41 (by decide) (fun c1 => ?_) (fun c1 => ?_)
        · rw [if_pos c1] at h
          exact ih.2.2.2.2.2.1 L σ r h H locs ls hP hD hS (lv_sub hl [0, 1, 2, 4] rfl)
        · rw [if_neg c1] at h
          refine lv_aload_n hx hb dX0_setOf_44 rfl (lv_at hl 1 rfl) ?_
          refine lv_iload_n hx hb dX0_setOf_45 rfl (lv_at hl 2 rfl) ?_
          refine lv_iload hx hb dX0_setOf_46 (lv_at hl 6 rfl) ?_
          refine lv_iadd hx hb dX0_setOf_48 ?_
          obtain ⟨q2, h⟩ := kb_ite1 h
          refine hl_20 hx hb hK hP q2 dX0_setOf_49 ?_
          refine lv_istore (lv' := [(7, .int (σ.2.2.1 20 ((((L.1 2)) + ((L.1 6)))).toNatClampNeg)), (0, .ref (a 14)), (1, .ref (z 20)), (2, .int (L.1 2)), (3, .int (L.1 3)), (4, .int (L.1 4)), (5, .int (L.1 5)), (6, .int (L.1 6))]) hx hb dX0_setOf_50 hl (by decide) rfl (fun ls hl => ?_)
          refine lv_aload_n hx hb dX0_setOf_52 rfl (lv_at hl 1 rfl) ?_
          refine lv_aload_n hx hb dX0_setOf_53 rfl (lv_at hl 2 rfl) ?_
          refine lv_iload_n hx hb dX0_setOf_54 rfl (lv_at hl 3 rfl) ?_
          refine lv_iload hx hb dX0_setOf_55 (lv_at hl 5 rfl) ?_
          refine lv_iload_n hx hb dX0_setOf_57 rfl (lv_at hl 3 rfl) ?_
          refine lv_iload hx hb dX0_setOf_58 (lv_at hl 5 rfl) ?_
          refine lv_iadd hx hb dX0_setOf_60 ?_
          refine lv_iload hx hb dX0_setOf_61 (lv_at hl 0 rfl) ?_
          obtain ⟨r3, hc3, h⟩ := oc_ex h
          refine kc_i (va_runV (As := [.ref (z 20), .int (L.1 2), .int (L.1 4), .int (((L.1 2)) + ((L.1 4))), .int (σ.2.2.1 20 ((((L.1 2)) + ((L.1 6)))).toNatClampNeg)]) (rest := []) ⟨hx, hb, hml, hown, hts⟩ (c_y_X0_insert__z20 l dC dI cy a z k (lI (lI (lI (lI lZ 2 ((L.1 2))) 3 ((L.1 4))) 4 ((((L.1 2)) + ((L.1 4))))) 5 ((σ.2.2.1 20 ((((L.1 2)) + ((L.1 6)))).toNatClampNeg))) σ r3 hc3 H.size) (cwV 5 hts g_y_X0_setOf__z20_X0_insert__z20_V175 rfl rfl rfl hd_y_X0_insert__z20 ⟨Nat.le_of_ble_eq_true rfl, Nat.le_of_ble_eq_true rfl⟩) ⟨nb_blind, va_recv hK hP (ci := 0) (q0 := 14) rfl rfl, (kb_pre hK hG hP hD)⟩ rfl rfl hl.1 rfl (lv_room (Nat.le_of_ble_eq_true rfl)) dX0_setOf_63 ⟨Nat.le_refl _, Nat.le_refl _⟩) hA hP hD hS (fun H locs hP hD hS => ?_)
          refine lv_if_eq (tgt := 97) hx hb dX0_setOf_66 (by decide) (fun c4 => ?_) (fun c4 => ?_)
          · rw [if_pos c4] at h
            exact ih.2.2.2.2.2.2 L r3.2 r h H locs ls hP hD hS (lv_sub hl [1, 2, 3, 4, 5, 6, 7] rfl)
          · rw [if_neg c4] at h
            refine lv_iinc (v := ((L.1 4)) + 1) (lv' := [(4, .int (((L.1 4)) + 1)), (7, .int (σ.2.2.1 20 ((((L.1 2)) + ((L.1 6)))).toNatClampNeg)), (0, .ref (a 14)), (1, .ref (z 20)), (2, .int (L.1 2)), (3, .int (L.1 3)), (5, .int (L.1 5)), (6, .int (L.1 6))]) hx hb dX0_setOf_69 hl (k := 5) rfl rfl (by decide) rfl (fun ls hl => ?_)
            refine lv_iload hx hb dX0_setOf_72 (lv_at hl 6 rfl) ?_
            refine lv_aload_n hx hb dX0_setOf_74 rfl (lv_at hl 2 rfl) ?_
            refine hg_14_0 hx hb hts in_y_X0_setOf__z20_X0 hown hK hP (hts _ (List.mem_cons_of_mem _ (List.mem_append_left _ (List.mem_append_left _ (List.mem_of_getElem? (i := 6) rfl))))) dX0_setOf_75 ?_
            refine lv_iload hx hb dX0_setOf_78 (lv_at hl 1 rfl) ?_
            obtain ⟨r5, hc5, h⟩ := oc_ex h
            refine kc_i (va_runV (As := [.int (σ.2.2.1 20 ((((L.1 2)) + ((L.1 6)))).toNatClampNeg)]) (rest := [.int (L.1 5)]) ⟨hx, hb, hml, hown, hts⟩ (c_y_X1_size l dC dI cy a z k (lI lZ 1 ((σ.2.2.1 20 ((((L.1 2)) + ((L.1 6)))).toNatClampNeg))) r3.2 r5 hc5 H.size) (cwV 1 hts g_y_X0_setOf__z20_X1_size_V179 rfl rfl rfl hd_y_X1_size ⟨Nat.le_of_ble_eq_true rfl, Nat.le_of_ble_eq_true rfl⟩) ⟨nb_blind, va_recv hK hP (ci := 1) (q0 := 0) rfl rfl, (kb_pre hK hG hP hD)⟩ rfl rfl hl.1 rfl (lv_room (Nat.le_of_ble_eq_true rfl)) dX0_setOf_80 ⟨Nat.le_refl _, Nat.le_refl _⟩) hA hP hD hS (fun H locs hP hD hS => ?_)
            refine lv_iadd hx hb dX0_setOf_83 ?_
            refine lv_istore (lv' := [(5, .int (((L.1 5)) + r5.1)), (4, .int (((L.1 4)) + 1)), (7, .int (σ.2.2.1 20 ((((L.1 2)) + ((L.1 6)))).toNatClampNeg)), (0, .ref (a 14)), (1, .ref (z 20)), (2, .int (L.1 2)), (3, .int (L.1 3)), (6, .int (L.1 6))]) hx hb dX0_setOf_84 hl (by decide) rfl (fun ls hl => ?_)
            refine lv_iload hx hb dX0_setOf_86 (lv_at hl 0 rfl) ?_
            refine lv_sipush (v := 1000) hx hb dX0_setOf_88 (by decide) ?_
            refine lv_icmp_le (tgt := 97) hx hb dX0_setOf_91 (by decide) (fun c6 => ?_) (fun c6 => ?_)
            · rw [if_pos c6] at h
              exact ih.2.2.2.2.2.2 (lI (lI L 4 ((((L.1 4)) + 1))) 5 ((((L.1 5)) + r5.1))) r5.2 r h H locs ls hP hD hS (lv_sub hl [3, 4, 5, 6, 1, 0, 7] rfl)
            · rw [if_neg c6] at h
              refine lv_ldc (v := (-268435451)) hx hb hown (hts _ (List.mem_cons_of_mem _ (List.mem_append_left _ (List.mem_append_left _ (List.mem_of_getElem? (i := 11) rfl))))) dX0_setOf_94 ?_
              obtain rfl := Option.some.inj h
              exact W.iret (v := (-268435451)) hx hb hr (fun t ht hW => ⟨⟨(-268435451), (), rfl, rfl, by rw [ht]; exact hP, va_K.moved hW.alike hK, hD⟩, hS.F ht⟩) hS.2.2 dX0_setOf_96
      · intro L σ r h H locs ls hP hD hS hl
        rw [y_X0_setOf__z20] at h
        refine lv_aload_n hx hb dX0_setOf_103 rfl (lv_at hl 0 rfl) ?_
        refine hg_14_0 hx hb hts in_y_X0_setOf__z20_X0 hown hK hP (hts _ (List.mem_cons_of_mem _ (List.mem_append_left _ (List.mem_append_left _ (List.mem_of_getElem? (i := 6) rfl))))) dX0_setOf_104 ?_
        refine lv_bipush (v := 6) hx hb dX0_setOf_107 (by decide) ?_
        refine lv_aload_n hx hb dX0_setOf_109 rfl (lv_at hl 1 rfl) ?_
        refine lv_iload_n hx hb dX0_setOf_110 rfl (lv_at hl 2 rfl) ?_
        refine lv_iload hx hb dX0_setOf_111 (lv_at hl 3 rfl) ?_
        obtain ⟨r1, hc1, h⟩ := oc_ex h
        refine kc_i (va_runV (As := [.int 6, .ref (z 20), .int (L.1 2), .int (L.1 4)]) (rest := []) ⟨hx, hb, hml, hown, hts⟩ (c_y_X1_makeRow__z20 l dC dI cy a z k (lI (lI (lI lZ 1 6) 3 ((L.1 2))) 4 ((L.1 4))) σ r1 hc1 H.size) (cwV 4 hts g_y_X0_setOf__z20_X1_makeRow__z20_V160 rfl rfl rfl hd_y_X1_makeRow__z20 ⟨Nat.le_of_ble_eq_true rfl, Nat.le_of_ble_eq_true rfl⟩) ⟨nb_blind, va_recv hK hP (ci := 1) (q0 := 0) rfl rfl, (kb_pre hK hG hP hD)⟩ rfl rfl hl.1 rfl (lv_room (Nat.le_of_ble_eq_true rfl)) dX0_setOf_113 ⟨Nat.le_refl _, Nat.le_refl _⟩) hA hP hD hS (fun H locs hP hD hS => ?_)
        obtain rfl := Option.some.inj h
        exact W.iret (v := r1.1) hx hb hr (fun t ht hW => ⟨⟨r1.1, (), rfl, rfl, by rw [ht]; exact hP, va_K.moved hW.alike hK, hD⟩, hS.F ht⟩) hS.2.2 dX0_setOf_116
      · intro L σ r h H locs ls hP hD hS hl
        rw [y_X0_setOf__z20] at h
        refine lv_iinc (v := ((L.1 6)) + 1) (lv' := [(6, .int (((L.1 6)) + 1)), (0, .ref (a 14)), (1, .ref (z 20)), (2, .int (L.1 2)), (3, .int (L.1 3)), (4, .int (L.1 4)), (5, .int (L.1 5))]) hx hb dX0_setOf_97 hl (k := 6) rfl rfl (by decide) rfl (fun ls hl => ?_)
        refine lv_goto (tgt := 38) hx hb dX0_setOf_100 (by decide) ?_
        exact ih.2.2.2.2.1 (lI L 6 ((((L.1 6)) + 1))) σ r h H locs ls hP hD hS (lv_sub hl [1, 2, 3, 4, 5, 6, 0] rfl)
  exact (blk k0).1 L0 σ0 r0 h0 s.heap [] ls hP hD hS hl
/-! X1_makeTuple__z20 -/
def y_X1_makeTuple__z20 : Nat → Nat → LV → CS → Option (Int32 × CS)
  | 0, _, _, _ => none
  | k + 1, 0, L, σ => y_X1_makeTuple__z20 k 1 (lI (lI L 4 ((L.1 3))) 5 ((L.1 3))) σ
  | k + 1, 1, L, σ => if ((L.1 5)) ≤ 0 then (y_X1_makeTuple__z20 k 2 L σ) else (if ¬ (((((((L.1 2)) + ((L.1 5)))) - 1)) < 0 ∨ (sN σ 20) ≤ ((((((L.1 2)) + ((L.1 5)))) - 1)).toNatClampNeg) then (if ((σ.2.2.1 20 ((((((L.1 2)) + ((L.1 5)))) - 1)).toNatClampNeg)) = ((-2147483648)) then (y_X1_makeTuple__z20 k 1 (lI (lI L 4 ((((L.1 5)) - 1))) 5 ((((L.1 5)) + (-1)))) σ) else (y_X1_makeTuple__z20 k 2 L σ)) else none)
  | k + 1, 2, L, σ => oc (y_X1_makeRow__z20 k 0 (lI (lI (lI lZ 1 5) 3 ((L.1 2))) 4 ((L.1 4))) σ) (fun r1 => some (r1.1, r1.2))
  | _ + 1, _ + 3, _, _ => none
def o_y_X1_makeTuple__z20 : List Cond := [.constant RX1 44 (-2147483648), .methodLink RX1 60 yX1_makeRow, .instanceMethod yX1_makeRow, .selects RX1 yX1_makeRow yX1_makeRow, .initialized RX1]
theorem o_y_X1_makeTuple__z20_good : o_y_X1_makeTuple__z20.all goodWord = true := by decide +kernel
def p_y_X1_makeTuple__z20 : List Cond := o_y_X1_makeTuple__z20 ++ ((.code yX1_makeRow cX1_makeRow 11 (some .int) :: p_y_X1_makeRow__z20) ++ [])
theorem p_y_X1_makeTuple__z20_good : p_y_X1_makeTuple__z20.all goodWord = true := nb_all2 o_y_X1_makeTuple__z20_good (nb_all2 (nb_allc (by decide +kernel) p_y_X1_makeRow__z20_good) rfl)
def w_y_X1_makeTuple__z20 : List Cond := .code yX1_makeTuple cX1_makeTuple 6 (some .int) :: (p_y_X1_makeTuple__z20 ++ fC)
theorem w_y_X1_makeTuple__z20_good : w_y_X1_makeTuple__z20.all goodWord = true := nb_allc (by decide +kernel) (nb_all2 p_y_X1_makeTuple__z20_good fC_good)
theorem hd_y_X1_makeTuple__z20 : yX1_makeTuple.cls = RX1 ∧ yX1_makeTuple.cls ≠ "java/lang/invoke/MethodHandle" ∧ yX1_makeTuple.cls ≠ "java/lang/invoke/VarHandle" ∧ (parseMethodDescriptor yX1_makeTuple.desc).map (fun d => d.parameters.length) = some 3 := by decide +kernel
theorem gg_y_X1_makeTuple__z20_X1_makeRow__z20 : GoodIn w_y_X1_makeTuple__z20 w_y_X1_makeRow__z20 := goodIn_sub (fun w h => (List.mem_cons.mp h).elim (fun e => (List.mem_cons_of_mem _ (List.mem_append_left _ (List.mem_append_right _ (List.mem_append_left _ (List.mem_cons.mpr (Or.inl e))))))) (fun h => (List.mem_append.mp h).elim (fun h => (List.mem_cons_of_mem _ (List.mem_append_left _ (List.mem_append_right _ (List.mem_append_left _ (List.mem_cons_of_mem _ h)))))) (fun h => List.mem_cons_of_mem _ (List.mem_append_right _ h)))) w_y_X1_makeRow__z20_good
theorem g_y_X1_makeTuple__z20_X1_makeRow__z20_V60 : GoodIn w_y_X1_makeTuple__z20 (wsV RX1 60 RX1 yX1_makeRow w_y_X1_makeRow__z20) := goodIn_app (nb_g4 (List.mem_cons_of_mem _ (List.mem_append_left _ (List.mem_append_left _ (List.mem_of_getElem? (i := 1) rfl)))) (List.mem_cons_of_mem _ (List.mem_append_left _ (List.mem_append_left _ (List.mem_of_getElem? (i := 2) rfl)))) (List.mem_cons_of_mem _ (List.mem_append_left _ (List.mem_append_left _ (List.mem_of_getElem? (i := 3) rfl)))) (List.mem_cons_of_mem _ (List.mem_append_left _ (List.mem_append_left _ (List.mem_of_getElem? (i := 4) rfl)))) (by decide +kernel)) gg_y_X1_makeTuple__z20_X1_makeRow__z20
set_option maxHeartbeats 40000000 in
set_option maxRecDepth 100000 in
theorem c_y_X1_makeTuple__z20 (l : Launch) (dC : Nat → ClassId) (dI : Nat → Nat → Nat) (cy : Nat → ClassId) (a z : Nat → Nat) (k0 : Nat) (L0 : LV) (σ0 : CS) (r0 : Int32 × CS) (h0 : y_X1_makeTuple__z20 k0 0 L0 σ0 = some r0) (sz : Nat) : Met l yX1_makeTuple w_y_X1_makeTuple__z20 ({ frames := 2, cells := 0, slots := 0, locals := 90 }) (va_Pc [.ref (a 0), .ref (z 20), .int (L0.1 2), .int (L0.1 3)] (nIn (dC, dI) cy sz (vC cy a z σ0))) (va_Qi (fun (x : Int32) (_ : Unit) => x = r0.1) (fun _ t => nOut (dC, dI) cy (va_A (vC cy a z σ0) sz) (vC cy a z r0.2) t) (va_A (vC cy a z σ0) sz)) 0 0 (va_A (vC cy a z σ0) sz) := by
  refine Met.ofW (cc := cX1_makeTuple) (maxL := 6) (ret := (some .int)) (by decide) rfl ?_
  intro p e s m args below meth c s₁ B hml hv
  obtain ⟨rfl, hsz, hP, hK, hD0, hG⟩ := hv
  have hx := B.exec
  have hb := B.bytes
  have hr := B.returns
  have hts := atoms_spec (ws := w_y_X1_makeTuple__z20) B.pre
  have hown : s.vm.findClass RX1 = some m.cls := findClass_of_methodNamed B.named
  have hlocks := B.notSynchronized
  subst hsz
  have hD := hD0.self (sz := s.heap.size)
  generalize hAe : va_A (vC cy a z σ0) s.heap.size = A at hD ⊢
  have hA : ∀ q : Nat, s.heap.size ≤ q → A q := fun q h => by rw [← hAe]; exact Or.inr h
  have hS : va_S A s.heap s.heap [] := va_S.rf
  have hl := lv_entry ([.ref (a 0), .ref (z 20), .int (L0.1 2), .int (L0.1 3)]) (n := 6) (Nat.le_of_ble_eq_true rfl)
  rw [lg_entry_eq]
  generalize (lg_sl ([.ref (a 0), .ref (z 20), .int (L0.1 2), .int (L0.1 3)]) ++ List.replicate (6 - (lg_sl ([.ref (a 0), .ref (z 20), .int (L0.1 2), .int (L0.1 3)])).length) Slot.unset).toArray = ls at hl ⊢
  have hl : lv_has ls 6 [(0, .ref (a 0)), (1, .ref (z 20)), (2, .int (L0.1 2)), (3, .int (L0.1 3))] := hl
  have blk : ∀ k : Nat, (bC p l e (headSpec w_y_X1_makeTuple__z20 ({ frames := 2, cells := 0, slots := 0, locals := 90 })).room s m #[.ref (a 0), .ref (z 20), .int (L0.1 2), .int (L0.1 3)] below meth c dC dI cy a z A (kI dC dI cy a z A below #[.ref (a 0), .ref (z 20), .int (L0.1 2), .int (L0.1 3)] s) 6 (y_X1_makeTuple__z20 k 0) (fun L => [(0, .ref (a 0)), (1, .ref (z 20)), (2, .int (L.1 2)), (3, .int (L.1 3))]) 0 (fun L => [])) ∧ (bC p l e (headSpec w_y_X1_makeTuple__z20 ({ frames := 2, cells := 0, slots := 0, locals := 90 })).room s m #[.ref (a 0), .ref (z 20), .int (L0.1 2), .int (L0.1 3)] below meth c dC dI cy a z A (kI dC dI cy a z A below #[.ref (a 0), .ref (z 20), .int (L0.1 2), .int (L0.1 3)] s) 6 (y_X1_makeTuple__z20 k 1) (fun L => [(0, .ref (a 0)), (1, .ref (z 20)), (2, .int (L.1 2)), (4, .int (L.1 4)), (5, .int (L.1 5))]) 6 (fun L => [])) ∧ (bC p l e (headSpec w_y_X1_makeTuple__z20 ({ frames := 2, cells := 0, slots := 0, locals := 90 })).room s m #[.ref (a 0), .ref (z 20), .int (L0.1 2), .int (L0.1 3)] below meth c dC dI cy a z A (kI dC dI cy a z A below #[.ref (a 0), .ref (z 20), .int (L0.1 2), .int (L0.1 3)] s) 6 (y_X1_makeTuple__z20 k 2) (fun L => [(0, .ref (a 0)), (1, .ref (z 20)), (2, .int (L.1 2)), (4, .int (L.1 4))]) 36 (fun L => [])) := by
    intro k
    induction k with
    | zero => exact ⟨fun L σ r h => (by cases h), fun L σ r h => (by cases h), fun L σ r h => (by cases h)⟩
    | succ k ih =>
      refine ⟨?_, ?_, ?_⟩
      · intro L σ r h H locs ls hP hD hS hl
        rw [y_X1_makeTuple__z20] at h
        refine lv_iload_n hx hb dX1_makeTuple_0 rfl (lv_at hl 3 rfl) ?_
        refine lv_istore (lv' := [(4, .int (L.1 3)), (0, .ref (a 0)), (1, .ref (z 20)), (2, .int (L.1 2)), (3, .int (L.1 3))]) hx hb dX1_makeTuple_1 hl (by decide) rfl (fun ls hl => ?_)
        refine lv_iload_n hx hb dX1_makeTuple_3 rfl (lv_at hl 4 rfl) ?_
        refine lv_istore (lv' := [(5, .int (L.1 3)), (4, .int (L.1 3)), (0, .ref (a 0)), (1, .ref (z 20)), (2, .int (L.1 2)), (3, .int (L.1 3))]) hx hb dX1_makeTuple_4 hl (by decide) rfl (fun ls hl => ?_)
        exact ih.2.1 (lI (lI L 4 ((L.1 3))) 5 ((L.1 3))) σ r h H locs ls hP hD hS (lv_sub hl [2, 3, 4, 1, 0] rfl)
      · intro L σ r h H locs ls hP hD hS hl
        rw [y_X1_makeTuple__z20] at h
        refine lv_iload hx hb dX1_makeTuple_6 (lv_at hl 4 rfl) ?_
        refine lv_if_le (tgt := 36) hx hb dX1_makeTuple_8 (by decide) (fun c1 => ?_) (fun c1 => ?_)
        · rw [if_pos c1] at h
          exact ih.2.2 L σ r h H locs ls hP hD hS (lv_sub hl [0, 1, 2, 3] rfl)
        · rw [if_neg c1] at h
          refine lv_aload_n hx hb dX1_makeTuple_11 rfl (lv_at hl 1 rfl) ?_
          refine lv_iload_n hx hb dX1_makeTuple_12 rfl (lv_at hl 2 rfl) ?_
          refine lv_iload hx hb dX1_makeTuple_13 (lv_at hl 4 rfl) ?_
          refine lv_iadd hx hb dX1_makeTuple_15 ?_
          refine lv_iconst (v := 1) hx hb dX1_makeTuple_16 (by decide) ?_
          refine lv_isub hx hb dX1_makeTuple_17 ?_
          obtain ⟨q2, h⟩ := kb_ite1 h
          refine hl_20 hx hb hK hP q2 dX1_makeTuple_18 ?_
          refine lv_ldc (v := (-2147483648)) hx hb hown (hts _ (List.mem_cons_of_mem _ (List.mem_append_left _ (List.mem_append_left _ (List.mem_of_getElem? (i := 0) rfl))))) dX1_makeTuple_19 ?_
          refine lv_icmp_ne (tgt := 36) hx hb dX1_makeTuple_21 (by decide) (fun c3 => ?_) (fun c3 => ?_)
          · rw [if_neg c3] at h
            exact ih.2.2 L σ r h H locs ls hP hD hS (lv_sub hl [0, 1, 2, 3] rfl)
          · rw [if_pos c3] at h
            refine lv_iload hx hb dX1_makeTuple_24 (lv_at hl 4 rfl) ?_
            refine lv_iconst (v := 1) hx hb dX1_makeTuple_26 (by decide) ?_
            refine lv_isub hx hb dX1_makeTuple_27 ?_
            refine lv_istore (lv' := [(4, .int (((L.1 5)) - 1)), (0, .ref (a 0)), (1, .ref (z 20)), (2, .int (L.1 2)), (5, .int (L.1 5))]) hx hb dX1_makeTuple_28 hl (by decide) rfl (fun ls hl => ?_)
            refine lv_iinc (v := ((L.1 5)) + (-1)) (lv' := [(5, .int (((L.1 5)) + (-1))), (4, .int (((L.1 5)) - 1)), (0, .ref (a 0)), (1, .ref (z 20)), (2, .int (L.1 2))]) hx hb dX1_makeTuple_30 hl (k := 4) rfl rfl (by decide) rfl (fun ls hl => ?_)
            refine lv_goto (tgt := 6) hx hb dX1_makeTuple_33 (by decide) ?_
            exact ih.2.1 (lI (lI L 4 ((((L.1 5)) - 1))) 5 ((((L.1 5)) + (-1)))) σ r h H locs ls hP hD hS (lv_sub hl [2, 3, 4, 1, 0] rfl)
      · intro L σ r h H locs ls hP hD hS hl
        rw [y_X1_makeTuple__z20] at h
        refine lv_aload_n hx hb dX1_makeTuple_36 rfl (lv_at hl 0 rfl) ?_
        refine lv_iconst (v := 5) hx hb dX1_makeTuple_37 (by decide) ?_
        refine lv_aload_n hx hb dX1_makeTuple_38 rfl (lv_at hl 1 rfl) ?_
        refine lv_iload_n hx hb dX1_makeTuple_39 rfl (lv_at hl 2 rfl) ?_
        refine lv_iload hx hb dX1_makeTuple_40 (lv_at hl 3 rfl) ?_
        obtain ⟨r1, hc1, h⟩ := oc_ex h
        refine kc_i (va_runV (As := [.int 5, .ref (z 20), .int (L.1 2), .int (L.1 4)]) (rest := []) ⟨hx, hb, hml, hown, hts⟩ (c_y_X1_makeRow__z20 l dC dI cy a z k (lI (lI (lI lZ 1 5) 3 ((L.1 2))) 4 ((L.1 4))) σ r1 hc1 H.size) (cwV 4 hts g_y_X1_makeTuple__z20_X1_makeRow__z20_V60 rfl rfl rfl hd_y_X1_makeRow__z20 ⟨Nat.le_of_ble_eq_true rfl, Nat.le_of_ble_eq_true rfl⟩) ⟨nb_blind, va_recv hK hP (ci := 1) (q0 := 0) rfl rfl, (kb_pre hK hG hP hD)⟩ rfl rfl hl.1 rfl (lv_room (Nat.le_of_ble_eq_true rfl)) dX1_makeTuple_42 ⟨Nat.le_refl _, Nat.le_refl _⟩) hA hP hD hS (fun H locs hP hD hS => ?_)
        obtain rfl := Option.some.inj h
        exact W.iret (v := r1.1) hx hb hr (fun t ht hW => ⟨⟨r1.1, (), rfl, rfl, by rw [ht]; exact hP, va_K.moved hW.alike hK, hD⟩, hS.F ht⟩) hS.2.2 dX1_makeTuple_45
  exact (blk k0).1 L0 σ0 r0 h0 s.heap [] ls hP hD hS hl
/-! X3_makeValue -/
def f_X3_makeValue : Nat → Nat → LV → CS → Option RS
  | 0, _, _, _ => none
  | k + 1, 0, L, σ => if ((L.1 1)) = (48 : Int32) then (f_X3_makeValue k 1 L σ) else (if ((L.1 1)) = (49 : Int32) then (f_X3_makeValue k 2 L σ) else (if ((L.1 1)) = (50 : Int32) then (f_X3_makeValue k 3 L σ) else (if ((L.1 1)) = (51 : Int32) then (f_X3_makeValue k 3 L σ) else (if ((L.1 1)) = (52 : Int32) then (f_X3_makeValue k 4 L σ) else (if ((L.1 1)) = (53 : Int32) then (f_X3_makeValue k 4 L σ) else (if ((L.1 1)) = (54 : Int32) then (f_X3_makeValue k 5 L σ) else (f_X3_makeValue k 6 L σ)))))))
  | k + 1, 1, L, σ => op (y_X0_setOf__z20 k 0 (lI (lI lZ 2 (((uI σ 1902 ((((σ.1 1902)) - ((L.1 2))))).1 1902))) 3 ((L.1 2))) (uI σ 1902 ((((σ.1 1902)) - ((L.1 2)))))) (fun r1 => ox (f_X3_give k 0 (lI lZ 1 r1.1) r1.2) (fun r2 => f_X3_makeValue k 7 L r2.2.1))
  | k + 1, 2, L, σ => op (y_X1_makeTuple__z20 k 0 (lI (lI lZ 2 (((uI σ 1902 ((((σ.1 1902)) - ((L.1 2))))).1 1902))) 3 ((L.1 2))) (uI σ 1902 ((((σ.1 1902)) - ((L.1 2)))))) (fun r1 => ox (f_X3_give k 0 (lI lZ 1 r1.1) r1.2) (fun r2 => f_X3_makeValue k 7 L r2.2.1))
  | k + 1, 3, L, σ => if ¬ ((((((uI σ 1902 ((((σ.1 1902)) - 1))).1 1902)) - 1)) < 0 ∨ (sN (uI σ 1902 ((((σ.1 1902)) - 1))) 20) ≤ (((((uI σ 1902 ((((σ.1 1902)) - 1))).1 1902)) - 1)).toNatClampNeg) then (if ¬ ((((uI σ 1902 ((((σ.1 1902)) - 1))).1 1902)) < 0 ∨ (sN (uI σ 1902 ((((σ.1 1902)) - 1))) 20) ≤ (((uI σ 1902 ((((σ.1 1902)) - 1))).1 1902)).toNatClampNeg) then (if ((L.1 1)) = 50 then (f_X3_makeValue k 9 (lI (lI (lI (lI L 100 1) 101 (((uI σ 1902 ((((σ.1 1902)) - 1))).2.2.1 20 (((uI σ 1902 ((((σ.1 1902)) - 1))).1 1902)).toNatClampNeg))) 102 ((-2147483648))) 103 (((uI σ 1902 ((((σ.1 1902)) - 1))).2.2.1 20 (((((uI σ 1902 ((((σ.1 1902)) - 1))).1 1902)) - 1)).toNatClampNeg))) (uI σ 1902 ((((σ.1 1902)) - 1)))) else (f_X3_makeValue k 8 (lI (lI (lI L 100 (((uI σ 1902 ((((σ.1 1902)) - 1))).2.2.1 20 (((uI σ 1902 ((((σ.1 1902)) - 1))).1 1902)).toNatClampNeg))) 101 ((-2147483648))) 102 (((uI σ 1902 ((((σ.1 1902)) - 1))).2.2.1 20 (((((uI σ 1902 ((((σ.1 1902)) - 1))).1 1902)) - 1)).toNatClampNeg))) (uI σ 1902 ((((σ.1 1902)) - 1))))) else none) else none
  | k + 1, 4, L, σ => if ¬ ((((uI σ 1902 ((((σ.1 1902)) - 2))).1 1902)) < 0 ∨ (sN (uI σ 1902 ((((σ.1 1902)) - 2))) 20) ≤ (((uI σ 1902 ((((σ.1 1902)) - 2))).1 1902)).toNatClampNeg) then (if (((uI σ 1902 ((((σ.1 1902)) - 2))).2.2.1 20 (((uI σ 1902 ((((σ.1 1902)) - 2))).1 1902)).toNatClampNeg)) = ((-2147483648)) then (f_X3_makeValue k 11 (lI L 100 ((-268435455))) (uI σ 1902 ((((σ.1 1902)) - 2)))) else (f_X3_makeValue k 10 (lI L 3 (((uI σ 1902 ((((σ.1 1902)) - 2))).2.2.1 20 (((uI σ 1902 ((((σ.1 1902)) - 2))).1 1902)).toNatClampNeg))) (uI σ 1902 ((((σ.1 1902)) - 2))))) else none
  | k + 1, 5, L, σ => ox (f_X3_newAtom k 0 lZ σ) (fun r1 => f_X3_makeValue k 7 L r1.2.1)
  | k + 1, 6, L, σ => if ¬ (((((σ.1 1902)) - 1)) < 0 ∨ (sN σ 20) ≤ ((((σ.1 1902)) - 1)).toNatClampNeg) then (op (y_X3_drawn k 0 (lI lZ 1 ((σ.2.2.1 20 ((((σ.1 1902)) - 1)).toNatClampNeg))) σ) (fun r2 => op (y_X3_replace k 0 (lI lZ 1 r2.1) r2.2) (fun r3 => f_X3_makeValue k 7 L r3.2))) else none
  | k + 1, 7, L, σ => some ((0, 0), σ, (0, 0))
  | k + 1, 8, L, σ => f_X3_makeValue k 9 (lI (lI (lI (lI L 100 0) 101 ((L.1 100))) 102 ((L.1 101))) 103 ((L.1 102))) σ
  | k + 1, 9, L, σ => op (y_X0_progression k 0 (lI (lI (lI (lI lZ 1 ((L.1 103))) 2 ((L.1 102))) 3 ((L.1 101))) 4 ((L.1 100))) σ) (fun r1 => op (y_X3_replace k 0 (lI lZ 1 r1.1) r1.2) (fun r2 => f_X3_makeValue k 7 L r2.2))
  | k + 1, 10, L, σ => if ¬ (((((σ.1 1902)) - 1)) < 0 ∨ (sN σ 20) ≤ ((((σ.1 1902)) - 1)).toNatClampNeg) then (if ¬ (((((σ.1 1902)) + 1)) < 0 ∨ (sN σ 20) ≤ ((((σ.1 1902)) + 1)).toNatClampNeg) then (if ((L.1 1)) = 52 then (f_X3_makeValue k 13 (lI (lI (lI (lI L 100 1) 101 ((σ.2.2.1 20 ((((σ.1 1902)) + 1)).toNatClampNeg))) 102 ((L.1 3))) 103 ((σ.2.2.1 20 ((((σ.1 1902)) - 1)).toNatClampNeg))) σ) else (f_X3_makeValue k 12 (lI (lI (lI L 100 ((σ.2.2.1 20 ((((σ.1 1902)) + 1)).toNatClampNeg))) 101 ((L.1 3))) 102 ((σ.2.2.1 20 ((((σ.1 1902)) - 1)).toNatClampNeg))) σ)) else none) else none
  | k + 1, 11, L, σ => op (y_X3_replace k 0 (lI lZ 1 ((L.1 100))) σ) (fun r1 => f_X3_makeValue k 7 L r1.2)
  | k + 1, 12, L, σ => f_X3_makeValue k 13 (lI (lI (lI (lI L 100 0) 101 ((L.1 100))) 102 ((L.1 101))) 103 ((L.1 102))) σ
  | k + 1, 13, L, σ => op (y_X0_progression k 0 (lI (lI (lI (lI lZ 1 ((L.1 103))) 2 ((L.1 102))) 3 ((L.1 101))) 4 ((L.1 100))) σ) (fun r1 => f_X3_makeValue k 11 (lI L 100 r1.1) r1.2)
  | _ + 1, _ + 14, _, _ => none
def o_f_X3_makeValue : List Cond := [.fieldLink RX3 14 "SetHouse$Machine" "run" "LSetHouse$Run;", .fieldLink RX3 47 "SetHouse$Machine" "algebra" "LSetHouse$Algebra;", .fieldLink RX3 18 "SetHouse$Machine" "stack" "[I", .methodLink RX3 435 yX0_setOf, .instanceMethod yX0_setOf, .selects RX0 yX0_setOf yX0_setOf, .initialized RX0, .methodLink RX3 391 yX3_give, .instanceMethod yX3_give, .selects RX3 yX3_give yX3_give, .initialized RX3, .fieldLink RX3 39 "SetHouse$Machine" "heap" "LSetHouse$Heap;", .methodLink RX3 438 yX1_makeTuple, .instanceMethod yX1_makeTuple, .selects RX1 yX1_makeTuple yX1_makeTuple, .initialized RX1, .constant RX3 136 (-2147483648), .constant RX3 445 (-268435455), .methodLink RX3 446 yX3_newAtom, .instanceMethod yX3_newAtom, .selects RX3 yX3_newAtom yX3_newAtom, .methodLink RX3 449 yX3_drawn, .instanceMethod yX3_drawn, .selects RX3 yX3_drawn yX3_drawn, .methodLink RX3 280 yX3_replace, .instanceMethod yX3_replace, .selects RX3 yX3_replace yX3_replace, .methodLink RX3 441 yX0_progression, .instanceMethod yX0_progression, .selects RX0 yX0_progression yX0_progression]
theorem o_f_X3_makeValue_good : o_f_X3_makeValue.all goodWord = true := by decide +kernel
def p_f_X3_makeValue : List Cond := o_f_X3_makeValue ++ ((.code yX0_setOf cX0_setOf 8 (some .int) :: p_y_X0_setOf__z20) ++ ((.code yX3_give cX3_give 2 none :: p_f_X3_give) ++ ((.code yX1_makeTuple cX1_makeTuple 6 (some .int) :: p_y_X1_makeTuple__z20) ++ ((.code yX3_newAtom cX3_newAtom 1 none :: p_f_X3_newAtom) ++ ((.code yX3_drawn cX3_drawn 4 (some .int) :: p_y_X3_drawn) ++ ((.code yX3_replace cX3_replace 2 none :: p_y_X3_replace) ++ ((.code yX0_progression cX0_progression 12 (some .int) :: p_y_X0_progression) ++ [])))))))
theorem p_f_X3_makeValue_good : p_f_X3_makeValue.all goodWord = true := nb_all2 o_f_X3_makeValue_good (nb_all2 (nb_allc (by decide +kernel) p_y_X0_setOf__z20_good) (nb_all2 (nb_allc (by decide +kernel) p_f_X3_give_good) (nb_all2 (nb_allc (by decide +kernel) p_y_X1_makeTuple__z20_good) (nb_all2 (nb_allc (by decide +kernel) p_f_X3_newAtom_good) (nb_all2 (nb_allc (by decide +kernel) p_y_X3_drawn_good) (nb_all2 (nb_allc (by decide +kernel) p_y_X3_replace_good) (nb_all2 (nb_allc (by decide +kernel) p_y_X0_progression_good) rfl)))))))
def w_f_X3_makeValue : List Cond := .code yX3_makeValue cX3_makeValue 4 none :: (p_f_X3_makeValue ++ fC)
theorem w_f_X3_makeValue_good : w_f_X3_makeValue.all goodWord = true := nb_allc (by decide +kernel) (nb_all2 p_f_X3_makeValue_good fC_good)
theorem in_f_X3_makeValue_X3 : ∀ w ∈ wsX30, w ∈ w_f_X3_makeValue := fun _ h => List.mem_cons_of_mem _ (List.mem_append_right _ (List.mem_append_right _ (List.mem_append_right _ (List.mem_append_right _ (List.mem_append_left _ h)))))
theorem in_f_X3_makeValue_X8 : ∀ w ∈ wsX80, w ∈ w_f_X3_makeValue := fun _ h => List.mem_cons_of_mem _ (List.mem_append_right _ (List.mem_append_right _ (List.mem_append_right _ (List.mem_append_right _ (List.mem_append_right _ (List.mem_append_right _ (List.mem_append_right _ (List.mem_append_right _ (List.mem_append_left _ h)))))))))
theorem hd_f_X3_makeValue : yX3_makeValue.cls = RX3 ∧ yX3_makeValue.cls ≠ "java/lang/invoke/MethodHandle" ∧ yX3_makeValue.cls ≠ "java/lang/invoke/VarHandle" ∧ (parseMethodDescriptor yX3_makeValue.desc).map (fun d => d.parameters.length) = some 2 := by decide +kernel
theorem gg_f_X3_makeValue_X3_give : GoodIn w_f_X3_makeValue w_f_X3_give := goodIn_sub (fun w h => (List.mem_cons.mp h).elim (fun e => (List.mem_cons_of_mem _ (List.mem_append_left _ (List.mem_append_right _ (List.mem_append_right _ (List.mem_append_left _ (List.mem_cons.mpr (Or.inl e)))))))) (fun h => (List.mem_append.mp h).elim (fun h => (List.mem_cons_of_mem _ (List.mem_append_left _ (List.mem_append_right _ (List.mem_append_right _ (List.mem_append_left _ (List.mem_cons_of_mem _ h))))))) (fun h => List.mem_cons_of_mem _ (List.mem_append_right _ h)))) w_f_X3_give_good
theorem g_f_X3_makeValue_X3_give_V391 : GoodIn w_f_X3_makeValue (wsV RX3 391 RX3 yX3_give w_f_X3_give) := goodIn_app (nb_g4 (List.mem_cons_of_mem _ (List.mem_append_left _ (List.mem_append_left _ (List.mem_of_getElem? (i := 7) rfl)))) (List.mem_cons_of_mem _ (List.mem_append_left _ (List.mem_append_left _ (List.mem_of_getElem? (i := 8) rfl)))) (List.mem_cons_of_mem _ (List.mem_append_left _ (List.mem_append_left _ (List.mem_of_getElem? (i := 9) rfl)))) (List.mem_cons_of_mem _ (List.mem_append_left _ (List.mem_append_left _ (List.mem_of_getElem? (i := 10) rfl)))) (by decide +kernel)) gg_f_X3_makeValue_X3_give
theorem gg_f_X3_makeValue_X3_newAtom : GoodIn w_f_X3_makeValue w_f_X3_newAtom := goodIn_sub (fun w h => (List.mem_cons.mp h).elim (fun e => (List.mem_cons_of_mem _ (List.mem_append_left _ (List.mem_append_right _ (List.mem_append_right _ (List.mem_append_right _ (List.mem_append_right _ (List.mem_append_left _ (List.mem_cons.mpr (Or.inl e)))))))))) (fun h => (List.mem_append.mp h).elim (fun h => (List.mem_cons_of_mem _ (List.mem_append_left _ (List.mem_append_right _ (List.mem_append_right _ (List.mem_append_right _ (List.mem_append_right _ (List.mem_append_left _ (List.mem_cons_of_mem _ h))))))))) (fun h => List.mem_cons_of_mem _ (List.mem_append_right _ h)))) w_f_X3_newAtom_good
theorem g_f_X3_makeValue_X3_newAtom_V446 : GoodIn w_f_X3_makeValue (wsV RX3 446 RX3 yX3_newAtom w_f_X3_newAtom) := goodIn_app (nb_g4 (List.mem_cons_of_mem _ (List.mem_append_left _ (List.mem_append_left _ (List.mem_of_getElem? (i := 18) rfl)))) (List.mem_cons_of_mem _ (List.mem_append_left _ (List.mem_append_left _ (List.mem_of_getElem? (i := 19) rfl)))) (List.mem_cons_of_mem _ (List.mem_append_left _ (List.mem_append_left _ (List.mem_of_getElem? (i := 20) rfl)))) (List.mem_cons_of_mem _ (List.mem_append_left _ (List.mem_append_left _ (List.mem_of_getElem? (i := 10) rfl)))) (by decide +kernel)) gg_f_X3_makeValue_X3_newAtom
theorem gg_f_X3_makeValue_X0_progression : GoodIn w_f_X3_makeValue w_y_X0_progression := goodIn_sub (fun w h => (List.mem_cons.mp h).elim (fun e => (List.mem_cons_of_mem _ (List.mem_append_left _ (List.mem_append_right _ (List.mem_append_right _ (List.mem_append_right _ (List.mem_append_right _ (List.mem_append_right _ (List.mem_append_right _ (List.mem_append_right _ (List.mem_append_left _ (List.mem_cons.mpr (Or.inl e))))))))))))) (fun h => (List.mem_append.mp h).elim (fun h => (List.mem_cons_of_mem _ (List.mem_append_left _ (List.mem_append_right _ (List.mem_append_right _ (List.mem_append_right _ (List.mem_append_right _ (List.mem_append_right _ (List.mem_append_right _ (List.mem_append_right _ (List.mem_append_left _ (List.mem_cons_of_mem _ h)))))))))))) (fun h => List.mem_cons_of_mem _ (List.mem_append_right _ h)))) w_y_X0_progression_good
theorem g_y_X3_makeValue_X0_progression_V441 : GoodIn w_f_X3_makeValue (wsV RX3 441 RX0 yX0_progression w_y_X0_progression) := goodIn_app (nb_g4 (List.mem_cons_of_mem _ (List.mem_append_left _ (List.mem_append_left _ (List.mem_of_getElem? (i := 27) rfl)))) (List.mem_cons_of_mem _ (List.mem_append_left _ (List.mem_append_left _ (List.mem_of_getElem? (i := 28) rfl)))) (List.mem_cons_of_mem _ (List.mem_append_left _ (List.mem_append_left _ (List.mem_of_getElem? (i := 29) rfl)))) (List.mem_cons_of_mem _ (List.mem_append_left _ (List.mem_append_left _ (List.mem_of_getElem? (i := 6) rfl)))) (by decide +kernel)) gg_f_X3_makeValue_X0_progression
theorem gg_f_X3_makeValue_X0_setOf__z20 : GoodIn w_f_X3_makeValue w_y_X0_setOf__z20 := goodIn_sub (fun w h => (List.mem_cons.mp h).elim (fun e => (List.mem_cons_of_mem _ (List.mem_append_left _ (List.mem_append_right _ (List.mem_append_left _ (List.mem_cons.mpr (Or.inl e))))))) (fun h => (List.mem_append.mp h).elim (fun h => (List.mem_cons_of_mem _ (List.mem_append_left _ (List.mem_append_right _ (List.mem_append_left _ (List.mem_cons_of_mem _ h)))))) (fun h => List.mem_cons_of_mem _ (List.mem_append_right _ h)))) w_y_X0_setOf__z20_good
theorem g_y_X3_makeValue_X0_setOf__z20_V435 : GoodIn w_f_X3_makeValue (wsV RX3 435 RX0 yX0_setOf w_y_X0_setOf__z20) := goodIn_app (nb_g4 (List.mem_cons_of_mem _ (List.mem_append_left _ (List.mem_append_left _ (List.mem_of_getElem? (i := 3) rfl)))) (List.mem_cons_of_mem _ (List.mem_append_left _ (List.mem_append_left _ (List.mem_of_getElem? (i := 4) rfl)))) (List.mem_cons_of_mem _ (List.mem_append_left _ (List.mem_append_left _ (List.mem_of_getElem? (i := 5) rfl)))) (List.mem_cons_of_mem _ (List.mem_append_left _ (List.mem_append_left _ (List.mem_of_getElem? (i := 6) rfl)))) (by decide +kernel)) gg_f_X3_makeValue_X0_setOf__z20
theorem gg_f_X3_makeValue_X1_makeTuple__z20 : GoodIn w_f_X3_makeValue w_y_X1_makeTuple__z20 := goodIn_sub (fun w h => (List.mem_cons.mp h).elim (fun e => (List.mem_cons_of_mem _ (List.mem_append_left _ (List.mem_append_right _ (List.mem_append_right _ (List.mem_append_right _ (List.mem_append_left _ (List.mem_cons.mpr (Or.inl e))))))))) (fun h => (List.mem_append.mp h).elim (fun h => (List.mem_cons_of_mem _ (List.mem_append_left _ (List.mem_append_right _ (List.mem_append_right _ (List.mem_append_right _ (List.mem_append_left _ (List.mem_cons_of_mem _ h)))))))) (fun h => List.mem_cons_of_mem _ (List.mem_append_right _ h)))) w_y_X1_makeTuple__z20_good
theorem g_y_X3_makeValue_X1_makeTuple__z20_V438 : GoodIn w_f_X3_makeValue (wsV RX3 438 RX1 yX1_makeTuple w_y_X1_makeTuple__z20) := goodIn_app (nb_g4 (List.mem_cons_of_mem _ (List.mem_append_left _ (List.mem_append_left _ (List.mem_of_getElem? (i := 12) rfl)))) (List.mem_cons_of_mem _ (List.mem_append_left _ (List.mem_append_left _ (List.mem_of_getElem? (i := 13) rfl)))) (List.mem_cons_of_mem _ (List.mem_append_left _ (List.mem_append_left _ (List.mem_of_getElem? (i := 14) rfl)))) (List.mem_cons_of_mem _ (List.mem_append_left _ (List.mem_append_left _ (List.mem_of_getElem? (i := 15) rfl)))) (by decide +kernel)) gg_f_X3_makeValue_X1_makeTuple__z20
theorem gg_f_X3_makeValue_X3_drawn : GoodIn w_f_X3_makeValue w_y_X3_drawn := goodIn_sub (fun w h => (List.mem_cons.mp h).elim (fun e => (List.mem_cons_of_mem _ (List.mem_append_left _ (List.mem_append_right _ (List.mem_append_right _ (List.mem_append_right _ (List.mem_append_right _ (List.mem_append_right _ (List.mem_append_left _ (List.mem_cons.mpr (Or.inl e))))))))))) (fun h => (List.mem_append.mp h).elim (fun h => (List.mem_cons_of_mem _ (List.mem_append_left _ (List.mem_append_right _ (List.mem_append_right _ (List.mem_append_right _ (List.mem_append_right _ (List.mem_append_right _ (List.mem_append_left _ (List.mem_cons_of_mem _ h)))))))))) (fun h => List.mem_cons_of_mem _ (List.mem_append_right _ h)))) w_y_X3_drawn_good
theorem g_y_X3_makeValue_X3_drawn_V449 : GoodIn w_f_X3_makeValue (wsV RX3 449 RX3 yX3_drawn w_y_X3_drawn) := goodIn_app (nb_g4 (List.mem_cons_of_mem _ (List.mem_append_left _ (List.mem_append_left _ (List.mem_of_getElem? (i := 21) rfl)))) (List.mem_cons_of_mem _ (List.mem_append_left _ (List.mem_append_left _ (List.mem_of_getElem? (i := 22) rfl)))) (List.mem_cons_of_mem _ (List.mem_append_left _ (List.mem_append_left _ (List.mem_of_getElem? (i := 23) rfl)))) (List.mem_cons_of_mem _ (List.mem_append_left _ (List.mem_append_left _ (List.mem_of_getElem? (i := 10) rfl)))) (by decide +kernel)) gg_f_X3_makeValue_X3_drawn
theorem gg_f_X3_makeValue_X3_replace : GoodIn w_f_X3_makeValue w_y_X3_replace := goodIn_sub (fun w h => (List.mem_cons.mp h).elim (fun e => (List.mem_cons_of_mem _ (List.mem_append_left _ (List.mem_append_right _ (List.mem_append_right _ (List.mem_append_right _ (List.mem_append_right _ (List.mem_append_right _ (List.mem_append_right _ (List.mem_append_left _ (List.mem_cons.mpr (Or.inl e)))))))))))) (fun h => (List.mem_append.mp h).elim (fun h => (List.mem_cons_of_mem _ (List.mem_append_left _ (List.mem_append_right _ (List.mem_append_right _ (List.mem_append_right _ (List.mem_append_right _ (List.mem_append_right _ (List.mem_append_right _ (List.mem_append_left _ (List.mem_cons_of_mem _ h))))))))))) (fun h => List.mem_cons_of_mem _ (List.mem_append_right _ h)))) w_y_X3_replace_good
theorem g_y_X3_makeValue_X3_replace_V280 : GoodIn w_f_X3_makeValue (wsV RX3 280 RX3 yX3_replace w_y_X3_replace) := goodIn_app (nb_g4 (List.mem_cons_of_mem _ (List.mem_append_left _ (List.mem_append_left _ (List.mem_of_getElem? (i := 24) rfl)))) (List.mem_cons_of_mem _ (List.mem_append_left _ (List.mem_append_left _ (List.mem_of_getElem? (i := 25) rfl)))) (List.mem_cons_of_mem _ (List.mem_append_left _ (List.mem_append_left _ (List.mem_of_getElem? (i := 26) rfl)))) (List.mem_cons_of_mem _ (List.mem_append_left _ (List.mem_append_left _ (List.mem_of_getElem? (i := 10) rfl)))) (by decide +kernel)) gg_f_X3_makeValue_X3_replace
set_option maxHeartbeats 40000000 in
set_option maxRecDepth 100000 in
theorem c_f_X3_makeValue (l : Launch) (hl0 : l.stackTraces = false) (dC : Nat → ClassId) (dI : Nat → Nat → Nat) (cy : Nat → ClassId) (ek a : Nat → Nat) (k0 : Nat) (L0 : LV) (σ0 : CS) (r0 : RS) (h0 : f_X3_makeValue k0 0 L0 σ0 = some r0) (z : Nat → Nat) (sz : Nat) : vx_Met l yX3_makeValue w_f_X3_makeValue ({ frames := 65, cells := r0.2.2.1, slots := r0.2.2.2, locals := 1816 }) (va_Pc [.ref (a 18), .int (L0.1 1), .int (L0.1 2)] (nInF (dC, dI) cy ek sz (vC cy a z σ0))) (xV dC dI cy a (va_A (vC cy a z σ0) sz) [20] z r0) (xX dC dI cy a (va_A (vC cy a z σ0) sz) [20] z r0) r0.2.2.1 r0.2.2.2 (va_A (vC cy a z σ0) sz) := by
  refine vx_ofW (cc := cX3_makeValue) (maxL := 4) (ret := none) (by decide) rfl ?_
  intro p e s m args below meth c s₁ B hml hno hv
  obtain ⟨rfl, ⟨⟨hsz, hP, hK, hD0, hG⟩, hE⟩, hT⟩ := hv
  have hx := B.exec
  have hb := B.bytes
  have hr := B.returns
  have hts := atoms_spec (ws := w_f_X3_makeValue) B.pre
  have hown : s.vm.findClass RX3 = some m.cls := findClass_of_methodNamed B.named
  have hlocks := B.notSynchronized
  subst hsz
  have hD := hD0.self (sz := s.heap.size)
  generalize hAe : va_A (vC cy a z σ0) s.heap.size = A at hD hE hT ⊢
  have hA : ∀ q : Nat, s.heap.size ≤ q → A q := fun q h => by rw [← hAe]; exact Or.inr h
  have hS : va_S A s.heap s.heap [] := va_S.rf
  have hl := lv_entry ([.ref (a 18), .int (L0.1 1), .int (L0.1 2)]) (n := 4) (Nat.le_of_ble_eq_true rfl)
  rw [lg_entry_eq]
  generalize (lg_sl ([.ref (a 18), .int (L0.1 1), .int (L0.1 2)]) ++ List.replicate (4 - (lg_sl ([.ref (a 18), .int (L0.1 1), .int (L0.1 2)])).length) Slot.unset).toArray = ls at hl ⊢
  have hl : lv_has ls 4 [(0, .ref (a 18)), (1, .int (L0.1 1)), (2, .int (L0.1 2))] := hl
  generalize hmc : r0.2.2.1 = mc
  generalize hms : r0.2.2.2 = ms
  have blk : ∀ k : Nat, (bX p l e (headSpec w_f_X3_makeValue ({ frames := 65, cells := mc, slots := ms, locals := 1816 })).room s m #[.ref (a 18), .int (L0.1 1), .int (L0.1 2)] below meth c dC dI cy a A (fun r => vx_MQ below (xV dC dI cy a A [20] z r) (xX dC dI cy a A [20] z r) #[.ref (a 18), .int (L0.1 1), .int (L0.1 2)] s mc ms A) [20] z mc ms 4 (f_X3_makeValue k 0) (fun z L => [(0, .ref (a 18)), (1, .int (L.1 1)), (2, .int (L.1 2))]) 0 (fun z L => [])) ∧ (bX p l e (headSpec w_f_X3_makeValue ({ frames := 65, cells := mc, slots := ms, locals := 1816 })).room s m #[.ref (a 18), .int (L0.1 1), .int (L0.1 2)] below meth c dC dI cy a A (fun r => vx_MQ below (xV dC dI cy a A [20] z r) (xX dC dI cy a A [20] z r) #[.ref (a 18), .int (L0.1 1), .int (L0.1 2)] s mc ms A) [20] z mc ms 4 (f_X3_makeValue k 1) (fun z L => [(0, .ref (a 18)), (2, .int (L.1 2))]) 44 (fun z L => [])) ∧ (bX p l e (headSpec w_f_X3_makeValue ({ frames := 65, cells := mc, slots := ms, locals := 1816 })).room s m #[.ref (a 18), .int (L0.1 1), .int (L0.1 2)] below meth c dC dI cy a A (fun r => vx_MQ below (xV dC dI cy a A [20] z r) (xX dC dI cy a A [20] z r) #[.ref (a 18), .int (L0.1 1), .int (L0.1 2)] s mc ms A) [20] z mc ms 4 (f_X3_makeValue k 2) (fun z L => [(0, .ref (a 18)), (2, .int (L.1 2))]) 86 (fun z L => [])) ∧ (bX p l e (headSpec w_f_X3_makeValue ({ frames := 65, cells := mc, slots := ms, locals := 1816 })).room s m #[.ref (a 18), .int (L0.1 1), .int (L0.1 2)] below meth c dC dI cy a A (fun r => vx_MQ below (xV dC dI cy a A [20] z r) (xX dC dI cy a A [20] z r) #[.ref (a 18), .int (L0.1 1), .int (L0.1 2)] s mc ms A) [20] z mc ms 4 (f_X3_makeValue k 3) (fun z L => [(0, .ref (a 18)), (1, .int (L.1 1))]) 128 (fun z L => [])) ∧ (bX p l e (headSpec w_f_X3_makeValue ({ frames := 65, cells := mc, slots := ms, locals := 1816 })).room s m #[.ref (a 18), .int (L0.1 1), .int (L0.1 2)] below meth c dC dI cy a A (fun r => vx_MQ below (xV dC dI cy a A [20] z r) (xX dC dI cy a A [20] z r) #[.ref (a 18), .int (L0.1 1), .int (L0.1 2)] s mc ms A) [20] z mc ms 4 (f_X3_makeValue k 4) (fun z L => [(0, .ref (a 18)), (1, .int (L.1 1))]) 194 (fun z L => [])) ∧ (bX p l e (headSpec w_f_X3_makeValue ({ frames := 65, cells := mc, slots := ms, locals := 1816 })).room s m #[.ref (a 18), .int (L0.1 1), .int (L0.1 2)] below meth c dC dI cy a A (fun r => vx_MQ below (xV dC dI cy a A [20] z r) (xX dC dI cy a A [20] z r) #[.ref (a 18), .int (L0.1 1), .int (L0.1 2)] s mc ms A) [20] z mc ms 4 (f_X3_makeValue k 5) (fun z L => [(0, .ref (a 18))]) 289 (fun z L => [])) ∧ (bX p l e (headSpec w_f_X3_makeValue ({ frames := 65, cells := mc, slots := ms, locals := 1816 })).room s m #[.ref (a 18), .int (L0.1 1), .int (L0.1 2)] below meth c dC dI cy a A (fun r => vx_MQ below (xV dC dI cy a A [20] z r) (xX dC dI cy a A [20] z r) #[.ref (a 18), .int (L0.1 1), .int (L0.1 2)] s mc ms A) [20] z mc ms 4 (f_X3_makeValue k 6) (fun z L => [(0, .ref (a 18))]) 296 (fun z L => [])) ∧ (bX p l e (headSpec w_f_X3_makeValue ({ frames := 65, cells := mc, slots := ms, locals := 1816 })).room s m #[.ref (a 18), .int (L0.1 1), .int (L0.1 2)] below meth c dC dI cy a A (fun r => vx_MQ below (xV dC dI cy a A [20] z r) (xX dC dI cy a A [20] z r) #[.ref (a 18), .int (L0.1 1), .int (L0.1 2)] s mc ms A) [20] z mc ms 4 (f_X3_makeValue k 7) (fun z L => []) 318 (fun z L => [])) ∧ (bX p l e (headSpec w_f_X3_makeValue ({ frames := 65, cells := mc, slots := ms, locals := 1816 })).room s m #[.ref (a 18), .int (L0.1 1), .int (L0.1 2)] below meth c dC dI cy a A (fun r => vx_MQ below (xV dC dI cy a A [20] z r) (xX dC dI cy a A [20] z r) #[.ref (a 18), .int (L0.1 1), .int (L0.1 2)] s mc ms A) [20] z mc ms 4 (f_X3_makeValue k 8) (fun z L => []) 184 (fun z L => [.int (L.1 100), .int (L.1 101), .int (L.1 102), .ref (a 14), .ref (a 18)])) ∧ (bX p l e (headSpec w_f_X3_makeValue ({ frames := 65, cells := mc, slots := ms, locals := 1816 })).room s m #[.ref (a 18), .int (L0.1 1), .int (L0.1 2)] below meth c dC dI cy a A (fun r => vx_MQ below (xV dC dI cy a A [20] z r) (xX dC dI cy a A [20] z r) #[.ref (a 18), .int (L0.1 1), .int (L0.1 2)] s mc ms A) [20] z mc ms 4 (f_X3_makeValue k 9) (fun z L => []) 185 (fun z L => [.int (L.1 100), .int (L.1 101), .int (L.1 102), .int (L.1 103), .ref (a 14), .ref (a 18)])) ∧ (bX p l e (headSpec w_f_X3_makeValue ({ frames := 65, cells := mc, slots := ms, locals := 1816 })).room s m #[.ref (a 18), .int (L0.1 1), .int (L0.1 2)] below meth c dC dI cy a A (fun r => vx_MQ below (xV dC dI cy a A [20] z r) (xX dC dI cy a A [20] z r) #[.ref (a 18), .int (L0.1 1), .int (L0.1 2)] s mc ms A) [20] z mc ms 4 (f_X3_makeValue k 10) (fun z L => [(0, .ref (a 18)), (1, .int (L.1 1)), (3, .int (L.1 3))]) 236 (fun z L => [.ref (a 18)])) ∧ (bX p l e (headSpec w_f_X3_makeValue ({ frames := 65, cells := mc, slots := ms, locals := 1816 })).room s m #[.ref (a 18), .int (L0.1 1), .int (L0.1 2)] below meth c dC dI cy a A (fun r => vx_MQ below (xV dC dI cy a A [20] z r) (xX dC dI cy a A [20] z r) #[.ref (a 18), .int (L0.1 1), .int (L0.1 2)] s mc ms A) [20] z mc ms 4 (f_X3_makeValue k 11) (fun z L => []) 283 (fun z L => [.int (L.1 100), .ref (a 18)])) ∧ (bX p l e (headSpec w_f_X3_makeValue ({ frames := 65, cells := mc, slots := ms, locals := 1816 })).room s m #[.ref (a 18), .int (L0.1 1), .int (L0.1 2)] below meth c dC dI cy a A (fun r => vx_MQ below (xV dC dI cy a A [20] z r) (xX dC dI cy a A [20] z r) #[.ref (a 18), .int (L0.1 1), .int (L0.1 2)] s mc ms A) [20] z mc ms 4 (f_X3_makeValue k 12) (fun z L => []) 279 (fun z L => [.int (L.1 100), .int (L.1 101), .int (L.1 102), .ref (a 14), .ref (a 18)])) ∧ (bX p l e (headSpec w_f_X3_makeValue ({ frames := 65, cells := mc, slots := ms, locals := 1816 })).room s m #[.ref (a 18), .int (L0.1 1), .int (L0.1 2)] below meth c dC dI cy a A (fun r => vx_MQ below (xV dC dI cy a A [20] z r) (xX dC dI cy a A [20] z r) #[.ref (a 18), .int (L0.1 1), .int (L0.1 2)] s mc ms A) [20] z mc ms 4 (f_X3_makeValue k 13) (fun z L => []) 280 (fun z L => [.int (L.1 100), .int (L.1 101), .int (L.1 102), .int (L.1 103), .ref (a 14), .ref (a 18)])) := by
    intro k
    induction k with
    | zero => exact ⟨fun z c1 c2 L σ r h => (by cases h), fun z c1 c2 L σ r h => (by cases h), fun z c1 c2 L σ r h => (by cases h), fun z c1 c2 L σ r h => (by cases h), fun z c1 c2 L σ r h => (by cases h), fun z c1 c2 L σ r h => (by cases h), fun z c1 c2 L σ r h => (by cases h), fun z c1 c2 L σ r h => (by cases h), fun z c1 c2 L σ r h => (by cases h), fun z c1 c2 L σ r h => (by cases h), fun z c1 c2 L σ r h => (by cases h), fun z c1 c2 L σ r h => (by cases h), fun z c1 c2 L σ r h => (by cases h), fun z c1 c2 L σ r h => (by cases h)⟩
    | succ k ih =>
      refine ⟨?_, ?_, ?_, ?_, ?_, ?_, ?_, ?_, ?_, ?_, ?_, ?_, ?_, ?_⟩
      · intro z cells slots L σ r h hzk hc hs H locs ls hP hD hS hl
        rw [f_X3_makeValue] at h
        refine lv_iload_n hx hb dX3_makeValue_0 rfl (lv_at hl 1 rfl) ?_
        by_cases q1 : ((L.1 1)) = (48 : Int32)
        · rw [if_pos q1] at h
          refine lv_tableIn (off := 43) (tgt := 44) hx hb dX3_makeValue_1 (by rw [q1]; decide) (by rw [q1]; decide) (by rw [q1]; decide) (by decide) ?_
          exact ih.2.1 z _ _ L σ _ h hzk hc hs H locs ls hP hD hS (lv_sub hl [0, 2] rfl)
        · rw [if_neg q1] at h
          by_cases q2 : ((L.1 1)) = (49 : Int32)
          · rw [if_pos q2] at h
            refine lv_tableIn (off := 85) (tgt := 86) hx hb dX3_makeValue_1 (by rw [q2]; decide) (by rw [q2]; decide) (by rw [q2]; decide) (by decide) ?_
            exact ih.2.2.1 z _ _ L σ _ h hzk hc hs H locs ls hP hD hS (lv_sub hl [0, 2] rfl)
          · rw [if_neg q2] at h
            by_cases q3 : ((L.1 1)) = (50 : Int32)
            · rw [if_pos q3] at h
              refine lv_tableIn (off := 127) (tgt := 128) hx hb dX3_makeValue_1 (by rw [q3]; decide) (by rw [q3]; decide) (by rw [q3]; decide) (by decide) ?_
              exact ih.2.2.2.1 z _ _ L σ _ h hzk hc hs H locs ls hP hD hS (lv_sub hl [0, 1] rfl)
            · rw [if_neg q3] at h
              by_cases q4 : ((L.1 1)) = (51 : Int32)
              · rw [if_pos q4] at h
                refine lv_tableIn (off := 127) (tgt := 128) hx hb dX3_makeValue_1 (by rw [q4]; decide) (by rw [q4]; decide) (by rw [q4]; decide) (by decide) ?_
                exact ih.2.2.2.1 z _ _ L σ _ h hzk hc hs H locs ls hP hD hS (lv_sub hl [0, 1] rfl)
              · rw [if_neg q4] at h
                by_cases q5 : ((L.1 1)) = (52 : Int32)
                · rw [if_pos q5] at h
                  refine lv_tableIn (off := 193) (tgt := 194) hx hb dX3_makeValue_1 (by rw [q5]; decide) (by rw [q5]; decide) (by rw [q5]; decide) (by decide) ?_
                  exact ih.2.2.2.2.1 z _ _ L σ _ h hzk hc hs H locs ls hP hD hS (lv_sub hl [0, 1] rfl)
                · rw [if_neg q5] at h
                  by_cases q6 : ((L.1 1)) = (53 : Int32)
                  · rw [if_pos q6] at h
                    refine lv_tableIn (off := 193) (tgt := 194) hx hb dX3_makeValue_1 (by rw [q6]; decide) (by rw [q6]; decide) (by rw [q6]; decide) (by decide) ?_
                    exact ih.2.2.2.2.1 z _ _ L σ _ h hzk hc hs H locs ls hP hD hS (lv_sub hl [0, 1] rfl)
                  · rw [if_neg q6] at h
                    by_cases q7 : ((L.1 1)) = (54 : Int32)
                    · rw [if_pos q7] at h
                      refine lv_tableIn (off := 288) (tgt := 289) hx hb dX3_makeValue_1 (by rw [q7]; decide) (by rw [q7]; decide) (by rw [q7]; decide) (by decide) ?_
                      exact ih.2.2.2.2.2.1 z _ _ L σ _ h hzk hc hs H locs ls hP hD hS (lv_sub hl [0] rfl)
                    · rw [if_neg q7] at h
                      have nq1 : ¬ ((L.1 1)).toInt = 48 := nb_ti q1 rfl
                      have nq2 : ¬ ((L.1 1)).toInt = 49 := nb_ti q2 rfl
                      have nq3 : ¬ ((L.1 1)).toInt = 50 := nb_ti q3 rfl
                      have nq4 : ¬ ((L.1 1)).toInt = 51 := nb_ti q4 rfl
                      have nq5 : ¬ ((L.1 1)).toInt = 52 := nb_ti q5 rfl
                      have nq6 : ¬ ((L.1 1)).toInt = 53 := nb_ti q6 rfl
                      have nq7 : ¬ ((L.1 1)).toInt = 54 := nb_ti q7 rfl
                      refine lv_tableOut (tgt := 296) hx hb dX3_makeValue_1 (by omega) (by decide) ?_
                      exact ih.2.2.2.2.2.2.1 z _ _ L σ _ h hzk hc hs H locs ls hP hD hS (lv_sub hl [0] rfl)
      · intro z cells slots L σ r h hzk hc hs H locs ls hP hD hS hl
        rw [f_X3_makeValue] at h
        refine lv_aload_n hx hb dX3_makeValue_44 rfl (lv_at hl 0 rfl) ?_
        refine hg_18_5 hx hb hts in_f_X3_makeValue_X3 hown hK hP (hts _ (List.mem_cons_of_mem _ (List.mem_append_left _ (List.mem_append_left _ (List.mem_of_getElem? (i := 0) rfl))))) dX3_makeValue_45 ?_
        refine lv_aload_n hx hb dX3_makeValue_48 rfl (lv_at hl 0 rfl) ?_
        refine hg_18_5 hx hb hts in_f_X3_makeValue_X3 hown hK hP (hts _ (List.mem_cons_of_mem _ (List.mem_append_left _ (List.mem_append_left _ (List.mem_of_getElem? (i := 0) rfl))))) dX3_makeValue_49 ?_
        refine hg_19_2n hx hb hts in_f_X3_makeValue_X8 hown hK hP (va_Nw.use rfl (hG.1 _ (List.mem_of_getElem? (i := 10) rfl))) dX3_makeValue_52 ?_
        refine lv_iload_n hx hb dX3_makeValue_55 rfl (lv_at hl 1 rfl) ?_
        refine lv_isub hx hb dX3_makeValue_56 ?_
        refine hp_19_2n hx hb hts in_f_X3_makeValue_X8 hown hK hP hD hS (va_Nw.use rfl (hG.1 _ (List.mem_of_getElem? (i := 10) rfl))) dX3_makeValue_57 (fun H locs hP hD hS => ?_)
        refine lv_aload_n hx hb dX3_makeValue_60 rfl (lv_at hl 0 rfl) ?_
        refine lv_aload_n hx hb dX3_makeValue_61 rfl (lv_at hl 0 rfl) ?_
        refine hg_18_2 hx hb hts in_f_X3_makeValue_X3 hown hK hP (hts _ (List.mem_cons_of_mem _ (List.mem_append_left _ (List.mem_append_left _ (List.mem_of_getElem? (i := 1) rfl))))) dX3_makeValue_62 ?_
        refine lv_aload_n hx hb dX3_makeValue_65 rfl (lv_at hl 0 rfl) ?_
        refine hg_18_7 hx hb hts in_f_X3_makeValue_X3 hown hK hP (hts _ (List.mem_cons_of_mem _ (List.mem_append_left _ (List.mem_append_left _ (List.mem_of_getElem? (i := 2) rfl))))) dX3_makeValue_66 ?_
        refine lv_aload_n hx hb dX3_makeValue_69 rfl (lv_at hl 0 rfl) ?_
        refine hg_18_5 hx hb hts in_f_X3_makeValue_X3 hown hK hP (hts _ (List.mem_cons_of_mem _ (List.mem_append_left _ (List.mem_append_left _ (List.mem_of_getElem? (i := 0) rfl))))) dX3_makeValue_70 ?_
        refine hg_19_2n hx hb hts in_f_X3_makeValue_X8 hown hK hP (va_Nw.use rfl (hG.1 _ (List.mem_of_getElem? (i := 10) rfl))) dX3_makeValue_73 ?_
        refine lv_iload_n hx hb dX3_makeValue_76 rfl (lv_at hl 1 rfl) ?_
        obtain ⟨r1, hc1, h⟩ := op_ex h
        refine kc_i (va_runV (As := [.ref (z 20), .int ((uI σ 1902 ((((σ.1 1902)) - ((L.1 2))))).1 1902), .int (L.1 2)]) (rest := [.ref (a 18)]) ⟨hx, hb, hml, hown, hts⟩ (c_y_X0_setOf__z20 l dC dI cy a z k (lI (lI lZ 2 (((uI σ 1902 ((((σ.1 1902)) - ((L.1 2))))).1 1902))) 3 ((L.1 2))) (uI σ 1902 ((((σ.1 1902)) - ((L.1 2))))) r1 hc1 H.size) (cwV 3 hts g_y_X3_makeValue_X0_setOf__z20_V435 rfl rfl rfl hd_y_X0_setOf__z20 ⟨Nat.le_of_ble_eq_true rfl, Nat.le_of_ble_eq_true rfl⟩) ⟨nb_blind, va_recv hK hP (ci := 0) (q0 := 14) rfl rfl, (kb_pre hK hG hP hD)⟩ rfl rfl hl.1 rfl (lv_room (Nat.le_of_ble_eq_true rfl)) dX3_makeValue_77 ⟨(Nat.le_trans (Nat.le_add_right _ _) (Nat.le_of_eq hc)), (Nat.le_trans (Nat.le_add_right _ _) (Nat.le_of_eq hs))⟩) hA hP hD hS (fun H locs hP hD hS => ?_)
        obtain ⟨r2, hc2, hle2, h9⟩ := ox_ex h
        clear h
        refine kx_v (vx_runV (As := [.int r1.1]) (rest := []) ⟨hx, hb, hml, hown, hts⟩ (c_f_X3_give l hl0 dC dI cy ek a k (lI lZ 1 r1.1) r1.2 r2 hc2 z H.size) (cwV 1 hts g_f_X3_makeValue_X3_give_V391 rfl rfl rfl hd_f_X3_give ⟨Nat.le_of_ble_eq_true rfl, Nat.le_of_ble_eq_true rfl⟩) ⟨nb_blindF, va_recv hK hP (ci := 3) (q0 := 18) rfl rfl, (kx_pre hK hG hE hT hA hP hD hS)⟩ rfl rfl hl.1 rfl (lv_room (Nat.le_of_ble_eq_true rfl)) dX3_makeValue_80 ⟨Nat.le_trans (Nat.add_le_add_left hle2.1 _) (Nat.le_of_eq hc), Nat.le_trans (Nat.add_le_add_left hle2.2 _) (Nat.le_of_eq hs)⟩) hK hA hzk hP hD hS (by decide) hno hlocks ?_
        rcases h9 with ⟨h00, y2, hny2, hy⟩ | ⟨h00, hy⟩
        · subst hy
          have h := hny2
          refine Or.inl ⟨h00, fun z H locs hz2 hzk hP hD hS => ?_⟩
          replace hc := (Nat.add_assoc _ _ _).trans hc
          replace hs := (Nat.add_assoc _ _ _).trans hs
          refine lv_goto (tgt := 318) hx hb dX3_makeValue_83 (by decide) ?_
          exact ih.2.2.2.2.2.2.2.1 z _ _ L r2.2.1 _ h hzk hc hs H locs ls hP hD hS (lv_sub hl [] rfl)
        · subst hy
          exact Or.inr ⟨h00, rfl, hc, hs⟩
      · intro z cells slots L σ r h hzk hc hs H locs ls hP hD hS hl
        rw [f_X3_makeValue] at h
        refine lv_aload_n hx hb dX3_makeValue_86 rfl (lv_at hl 0 rfl) ?_
        refine hg_18_5 hx hb hts in_f_X3_makeValue_X3 hown hK hP (hts _ (List.mem_cons_of_mem _ (List.mem_append_left _ (List.mem_append_left _ (List.mem_of_getElem? (i := 0) rfl))))) dX3_makeValue_87 ?_
        refine lv_aload_n hx hb dX3_makeValue_90 rfl (lv_at hl 0 rfl) ?_
        refine hg_18_5 hx hb hts in_f_X3_makeValue_X3 hown hK hP (hts _ (List.mem_cons_of_mem _ (List.mem_append_left _ (List.mem_append_left _ (List.mem_of_getElem? (i := 0) rfl))))) dX3_makeValue_91 ?_
        refine hg_19_2n hx hb hts in_f_X3_makeValue_X8 hown hK hP (va_Nw.use rfl (hG.1 _ (List.mem_of_getElem? (i := 10) rfl))) dX3_makeValue_94 ?_
        refine lv_iload_n hx hb dX3_makeValue_97 rfl (lv_at hl 1 rfl) ?_
        refine lv_isub hx hb dX3_makeValue_98 ?_
        refine hp_19_2n hx hb hts in_f_X3_makeValue_X8 hown hK hP hD hS (va_Nw.use rfl (hG.1 _ (List.mem_of_getElem? (i := 10) rfl))) dX3_makeValue_99 (fun H locs hP hD hS => ?_)
        refine lv_aload_n hx hb dX3_makeValue_102 rfl (lv_at hl 0 rfl) ?_
        refine lv_aload_n hx hb dX3_makeValue_103 rfl (lv_at hl 0 rfl) ?_
        refine hg_18_0 hx hb hts in_f_X3_makeValue_X3 hown hK hP (hts _ (List.mem_cons_of_mem _ (List.mem_append_left _ (List.mem_append_left _ (List.mem_of_getElem? (i := 11) rfl))))) dX3_makeValue_104 ?_
        refine lv_aload_n hx hb dX3_makeValue_107 rfl (lv_at hl 0 rfl) ?_
        refine hg_18_7 hx hb hts in_f_X3_makeValue_X3 hown hK hP (hts _ (List.mem_cons_of_mem _ (List.mem_append_left _ (List.mem_append_left _ (List.mem_of_getElem? (i := 2) rfl))))) dX3_makeValue_108 ?_
        refine lv_aload_n hx hb dX3_makeValue_111 rfl (lv_at hl 0 rfl) ?_
        refine hg_18_5 hx hb hts in_f_X3_makeValue_X3 hown hK hP (hts _ (List.mem_cons_of_mem _ (List.mem_append_left _ (List.mem_append_left _ (List.mem_of_getElem? (i := 0) rfl))))) dX3_makeValue_112 ?_
        refine hg_19_2n hx hb hts in_f_X3_makeValue_X8 hown hK hP (va_Nw.use rfl (hG.1 _ (List.mem_of_getElem? (i := 10) rfl))) dX3_makeValue_115 ?_
        refine lv_iload_n hx hb dX3_makeValue_118 rfl (lv_at hl 1 rfl) ?_
        obtain ⟨r1, hc1, h⟩ := op_ex h
        refine kc_i (va_runV (As := [.ref (z 20), .int ((uI σ 1902 ((((σ.1 1902)) - ((L.1 2))))).1 1902), .int (L.1 2)]) (rest := [.ref (a 18)]) ⟨hx, hb, hml, hown, hts⟩ (c_y_X1_makeTuple__z20 l dC dI cy a z k (lI (lI lZ 2 (((uI σ 1902 ((((σ.1 1902)) - ((L.1 2))))).1 1902))) 3 ((L.1 2))) (uI σ 1902 ((((σ.1 1902)) - ((L.1 2))))) r1 hc1 H.size) (cwV 3 hts g_y_X3_makeValue_X1_makeTuple__z20_V438 rfl rfl rfl hd_y_X1_makeTuple__z20 ⟨Nat.le_of_ble_eq_true rfl, Nat.le_of_ble_eq_true rfl⟩) ⟨nb_blind, va_recv hK hP (ci := 1) (q0 := 0) rfl rfl, (kb_pre hK hG hP hD)⟩ rfl rfl hl.1 rfl (lv_room (Nat.le_of_ble_eq_true rfl)) dX3_makeValue_119 ⟨(Nat.le_trans (Nat.le_add_right _ _) (Nat.le_of_eq hc)), (Nat.le_trans (Nat.le_add_right _ _) (Nat.le_of_eq hs))⟩) hA hP hD hS (fun H locs hP hD hS => ?_)
        obtain ⟨r2, hc2, hle2, h9⟩ := ox_ex h
        clear h
        refine kx_v (vx_runV (As := [.int r1.1]) (rest := []) ⟨hx, hb, hml, hown, hts⟩ (c_f_X3_give l hl0 dC dI cy ek a k (lI lZ 1 r1.1) r1.2 r2 hc2 z H.size) (cwV 1 hts g_f_X3_makeValue_X3_give_V391 rfl rfl rfl hd_f_X3_give ⟨Nat.le_of_ble_eq_true rfl, Nat.le_of_ble_eq_true rfl⟩) ⟨nb_blindF, va_recv hK hP (ci := 3) (q0 := 18) rfl rfl, (kx_pre hK hG hE hT hA hP hD hS)⟩ rfl rfl hl.1 rfl (lv_room (Nat.le_of_ble_eq_true rfl)) dX3_makeValue_122 ⟨Nat.le_trans (Nat.add_le_add_left hle2.1 _) (Nat.le_of_eq hc), Nat.le_trans (Nat.add_le_add_left hle2.2 _) (Nat.le_of_eq hs)⟩) hK hA hzk hP hD hS (by decide) hno hlocks ?_
        rcases h9 with ⟨h00, y2, hny2, hy⟩ | ⟨h00, hy⟩
        · subst hy
          have h := hny2
          refine Or.inl ⟨h00, fun z H locs hz2 hzk hP hD hS => ?_⟩
          replace hc := (Nat.add_assoc _ _ _).trans hc
          replace hs := (Nat.add_assoc _ _ _).trans hs
          refine lv_goto (tgt := 318) hx hb dX3_makeValue_125 (by decide) ?_
          exact ih.2.2.2.2.2.2.2.1 z _ _ L r2.2.1 _ h hzk hc hs H locs ls hP hD hS (lv_sub hl [] rfl)
        · subst hy
          exact Or.inr ⟨h00, rfl, hc, hs⟩
      · intro z cells slots L σ r h hzk hc hs H locs ls hP hD hS hl
        rw [f_X3_makeValue] at h
        refine lv_aload_n hx hb dX3_makeValue_128 rfl (lv_at hl 0 rfl) ?_
        refine hg_18_5 hx hb hts in_f_X3_makeValue_X3 hown hK hP (hts _ (List.mem_cons_of_mem _ (List.mem_append_left _ (List.mem_append_left _ (List.mem_of_getElem? (i := 0) rfl))))) dX3_makeValue_129 ?_
        refine lv_dup hx hb dX3_makeValue_132 rfl ?_
        refine hg_19_2n hx hb hts in_f_X3_makeValue_X8 hown hK hP (va_Nw.use rfl (hG.1 _ (List.mem_of_getElem? (i := 10) rfl))) dX3_makeValue_133 ?_
        refine lv_iconst (v := 1) hx hb dX3_makeValue_136 (by decide) ?_
        refine lv_isub hx hb dX3_makeValue_137 ?_
        refine hp_19_2n hx hb hts in_f_X3_makeValue_X8 hown hK hP hD hS (va_Nw.use rfl (hG.1 _ (List.mem_of_getElem? (i := 10) rfl))) dX3_makeValue_138 (fun H locs hP hD hS => ?_)
        refine lv_aload_n hx hb dX3_makeValue_141 rfl (lv_at hl 0 rfl) ?_
        refine lv_aload_n hx hb dX3_makeValue_142 rfl (lv_at hl 0 rfl) ?_
        refine hg_18_2 hx hb hts in_f_X3_makeValue_X3 hown hK hP (hts _ (List.mem_cons_of_mem _ (List.mem_append_left _ (List.mem_append_left _ (List.mem_of_getElem? (i := 1) rfl))))) dX3_makeValue_143 ?_
        refine lv_aload_n hx hb dX3_makeValue_146 rfl (lv_at hl 0 rfl) ?_
        refine hg_18_7 hx hb hts in_f_X3_makeValue_X3 hown hK hP (hts _ (List.mem_cons_of_mem _ (List.mem_append_left _ (List.mem_append_left _ (List.mem_of_getElem? (i := 2) rfl))))) dX3_makeValue_147 ?_
        refine lv_aload_n hx hb dX3_makeValue_150 rfl (lv_at hl 0 rfl) ?_
        refine hg_18_5 hx hb hts in_f_X3_makeValue_X3 hown hK hP (hts _ (List.mem_cons_of_mem _ (List.mem_append_left _ (List.mem_append_left _ (List.mem_of_getElem? (i := 0) rfl))))) dX3_makeValue_151 ?_
        refine hg_19_2n hx hb hts in_f_X3_makeValue_X8 hown hK hP (va_Nw.use rfl (hG.1 _ (List.mem_of_getElem? (i := 10) rfl))) dX3_makeValue_154 ?_
        refine lv_iconst (v := 1) hx hb dX3_makeValue_157 (by decide) ?_
        refine lv_isub hx hb dX3_makeValue_158 ?_
        obtain ⟨q1, h⟩ := kr_ite1 h
        refine hl_20 hx hb hK hP q1 dX3_makeValue_159 ?_
        refine lv_ldc (v := (-2147483648)) hx hb hown (hts _ (List.mem_cons_of_mem _ (List.mem_append_left _ (List.mem_append_left _ (List.mem_of_getElem? (i := 16) rfl))))) dX3_makeValue_160 ?_
        refine lv_aload_n hx hb dX3_makeValue_162 rfl (lv_at hl 0 rfl) ?_
        refine hg_18_7 hx hb hts in_f_X3_makeValue_X3 hown hK hP (hts _ (List.mem_cons_of_mem _ (List.mem_append_left _ (List.mem_append_left _ (List.mem_of_getElem? (i := 2) rfl))))) dX3_makeValue_163 ?_
        refine lv_aload_n hx hb dX3_makeValue_166 rfl (lv_at hl 0 rfl) ?_
        refine hg_18_5 hx hb hts in_f_X3_makeValue_X3 hown hK hP (hts _ (List.mem_cons_of_mem _ (List.mem_append_left _ (List.mem_append_left _ (List.mem_of_getElem? (i := 0) rfl))))) dX3_makeValue_167 ?_
        refine hg_19_2n hx hb hts in_f_X3_makeValue_X8 hown hK hP (va_Nw.use rfl (hG.1 _ (List.mem_of_getElem? (i := 10) rfl))) dX3_makeValue_170 ?_
        obtain ⟨q2, h⟩ := kr_ite1 h
        refine hl_20 hx hb hK hP q2 dX3_makeValue_173 ?_
        refine lv_iload_n hx hb dX3_makeValue_174 rfl (lv_at hl 1 rfl) ?_
        refine lv_bipush (v := 50) hx hb dX3_makeValue_175 (by decide) ?_
        refine lv_icmp_ne (tgt := 184) hx hb dX3_makeValue_177 (by decide) (fun c3 => ?_) (fun c3 => ?_)
        · rw [if_neg c3] at h
          exact ih.2.2.2.2.2.2.2.2.1 z _ _ (lI (lI (lI L 100 (((uI σ 1902 ((((σ.1 1902)) - 1))).2.2.1 20 (((uI σ 1902 ((((σ.1 1902)) - 1))).1 1902)).toNatClampNeg))) 101 ((-2147483648))) 102 (((uI σ 1902 ((((σ.1 1902)) - 1))).2.2.1 20 (((((uI σ 1902 ((((σ.1 1902)) - 1))).1 1902)) - 1)).toNatClampNeg))) (uI σ 1902 ((((σ.1 1902)) - 1))) _ h hzk hc hs H locs ls hP hD hS (lv_sub hl [] rfl)
        · rw [if_pos c3] at h
          refine lv_iconst (v := 1) hx hb dX3_makeValue_180 (by decide) ?_
          refine lv_goto (tgt := 185) hx hb dX3_makeValue_181 (by decide) ?_
          exact ih.2.2.2.2.2.2.2.2.2.1 z _ _ (lI (lI (lI (lI L 100 1) 101 (((uI σ 1902 ((((σ.1 1902)) - 1))).2.2.1 20 (((uI σ 1902 ((((σ.1 1902)) - 1))).1 1902)).toNatClampNeg))) 102 ((-2147483648))) 103 (((uI σ 1902 ((((σ.1 1902)) - 1))).2.2.1 20 (((((uI σ 1902 ((((σ.1 1902)) - 1))).1 1902)) - 1)).toNatClampNeg))) (uI σ 1902 ((((σ.1 1902)) - 1))) _ h hzk hc hs H locs ls hP hD hS (lv_sub hl [] rfl)
      · intro z cells slots L σ r h hzk hc hs H locs ls hP hD hS hl
        rw [f_X3_makeValue] at h
        refine lv_aload_n hx hb dX3_makeValue_194 rfl (lv_at hl 0 rfl) ?_
        refine hg_18_5 hx hb hts in_f_X3_makeValue_X3 hown hK hP (hts _ (List.mem_cons_of_mem _ (List.mem_append_left _ (List.mem_append_left _ (List.mem_of_getElem? (i := 0) rfl))))) dX3_makeValue_195 ?_
        refine lv_aload_n hx hb dX3_makeValue_198 rfl (lv_at hl 0 rfl) ?_
        refine hg_18_5 hx hb hts in_f_X3_makeValue_X3 hown hK hP (hts _ (List.mem_cons_of_mem _ (List.mem_append_left _ (List.mem_append_left _ (List.mem_of_getElem? (i := 0) rfl))))) dX3_makeValue_199 ?_
        refine hg_19_2n hx hb hts in_f_X3_makeValue_X8 hown hK hP (va_Nw.use rfl (hG.1 _ (List.mem_of_getElem? (i := 10) rfl))) dX3_makeValue_202 ?_
        refine lv_iconst (v := 2) hx hb dX3_makeValue_205 (by decide) ?_
        refine lv_isub hx hb dX3_makeValue_206 ?_
        refine hp_19_2n hx hb hts in_f_X3_makeValue_X8 hown hK hP hD hS (va_Nw.use rfl (hG.1 _ (List.mem_of_getElem? (i := 10) rfl))) dX3_makeValue_207 (fun H locs hP hD hS => ?_)
        refine lv_aload_n hx hb dX3_makeValue_210 rfl (lv_at hl 0 rfl) ?_
        refine hg_18_7 hx hb hts in_f_X3_makeValue_X3 hown hK hP (hts _ (List.mem_cons_of_mem _ (List.mem_append_left _ (List.mem_append_left _ (List.mem_of_getElem? (i := 2) rfl))))) dX3_makeValue_211 ?_
        refine lv_aload_n hx hb dX3_makeValue_214 rfl (lv_at hl 0 rfl) ?_
        refine hg_18_5 hx hb hts in_f_X3_makeValue_X3 hown hK hP (hts _ (List.mem_cons_of_mem _ (List.mem_append_left _ (List.mem_append_left _ (List.mem_of_getElem? (i := 0) rfl))))) dX3_makeValue_215 ?_
        refine hg_19_2n hx hb hts in_f_X3_makeValue_X8 hown hK hP (va_Nw.use rfl (hG.1 _ (List.mem_of_getElem? (i := 10) rfl))) dX3_makeValue_218 ?_
        obtain ⟨q1, h⟩ := kr_ite1 h
        refine hl_20 hx hb hK hP q1 dX3_makeValue_221 ?_
        refine lv_istore_n (lv' := [(3, .int ((uI σ 1902 ((((σ.1 1902)) - 2))).2.2.1 20 (((uI σ 1902 ((((σ.1 1902)) - 2))).1 1902)).toNatClampNeg)), (0, .ref (a 18)), (1, .int (L.1 1))]) hx hb dX3_makeValue_222 rfl hl (by decide) rfl (fun ls hl => ?_)
        refine lv_aload_n hx hb dX3_makeValue_223 rfl (lv_at hl 1 rfl) ?_
        refine lv_iload_n hx hb dX3_makeValue_224 rfl (lv_at hl 0 rfl) ?_
        refine lv_ldc (v := (-2147483648)) hx hb hown (hts _ (List.mem_cons_of_mem _ (List.mem_append_left _ (List.mem_append_left _ (List.mem_of_getElem? (i := 16) rfl))))) dX3_makeValue_225 ?_
        refine lv_icmp_ne (tgt := 236) hx hb dX3_makeValue_227 (by decide) (fun c2 => ?_) (fun c2 => ?_)
        · rw [if_neg c2] at h
          exact ih.2.2.2.2.2.2.2.2.2.2.1 z _ _ (lI L 3 (((uI σ 1902 ((((σ.1 1902)) - 2))).2.2.1 20 (((uI σ 1902 ((((σ.1 1902)) - 2))).1 1902)).toNatClampNeg))) (uI σ 1902 ((((σ.1 1902)) - 2))) _ h hzk hc hs H locs ls hP hD hS (lv_sub hl [1, 2, 0] rfl)
        · rw [if_pos c2] at h
          refine lv_ldcw (v := (-268435455)) hx hb hown (hts _ (List.mem_cons_of_mem _ (List.mem_append_left _ (List.mem_append_left _ (List.mem_of_getElem? (i := 17) rfl))))) dX3_makeValue_230 ?_
          refine lv_goto (tgt := 283) hx hb dX3_makeValue_233 (by decide) ?_
          exact ih.2.2.2.2.2.2.2.2.2.2.2.1 z _ _ (lI L 100 ((-268435455))) (uI σ 1902 ((((σ.1 1902)) - 2))) _ h hzk hc hs H locs ls hP hD hS (lv_sub hl [] rfl)
      · intro z cells slots L σ r h hzk hc hs H locs ls hP hD hS hl
        rw [f_X3_makeValue] at h
        refine lv_aload_n hx hb dX3_makeValue_289 rfl (lv_at hl 0 rfl) ?_
        obtain ⟨r1, hc1, hle1, h9⟩ := ox_ex h
        clear h
        refine kx_v (vx_runV (As := []) (rest := []) ⟨hx, hb, hml, hown, hts⟩ (c_f_X3_newAtom l hl0 dC dI cy ek a k lZ σ r1 hc1 z H.size) (cwV 0 hts g_f_X3_makeValue_X3_newAtom_V446 rfl rfl rfl hd_f_X3_newAtom ⟨Nat.le_of_ble_eq_true rfl, Nat.le_of_ble_eq_true rfl⟩) ⟨nb_blindF, va_recv hK hP (ci := 3) (q0 := 18) rfl rfl, (kx_pre hK hG hE hT hA hP hD hS)⟩ rfl rfl hl.1 rfl (lv_room (Nat.le_of_ble_eq_true rfl)) dX3_makeValue_290 ⟨Nat.le_trans (Nat.add_le_add_left hle1.1 _) (Nat.le_of_eq hc), Nat.le_trans (Nat.add_le_add_left hle1.2 _) (Nat.le_of_eq hs)⟩) hK hA hzk hP hD hS (by decide) hno hlocks ?_
        rcases h9 with ⟨h00, y1, hny1, hy⟩ | ⟨h00, hy⟩
        · subst hy
          have h := hny1
          refine Or.inl ⟨h00, fun z H locs hz1 hzk hP hD hS => ?_⟩
          replace hc := (Nat.add_assoc _ _ _).trans hc
          replace hs := (Nat.add_assoc _ _ _).trans hs
          refine lv_goto (tgt := 318) hx hb dX3_makeValue_293 (by decide) ?_
          exact ih.2.2.2.2.2.2.2.1 z _ _ L r1.2.1 _ h hzk hc hs H locs ls hP hD hS (lv_sub hl [] rfl)
        · subst hy
          exact Or.inr ⟨h00, rfl, hc, hs⟩
      · intro z cells slots L σ r h hzk hc hs H locs ls hP hD hS hl
        rw [f_X3_makeValue] at h
        refine lv_aload_n hx hb dX3_makeValue_296 rfl (lv_at hl 0 rfl) ?_
        refine lv_aload_n hx hb dX3_makeValue_297 rfl (lv_at hl 0 rfl) ?_
        refine lv_aload_n hx hb dX3_makeValue_298 rfl (lv_at hl 0 rfl) ?_
        refine hg_18_7 hx hb hts in_f_X3_makeValue_X3 hown hK hP (hts _ (List.mem_cons_of_mem _ (List.mem_append_left _ (List.mem_append_left _ (List.mem_of_getElem? (i := 2) rfl))))) dX3_makeValue_299 ?_
        refine lv_aload_n hx hb dX3_makeValue_302 rfl (lv_at hl 0 rfl) ?_
        refine hg_18_5 hx hb hts in_f_X3_makeValue_X3 hown hK hP (hts _ (List.mem_cons_of_mem _ (List.mem_append_left _ (List.mem_append_left _ (List.mem_of_getElem? (i := 0) rfl))))) dX3_makeValue_303 ?_
        refine hg_19_2n hx hb hts in_f_X3_makeValue_X8 hown hK hP (va_Nw.use rfl (hG.1 _ (List.mem_of_getElem? (i := 10) rfl))) dX3_makeValue_306 ?_
        refine lv_iconst (v := 1) hx hb dX3_makeValue_309 (by decide) ?_
        refine lv_isub hx hb dX3_makeValue_310 ?_
        obtain ⟨q1, h⟩ := kr_ite1 h
        refine hl_20 hx hb hK hP q1 dX3_makeValue_311 ?_
        obtain ⟨r2, hc2, h⟩ := op_ex h
        refine kc_i (va_runV (As := [.int (σ.2.2.1 20 ((((σ.1 1902)) - 1)).toNatClampNeg)]) (rest := [.ref (a 18)]) ⟨hx, hb, hml, hown, hts⟩ (c_y_X3_drawn l dC dI cy a z k (lI lZ 1 ((σ.2.2.1 20 ((((σ.1 1902)) - 1)).toNatClampNeg))) σ r2 hc2 H.size) (cwV 1 hts g_y_X3_makeValue_X3_drawn_V449 rfl rfl rfl hd_y_X3_drawn ⟨Nat.le_of_ble_eq_true rfl, Nat.le_of_ble_eq_true rfl⟩) ⟨nb_blind, va_recv hK hP (ci := 3) (q0 := 18) rfl rfl, (kb_pre hK hG hP hD)⟩ rfl rfl hl.1 rfl (lv_room (Nat.le_of_ble_eq_true rfl)) dX3_makeValue_312 ⟨(Nat.le_trans (Nat.le_add_right _ _) (Nat.le_of_eq hc)), (Nat.le_trans (Nat.le_add_right _ _) (Nat.le_of_eq hs))⟩) hA hP hD hS (fun H locs hP hD hS => ?_)
        obtain ⟨r3, hc3, h⟩ := op_ex h
        refine kc_v (va_runV (As := [.int r2.1]) (rest := []) ⟨hx, hb, hml, hown, hts⟩ (c_y_X3_replace l dC dI cy a z k (lI lZ 1 r2.1) r2.2 r3 hc3 H.size) (cwV 1 hts g_y_X3_makeValue_X3_replace_V280 rfl rfl rfl hd_y_X3_replace ⟨Nat.le_of_ble_eq_true rfl, Nat.le_of_ble_eq_true rfl⟩) ⟨nb_blind, va_recv hK hP (ci := 3) (q0 := 18) rfl rfl, (kb_pre hK hG hP hD)⟩ rfl rfl hl.1 rfl (lv_room (Nat.le_of_ble_eq_true rfl)) dX3_makeValue_315 ⟨(Nat.le_trans (Nat.le_add_right _ _) (Nat.le_of_eq hc)), (Nat.le_trans (Nat.le_add_right _ _) (Nat.le_of_eq hs))⟩) hA hP hD hS (fun H locs hP hD hS => ?_)
        exact ih.2.2.2.2.2.2.2.1 z _ _ L r3.2 _ h hzk hc hs H locs ls hP hD hS (lv_sub hl [] rfl)
      · intro z cells slots L σ r h hzk hc hs H locs ls hP hD hS hl
        rw [f_X3_makeValue] at h
        obtain rfl := Option.some.inj h
        subst hc
        subst hs
        exact xr_v hx hb hr hK hzk hP hD hS hlocks dX3_makeValue_318
      · intro z cells slots L σ r h hzk hc hs H locs ls hP hD hS hl
        rw [f_X3_makeValue] at h
        refine lv_iconst (v := 0) hx hb dX3_makeValue_184 (by decide) ?_
        exact ih.2.2.2.2.2.2.2.2.2.1 z _ _ (lI (lI (lI (lI L 100 0) 101 ((L.1 100))) 102 ((L.1 101))) 103 ((L.1 102))) σ _ h hzk hc hs H locs ls hP hD hS (lv_sub hl [] rfl)
      · intro z cells slots L σ r h hzk hc hs H locs ls hP hD hS hl
        rw [f_X3_makeValue] at h
        obtain ⟨r1, hc1, h⟩ := op_ex h
        refine kc_i (va_runV (As := [.int (L.1 103), .int (L.1 102), .int (L.1 101), .int (L.1 100)]) (rest := [.ref (a 18)]) ⟨hx, hb, hml, hown, hts⟩ (c_y_X0_progression l dC dI cy a z k (lI (lI (lI (lI lZ 1 ((L.1 103))) 2 ((L.1 102))) 3 ((L.1 101))) 4 ((L.1 100))) σ r1 hc1 H.size) (cwV 4 hts g_y_X3_makeValue_X0_progression_V441 rfl rfl rfl hd_y_X0_progression ⟨Nat.le_of_ble_eq_true rfl, Nat.le_of_ble_eq_true rfl⟩) ⟨nb_blind, va_recv hK hP (ci := 0) (q0 := 14) rfl rfl, (kb_pre hK hG hP hD)⟩ rfl rfl hl.1 rfl (lv_room (Nat.le_of_ble_eq_true rfl)) dX3_makeValue_185 ⟨(Nat.le_trans (Nat.le_add_right _ _) (Nat.le_of_eq hc)), (Nat.le_trans (Nat.le_add_right _ _) (Nat.le_of_eq hs))⟩) hA hP hD hS (fun H locs hP hD hS => ?_)
        obtain ⟨r2, hc2, h⟩ := op_ex h
        refine kc_v (va_runV (As := [.int r1.1]) (rest := []) ⟨hx, hb, hml, hown, hts⟩ (c_y_X3_replace l dC dI cy a z k (lI lZ 1 r1.1) r1.2 r2 hc2 H.size) (cwV 1 hts g_y_X3_makeValue_X3_replace_V280 rfl rfl rfl hd_y_X3_replace ⟨Nat.le_of_ble_eq_true rfl, Nat.le_of_ble_eq_true rfl⟩) ⟨nb_blind, va_recv hK hP (ci := 3) (q0 := 18) rfl rfl, (kb_pre hK hG hP hD)⟩ rfl rfl hl.1 rfl (lv_room (Nat.le_of_ble_eq_true rfl)) dX3_makeValue_188 ⟨(Nat.le_trans (Nat.le_add_right _ _) (Nat.le_of_eq hc)), (Nat.le_trans (Nat.le_add_right _ _) (Nat.le_of_eq hs))⟩) hA hP hD hS (fun H locs hP hD hS => ?_)
        refine lv_goto (tgt := 318) hx hb dX3_makeValue_191 (by decide) ?_
        exact ih.2.2.2.2.2.2.2.1 z _ _ L r2.2 _ h hzk hc hs H locs ls hP hD hS (lv_sub hl [] rfl)
      · intro z cells slots L σ r h hzk hc hs H locs ls hP hD hS hl
        rw [f_X3_makeValue] at h
        refine lv_aload_n hx hb dX3_makeValue_236 rfl (lv_at hl 0 rfl) ?_
        refine hg_18_2 hx hb hts in_f_X3_makeValue_X3 hown hK hP (hts _ (List.mem_cons_of_mem _ (List.mem_append_left _ (List.mem_append_left _ (List.mem_of_getElem? (i := 1) rfl))))) dX3_makeValue_237 ?_
        refine lv_aload_n hx hb dX3_makeValue_240 rfl (lv_at hl 0 rfl) ?_
        refine hg_18_7 hx hb hts in_f_X3_makeValue_X3 hown hK hP (hts _ (List.mem_cons_of_mem _ (List.mem_append_left _ (List.mem_append_left _ (List.mem_of_getElem? (i := 2) rfl))))) dX3_makeValue_241 ?_
        refine lv_aload_n hx hb dX3_makeValue_244 rfl (lv_at hl 0 rfl) ?_
        refine hg_18_5 hx hb hts in_f_X3_makeValue_X3 hown hK hP (hts _ (List.mem_cons_of_mem _ (List.mem_append_left _ (List.mem_append_left _ (List.mem_of_getElem? (i := 0) rfl))))) dX3_makeValue_245 ?_
        refine hg_19_2n hx hb hts in_f_X3_makeValue_X8 hown hK hP (va_Nw.use rfl (hG.1 _ (List.mem_of_getElem? (i := 10) rfl))) dX3_makeValue_248 ?_
        refine lv_iconst (v := 1) hx hb dX3_makeValue_251 (by decide) ?_
        refine lv_isub hx hb dX3_makeValue_252 ?_
        obtain ⟨q1, h⟩ := kr_ite1 h
        refine hl_20 hx hb hK hP q1 dX3_makeValue_253 ?_
        refine lv_iload_n hx hb dX3_makeValue_254 rfl (lv_at hl 2 rfl) ?_
        refine lv_aload_n hx hb dX3_makeValue_255 rfl (lv_at hl 0 rfl) ?_
        refine hg_18_7 hx hb hts in_f_X3_makeValue_X3 hown hK hP (hts _ (List.mem_cons_of_mem _ (List.mem_append_left _ (List.mem_append_left _ (List.mem_of_getElem? (i := 2) rfl))))) dX3_makeValue_256 ?_
        refine lv_aload_n hx hb dX3_makeValue_259 rfl (lv_at hl 0 rfl) ?_
        refine hg_18_5 hx hb hts in_f_X3_makeValue_X3 hown hK hP (hts _ (List.mem_cons_of_mem _ (List.mem_append_left _ (List.mem_append_left _ (List.mem_of_getElem? (i := 0) rfl))))) dX3_makeValue_260 ?_
        refine hg_19_2n hx hb hts in_f_X3_makeValue_X8 hown hK hP (va_Nw.use rfl (hG.1 _ (List.mem_of_getElem? (i := 10) rfl))) dX3_makeValue_263 ?_
        refine lv_iconst (v := 1) hx hb dX3_makeValue_266 (by decide) ?_
        refine lv_iadd hx hb dX3_makeValue_267 ?_
        obtain ⟨q2, h⟩ := kr_ite1 h
        refine hl_20 hx hb hK hP q2 dX3_makeValue_268 ?_
        refine lv_iload_n hx hb dX3_makeValue_269 rfl (lv_at hl 1 rfl) ?_
        refine lv_bipush (v := 52) hx hb dX3_makeValue_270 (by decide) ?_
        refine lv_icmp_ne (tgt := 279) hx hb dX3_makeValue_272 (by decide) (fun c3 => ?_) (fun c3 => ?_)
        · rw [if_neg c3] at h
          exact ih.2.2.2.2.2.2.2.2.2.2.2.2.1 z _ _ (lI (lI (lI L 100 ((σ.2.2.1 20 ((((σ.1 1902)) + 1)).toNatClampNeg))) 101 ((L.1 3))) 102 ((σ.2.2.1 20 ((((σ.1 1902)) - 1)).toNatClampNeg))) σ _ h hzk hc hs H locs ls hP hD hS (lv_sub hl [] rfl)
        · rw [if_pos c3] at h
          refine lv_iconst (v := 1) hx hb dX3_makeValue_275 (by decide) ?_
          refine lv_goto (tgt := 280) hx hb dX3_makeValue_276 (by decide) ?_
          exact ih.2.2.2.2.2.2.2.2.2.2.2.2.2 z _ _ (lI (lI (lI (lI L 100 1) 101 ((σ.2.2.1 20 ((((σ.1 1902)) + 1)).toNatClampNeg))) 102 ((L.1 3))) 103 ((σ.2.2.1 20 ((((σ.1 1902)) - 1)).toNatClampNeg))) σ _ h hzk hc hs H locs ls hP hD hS (lv_sub hl [] rfl)
      · intro z cells slots L σ r h hzk hc hs H locs ls hP hD hS hl
        rw [f_X3_makeValue] at h
        obtain ⟨r1, hc1, h⟩ := op_ex h
        refine kc_v (va_runV (As := [.int (L.1 100)]) (rest := []) ⟨hx, hb, hml, hown, hts⟩ (c_y_X3_replace l dC dI cy a z k (lI lZ 1 ((L.1 100))) σ r1 hc1 H.size) (cwV 1 hts g_y_X3_makeValue_X3_replace_V280 rfl rfl rfl hd_y_X3_replace ⟨Nat.le_of_ble_eq_true rfl, Nat.le_of_ble_eq_true rfl⟩) ⟨nb_blind, va_recv hK hP (ci := 3) (q0 := 18) rfl rfl, (kb_pre hK hG hP hD)⟩ rfl rfl hl.1 rfl (lv_room (Nat.le_of_ble_eq_true rfl)) dX3_makeValue_283 ⟨(Nat.le_trans (Nat.le_add_right _ _) (Nat.le_of_eq hc)), (Nat.le_trans (Nat.le_add_right _ _) (Nat.le_of_eq hs))⟩) hA hP hD hS (fun H locs hP hD hS => ?_)
        refine lv_goto (tgt := 318) hx hb dX3_makeValue_286 (by decide) ?_
        exact ih.2.2.2.2.2.2.2.1 z _ _ L r1.2 _ h hzk hc hs H locs ls hP hD hS (lv_sub hl [] rfl)
      · intro z cells slots L σ r h hzk hc hs H locs ls hP hD hS hl
        rw [f_X3_makeValue] at h
        refine lv_iconst (v := 0) hx hb dX3_makeValue_279 (by decide) ?_
        exact ih.2.2.2.2.2.2.2.2.2.2.2.2.2 z _ _ (lI (lI (lI (lI L 100 0) 101 ((L.1 100))) 102 ((L.1 101))) 103 ((L.1 102))) σ _ h hzk hc hs H locs ls hP hD hS (lv_sub hl [] rfl)
      · intro z cells slots L σ r h hzk hc hs H locs ls hP hD hS hl
        rw [f_X3_makeValue] at h
        obtain ⟨r1, hc1, h⟩ := op_ex h
        refine kc_i (va_runV (As := [.int (L.1 103), .int (L.1 102), .int (L.1 101), .int (L.1 100)]) (rest := [.ref (a 18)]) ⟨hx, hb, hml, hown, hts⟩ (c_y_X0_progression l dC dI cy a z k (lI (lI (lI (lI lZ 1 ((L.1 103))) 2 ((L.1 102))) 3 ((L.1 101))) 4 ((L.1 100))) σ r1 hc1 H.size) (cwV 4 hts g_y_X3_makeValue_X0_progression_V441 rfl rfl rfl hd_y_X0_progression ⟨Nat.le_of_ble_eq_true rfl, Nat.le_of_ble_eq_true rfl⟩) ⟨nb_blind, va_recv hK hP (ci := 0) (q0 := 14) rfl rfl, (kb_pre hK hG hP hD)⟩ rfl rfl hl.1 rfl (lv_room (Nat.le_of_ble_eq_true rfl)) dX3_makeValue_280 ⟨(Nat.le_trans (Nat.le_add_right _ _) (Nat.le_of_eq hc)), (Nat.le_trans (Nat.le_add_right _ _) (Nat.le_of_eq hs))⟩) hA hP hD hS (fun H locs hP hD hS => ?_)
        exact ih.2.2.2.2.2.2.2.2.2.2.2.1 z _ _ (lI L 100 r1.1) r1.2 _ h hzk hc hs H locs ls hP hD hS (lv_sub hl [] rfl)
  exact (blk k0).1 z 0 0 L0 σ0 r0 h0 (zk_rf _ _) ((Nat.zero_add _).trans hmc) ((Nat.zero_add _).trans hms) s.heap [] ls hP hD hS hl

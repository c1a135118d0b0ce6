/-! X11_showValue -/
def f_X11_showValue : Nat → Nat → LV → CS → Option RS
  | 0, _, _, _ => none
  | k + 1, 0, L, σ => if ¬ ((0 : Int32) < 0 ∨ 27 ≤ (0 : Int32).toNatClampNeg) then (if ¬ ((1 : Int32) < 0 ∨ 27 ≤ (1 : Int32).toNatClampNeg) then (if ¬ ((0 : Int32) < 0 ∨ 27 ≤ (0 : Int32).toNatClampNeg) then (f_X11_showValue k 1 (lI L 100 ((if (2 : Int32) < (((((uA (uA σ 67 (1 : Int32).toNatClampNeg ((σ.2.2.1 67 (0 : Int32).toNatClampNeg))) 67 (0 : Int32).toNatClampNeg ((L.1 1))).1 7518)) + 1)) then (2 : Int32) else (((((uA (uA σ 67 (1 : Int32).toNatClampNeg ((σ.2.2.1 67 (0 : Int32).toNatClampNeg))) 67 (0 : Int32).toNatClampNeg ((L.1 1))).1 7518)) + 1))))) (uA (uA σ 67 (1 : Int32).toNatClampNeg ((σ.2.2.1 67 (0 : Int32).toNatClampNeg))) 67 (0 : Int32).toNatClampNeg ((L.1 1)))) else none) else none) else none
  | k + 1, 1, L, σ => ox (f_X6_print k 0 (lI lZ 1 ((L.1 1))) (uI σ 7518 ((L.1 100)))) (fun r1 => if ¬ (10400 : Int32) < 0 ∧ (10400 : Int32).toNatClampNeg < 134217728 ∧ (sN (uI r1.2.1 7517 ((r1.2.1.1 1203))) 66) < 2147483648 then (if nI (sN (uI r1.2.1 7517 ((r1.2.1.1 1203))) 66) < (((uI r1.2.1 7517 ((r1.2.1.1 1203))).1 7517)) ∧ (sN (uI r1.2.1 7517 ((r1.2.1.1 1203))) 66) < (10400 : Int32).toNatClampNeg then (if ∀ i, i < (sN (uI r1.2.1 7517 ((r1.2.1.1 1203))) 66) → fits .byte (.int ((uI r1.2.1 7517 ((r1.2.1.1 1203))).2.2.1 66 i)) = true then (adR (1, (10400 : Int32).toNatClampNeg) (f_X11_showValue k 2 L (uZ (uI r1.2.1 7517 ((r1.2.1.1 1203))) 66 (10400 : Int32).toNatClampNeg))) else none) else (f_X11_showValue k 2 L (uI r1.2.1 7517 ((r1.2.1.1 1203))))) else none)
  | k + 1, 2, L, σ => if ¬ (0 : Int32) < 0 ∧ ¬ (0 : Int32) < 0 ∧ ¬ ((σ.1 7517)) < 0 ∧ (0 : Int32).toNatClampNeg + ((σ.1 7517)).toNatClampNeg ≤ 10400 ∧ (0 : Int32).toNatClampNeg + ((σ.1 7517)).toNatClampNeg ≤ (sN σ 66) then (if ∀ i, i < ((σ.1 7517)).toNatClampNeg → fits .byte (.int (σ.2.2.1 13 ((0 : Int32).toNatClampNeg + i))) = true then (f_X11_showValue k 3 L (uF σ 66 (va_cpy (σ.2.2.1 13) (σ.2.2.1 66) (0 : Int32).toNatClampNeg (0 : Int32).toNatClampNeg ((σ.1 7517)).toNatClampNeg))) else none) else none
  | k + 1, 3, L, σ => some ((0, (σ.1 7517)), σ, (0, 0))
  | _ + 1, _ + 4, _, _ => none
def o_f_X11_showValue : List Cond := [.fieldLink RX11 56 "SetHouse" "kept" "[I", .fieldLink RX11 228 "SetHouse" "shownValues" "I", .methodLink RX11 231 Lib.Math.min.name, .static Lib.Math.min.name, .initialized "java/lang/Math", .code Lib.Math.min.name Lib.Math.min.code 2 (some .int), .fieldLink RX11 43 "SetHouse" "printer" "LSetHouse$Printer;", .methodLink RX11 237 yX6_print, .instanceMethod yX6_print, .selects RX6 yX6_print yX6_print, .initialized RX6, .fieldLink RX11 241 "SetHouse" "shownLength" "I", .fieldLink RX11 102 "SetHouse" "shownText" "[B", .methodLink RX11 244 yX11_widenedBytes, .static yX11_widenedBytes, .initialized RX11, .methodLink RX11 251 arraycopyName, .native arraycopyName, .static arraycopyName, .initialized "java/lang/System"]
theorem o_f_X11_showValue_good : o_f_X11_showValue.all goodWord = true := by decide +kernel
def p_f_X11_showValue : List Cond := o_f_X11_showValue ++ ((.code yX6_print cX6_print 2 none :: p_f_X6_print) ++ ((.code yX11_widenedBytes cX11_widenedBytes 3 (some (.array .byte)) :: p_f_X11_widenedBytes) ++ []))
theorem p_f_X11_showValue_good : p_f_X11_showValue.all goodWord = true := nb_all2 o_f_X11_showValue_good (nb_all2 (nb_allc (by decide +kernel) p_f_X6_print_good) (nb_all2 (nb_allc (by decide +kernel) p_f_X11_widenedBytes_good) rfl))
def w_f_X11_showValue : List Cond := .code yX11_showValue cX11_showValue 2 (some .int) :: (p_f_X11_showValue ++ fC)
theorem w_f_X11_showValue_good : w_f_X11_showValue.all goodWord = true := nb_allc (by decide +kernel) (nb_all2 p_f_X11_showValue_good fC_good)
theorem in_f_X11_showValue_X6 : ∀ w ∈ wsX60, w ∈ w_f_X11_showValue := fun _ h => List.mem_cons_of_mem _ (List.mem_append_right _ (List.mem_append_right _ (List.mem_append_right _ (List.mem_append_right _ (List.mem_append_right _ (List.mem_append_right _ (List.mem_append_left _ h)))))))
theorem in_f_X11_showValue_X11 : ∀ w ∈ wsX110, w ∈ w_f_X11_showValue := fun _ h => List.mem_cons_of_mem _ (List.mem_append_right _ (List.mem_append_right _ (List.mem_append_right _ (List.mem_append_right _ (List.mem_append_right _ (List.mem_append_right _ (List.mem_append_right _ (List.mem_append_right _ (List.mem_append_right _ (List.mem_append_right _ (List.mem_append_right _ h)))))))))))
theorem hd_f_X11_showValue : yX11_showValue.cls = RX11 ∧ yX11_showValue.cls ≠ "java/lang/invoke/MethodHandle" ∧ yX11_showValue.cls ≠ "java/lang/invoke/VarHandle" ∧ (parseMethodDescriptor yX11_showValue.desc).map (fun d => d.parameters.length) = some 1 := by decide +kernel
theorem gg_f_X11_showValue_X11_widenedBytes : GoodIn w_f_X11_showValue w_f_X11_widenedBytes := goodIn_sub (fun w h => (List.mem_cons.mp h).elim (fun e => (List.mem_cons_of_mem _ (List.mem_append_left _ (List.mem_append_right _ (List.mem_append_right _ (List.mem_append_left _ (List.mem_cons.mpr (Or.inl e)))))))) (fun h => (List.mem_append.mp h).elim (fun h => (List.mem_cons_of_mem _ (List.mem_append_left _ (List.mem_append_right _ (List.mem_append_right _ (List.mem_append_left _ (List.mem_cons_of_mem _ h))))))) (fun h => List.mem_cons_of_mem _ (List.mem_append_right _ h)))) w_f_X11_widenedBytes_good
theorem g_f_X11_showValue_X11_widenedBytes_S244 : GoodIn w_f_X11_showValue (va_wsS RX11 244 yX11_widenedBytes w_f_X11_widenedBytes) := goodIn_app (nb_g3 (List.mem_cons_of_mem _ (List.mem_append_left _ (List.mem_append_left _ (List.mem_of_getElem? (i := 13) rfl)))) (List.mem_cons_of_mem _ (List.mem_append_left _ (List.mem_append_left _ (List.mem_of_getElem? (i := 14) rfl)))) (List.mem_cons_of_mem _ (List.mem_append_left _ (List.mem_append_left _ (List.mem_of_getElem? (i := 15) rfl)))) (by decide +kernel)) gg_f_X11_showValue_X11_widenedBytes
theorem gg_f_X11_showValue_X6_print : GoodIn w_f_X11_showValue w_f_X6_print := goodIn_sub (fun w h => (List.mem_cons.mp h).elim (fun e => (List.mem_cons_of_mem _ (List.mem_append_left _ (List.mem_append_right _ (List.mem_append_left _ (List.mem_cons.mpr (Or.inl e))))))) (fun h => (List.mem_append.mp h).elim (fun h => (List.mem_cons_of_mem _ (List.mem_append_left _ (List.mem_append_right _ (List.mem_append_left _ (List.mem_cons_of_mem _ h)))))) (fun h => List.mem_cons_of_mem _ (List.mem_append_right _ h)))) w_f_X6_print_good
theorem g_f_X11_showValue_X6_print_V237 : GoodIn w_f_X11_showValue (wsV RX11 237 RX6 yX6_print w_f_X6_print) := goodIn_app (nb_g4 (List.mem_cons_of_mem _ (List.mem_append_left _ (List.mem_append_left _ (List.mem_of_getElem? (i := 7) rfl)))) (List.mem_cons_of_mem _ (List.mem_append_left _ (List.mem_append_left _ (List.mem_of_getElem? (i := 8) rfl)))) (List.mem_cons_of_mem _ (List.mem_append_left _ (List.mem_append_left _ (List.mem_of_getElem? (i := 9) rfl)))) (List.mem_cons_of_mem _ (List.mem_append_left _ (List.mem_append_left _ (List.mem_of_getElem? (i := 10) rfl)))) (by decide +kernel)) gg_f_X11_showValue_X6_print
set_option maxHeartbeats 40000000 in
set_option maxRecDepth 100000 in
theorem c_f_X11_showValue (l : Launch) (hl0 : l.stackTraces = false) (dC : Nat → ClassId) (dI : Nat → Nat → Nat) (cy : Nat → ClassId) (ek a : Nat → Nat) (k0 : Nat) (L0 : LV) (σ0 : CS) (r0 : RS) (h0 : f_X11_showValue k0 0 L0 σ0 = some r0) (z : Nat → Nat) (sz : Nat) : vx_Met l yX11_showValue w_f_X11_showValue ({ frames := 87, cells := r0.2.2.1, slots := r0.2.2.2, locals := 2152 }) (va_Pc [.ref (a 75), .int (L0.1 1)] (nInF (dC, dI) cy ek sz (vC cy a z σ0))) (xI dC dI cy a (va_A (vC cy a z σ0) sz) [66] z r0) (xX dC dI cy a (va_A (vC cy a z σ0) sz) [66] z r0) r0.2.2.1 r0.2.2.2 (va_A (vC cy a z σ0) sz) := by
  refine vx_ofW (cc := cX11_showValue) (maxL := 2) (ret := (some .int)) (by decide) rfl ?_
  intro p e s m args below meth c s₁ B hml hno hv
  obtain ⟨rfl, ⟨⟨hsz, hP, hK, hD0, hG⟩, hE⟩, hT⟩ := hv
  have hx := B.exec
  have hb := B.bytes
  have hr := B.returns
  have hts := atoms_spec (ws := w_f_X11_showValue) B.pre
  have hown : s.vm.findClass RX11 = some m.cls := findClass_of_methodNamed B.named
  have hlocks := B.notSynchronized
  subst hsz
  have hD := hD0.self (sz := s.heap.size)
  generalize hAe : va_A (vC cy a z σ0) s.heap.size = A at hD hE hT ⊢
  have hA : ∀ q : Nat, s.heap.size ≤ q → A q := fun q h => by rw [← hAe]; exact Or.inr h
  have hS : va_S A s.heap s.heap [] := va_S.rf
  have hl := lv_entry ([.ref (a 75), .int (L0.1 1)]) (n := 2) (Nat.le_of_ble_eq_true rfl)
  rw [lg_entry_eq]
  generalize (lg_sl ([.ref (a 75), .int (L0.1 1)]) ++ List.replicate (2 - (lg_sl ([.ref (a 75), .int (L0.1 1)])).length) Slot.unset).toArray = ls at hl ⊢
  have hl : lv_has ls 2 [(0, .ref (a 75)), (1, .int (L0.1 1))] := hl
  generalize hmc : r0.2.2.1 = mc
  generalize hms : r0.2.2.2 = ms
  have blk : ∀ k : Nat, (bX p l e (headSpec w_f_X11_showValue ({ frames := 87, cells := mc, slots := ms, locals := 2152 })).room s m #[.ref (a 75), .int (L0.1 1)] below meth c dC dI cy a A (fun r => vx_MQ below (xI dC dI cy a A [66] z r) (xX dC dI cy a A [66] z r) #[.ref (a 75), .int (L0.1 1)] s mc ms A) [66] z mc ms 2 (f_X11_showValue k 0) (fun z L => [(0, .ref (a 75)), (1, .int (L.1 1))]) 0 (fun z L => [])) ∧ (bX p l e (headSpec w_f_X11_showValue ({ frames := 87, cells := mc, slots := ms, locals := 2152 })).room s m #[.ref (a 75), .int (L0.1 1)] below meth c dC dI cy a A (fun r => vx_MQ below (xI dC dI cy a A [66] z r) (xX dC dI cy a A [66] z r) #[.ref (a 75), .int (L0.1 1)] s mc ms A) [66] z mc ms 2 (f_X11_showValue k 1) (fun z L => [(0, .ref (a 75)), (1, .int (L.1 1))]) 30 (fun z L => [.int (L.1 100), .ref (a 75)])) ∧ (bX p l e (headSpec w_f_X11_showValue ({ frames := 87, cells := mc, slots := ms, locals := 2152 })).room s m #[.ref (a 75), .int (L0.1 1)] below meth c dC dI cy a A (fun r => vx_MQ below (xI dC dI cy a A [66] z r) (xX dC dI cy a A [66] z r) #[.ref (a 75), .int (L0.1 1)] s mc ms A) [66] z mc ms 2 (f_X11_showValue k 2) (fun z L => [(0, .ref (a 75))]) 70 (fun z L => [])) ∧ (bX p l e (headSpec w_f_X11_showValue ({ frames := 87, cells := mc, slots := ms, locals := 2152 })).room s m #[.ref (a 75), .int (L0.1 1)] below meth c dC dI cy a A (fun r => vx_MQ below (xI dC dI cy a A [66] z r) (xX dC dI cy a A [66] z r) #[.ref (a 75), .int (L0.1 1)] s mc ms A) [66] z mc ms 2 (f_X11_showValue k 3) (fun z L => [(0, .ref (a 75))]) 90 (fun z L => [])) := by
    intro k
    induction k with
    | zero => exact ⟨fun z c1 c2 L σ r h => (by cases h), fun z c1 c2 L σ r h => (by cases h), fun z c1 c2 L σ r h => (by cases h), fun z c1 c2 L σ r h => (by cases h)⟩
    | succ k ih =>
      refine ⟨?_, ?_, ?_, ?_⟩
      · intro z cells slots L σ r h hzk hc hs H locs ls hP hD hS hl
        rw [f_X11_showValue] at h
        refine lv_aload_n hx hb dX11_showValue_0 rfl (lv_at hl 0 rfl) ?_
        refine hg_75_4 hx hb hts in_f_X11_showValue_X11 hown hK hP (hts _ (List.mem_cons_of_mem _ (List.mem_append_left _ (List.mem_append_left _ (List.mem_of_getElem? (i := 0) rfl))))) dX11_showValue_1 ?_
        refine lv_iconst (v := 1) hx hb dX11_showValue_4 (by decide) ?_
        refine lv_aload_n hx hb dX11_showValue_5 rfl (lv_at hl 0 rfl) ?_
        refine hg_75_4 hx hb hts in_f_X11_showValue_X11 hown hK hP (hts _ (List.mem_cons_of_mem _ (List.mem_append_left _ (List.mem_append_left _ (List.mem_of_getElem? (i := 0) rfl))))) dX11_showValue_6 ?_
        refine lv_iconst (v := 0) hx hb dX11_showValue_9 (by decide) ?_
        obtain ⟨q1, h⟩ := kr_ite1 h
        refine hl_67 hx hb hK hP q1 dX11_showValue_10 ?_
        obtain ⟨q2, h⟩ := kr_ite1 h
        refine hs_67 hx hb hK hP hD hS q2 dX11_showValue_11 (fun H locs hP hD hS => ?_)
        refine lv_aload_n hx hb dX11_showValue_12 rfl (lv_at hl 0 rfl) ?_
        refine hg_75_4 hx hb hts in_f_X11_showValue_X11 hown hK hP (hts _ (List.mem_cons_of_mem _ (List.mem_append_left _ (List.mem_append_left _ (List.mem_of_getElem? (i := 0) rfl))))) dX11_showValue_13 ?_
        refine lv_iconst (v := 0) hx hb dX11_showValue_16 (by decide) ?_
        refine lv_iload_n hx hb dX11_showValue_17 rfl (lv_at hl 1 rfl) ?_
        obtain ⟨q3, h⟩ := kr_ite1 h
        refine hs_67 hx hb hK hP hD hS q3 dX11_showValue_18 (fun H locs hP hD hS => ?_)
        refine lv_aload_n hx hb dX11_showValue_19 rfl (lv_at hl 0 rfl) ?_
        refine lv_aload_n hx hb dX11_showValue_20 rfl (lv_at hl 0 rfl) ?_
        refine hg_75_18 hx hb hts in_f_X11_showValue_X11 hown hK hP (hts _ (List.mem_cons_of_mem _ (List.mem_append_left _ (List.mem_append_left _ (List.mem_of_getElem? (i := 1) rfl))))) dX11_showValue_21 ?_
        refine lv_iconst (v := 1) hx hb dX11_showValue_24 (by decide) ?_
        refine lv_iadd hx hb dX11_showValue_25 ?_
        refine lv_iconst (v := 2) hx hb dX11_showValue_26 (by decide) ?_
        refine va_mmin (x := (((((uA (uA σ 67 (1 : Int32).toNatClampNeg ((σ.2.2.1 67 (0 : Int32).toNatClampNeg))) 67 (0 : Int32).toNatClampNeg ((L.1 1))).1 7518)) + 1))) (y := (2 : Int32)) hx hb (hml.trans hl.1.symm) hown (hts _ (List.mem_cons_of_mem _ (List.mem_append_left _ (List.mem_append_left _ (List.mem_of_getElem? (i := 2) rfl))))) (hts _ (List.mem_cons_of_mem _ (List.mem_append_left _ (List.mem_append_left _ (List.mem_of_getElem? (i := 3) rfl))))) (hts _ (List.mem_cons_of_mem _ (List.mem_append_left _ (List.mem_append_left _ (List.mem_of_getElem? (i := 4) rfl))))) (hts _ (List.mem_cons_of_mem _ (List.mem_append_left _ (List.mem_append_left _ (List.mem_of_getElem? (i := 5) rfl))))) (Nat.le_of_ble_eq_true rfl) (Nat.le_of_ble_eq_true rfl)  (Nat.le_trans (Nat.le_add_right _ _) (Nat.le_of_eq hc)) (Nat.le_trans (Nat.le_add_right _ _) (Nat.le_of_eq hs)) dX11_showValue_27 ?_
        exact ih.2.1 z _ _ (lI L 100 ((if (2 : Int32) < (((((uA (uA σ 67 (1 : Int32).toNatClampNeg ((σ.2.2.1 67 (0 : Int32).toNatClampNeg))) 67 (0 : Int32).toNatClampNeg ((L.1 1))).1 7518)) + 1)) then (2 : Int32) else (((((uA (uA σ 67 (1 : Int32).toNatClampNeg ((σ.2.2.1 67 (0 : Int32).toNatClampNeg))) 67 (0 : Int32).toNatClampNeg ((L.1 1))).1 7518)) + 1))))) (uA (uA σ 67 (1 : Int32).toNatClampNeg ((σ.2.2.1 67 (0 : Int32).toNatClampNeg))) 67 (0 : Int32).toNatClampNeg ((L.1 1))) _ h hzk hc hs H locs ls hP hD hS (lv_sub hl [0, 1] rfl)
      · intro z cells slots L σ r h hzk hc hs H locs ls hP hD hS hl
        rw [f_X11_showValue] at h
        refine hp_75_18 hx hb hts in_f_X11_showValue_X11 hown hK hP hD hS (hts _ (List.mem_cons_of_mem _ (List.mem_append_left _ (List.mem_append_left _ (List.mem_of_getElem? (i := 1) rfl))))) dX11_showValue_30 (fun H locs hP hD hS => ?_)
        refine lv_aload_n hx hb dX11_showValue_33 rfl (lv_at hl 0 rfl) ?_
        refine hg_75_2 hx hb hts in_f_X11_showValue_X11 hown hK hP (hts _ (List.mem_cons_of_mem _ (List.mem_append_left _ (List.mem_append_left _ (List.mem_of_getElem? (i := 6) rfl))))) dX11_showValue_34 ?_
        refine lv_iload_n hx hb dX11_showValue_37 rfl (lv_at hl 1 rfl) ?_
        obtain ⟨r1, hc1, hle1, h9⟩ := ox_ex h
        clear h
        refine kx_v (vx_runV (As := [.int (L.1 1)]) (rest := []) ⟨hx, hb, hml, hown, hts⟩ (c_f_X6_print l hl0 dC dI cy ek a k (lI lZ 1 ((L.1 1))) (uI σ 7518 ((L.1 100))) r1 hc1 z H.size) (cwV 1 hts g_f_X11_showValue_X6_print_V237 rfl rfl rfl hd_f_X6_print ⟨Nat.le_of_ble_eq_true rfl, Nat.le_of_ble_eq_true rfl⟩) ⟨nb_blindF, va_recv hK hP (ci := 5) (q0 := 12) rfl rfl, (kx_pre hK hG hE hT hA hP hD hS)⟩ rfl rfl hl.1 rfl (lv_room (Nat.le_of_ble_eq_true rfl)) dX11_showValue_38 ⟨Nat.le_trans (Nat.add_le_add_left hle1.1 _) (Nat.le_of_eq hc), Nat.le_trans (Nat.add_le_add_left hle1.2 _) (Nat.le_of_eq hs)⟩) hK hA hzk hP hD hS (by decide) hno hlocks ?_
        rcases h9 with ⟨h00, y1, hny1, hy⟩ | ⟨h00, hy⟩
        · subst hy
          have h := hny1
          refine Or.inl ⟨h00, fun u H locs hz1 hzk hP hD hS => ?_⟩
          obtain rfl := (zk_nil hz1).symm
          replace hc := (Nat.add_assoc _ _ _).trans hc
          replace hs := (Nat.add_assoc _ _ _).trans hs
          refine lv_aload_n hx hb dX11_showValue_41 rfl (lv_at hl 0 rfl) ?_
          refine lv_aload_n hx hb dX11_showValue_42 rfl (lv_at hl 0 rfl) ?_
          refine hg_75_2 hx hb hts in_f_X11_showValue_X11 hown hK hP (hts _ (List.mem_cons_of_mem _ (List.mem_append_left _ (List.mem_append_left _ (List.mem_of_getElem? (i := 6) rfl))))) dX11_showValue_43 ?_
          refine hg_12_3n hx hb hts in_f_X11_showValue_X6 hown hK hP (va_Nw.use rfl (hG.1 _ (List.mem_of_getElem? (i := 5) rfl))) dX11_showValue_46 ?_
          refine hp_75_17 hx hb hts in_f_X11_showValue_X11 hown hK hP hD hS (hts _ (List.mem_cons_of_mem _ (List.mem_append_left _ (List.mem_append_left _ (List.mem_of_getElem? (i := 11) rfl))))) dX11_showValue_49 (fun H locs hP hD hS => ?_)
          refine lv_aload_n hx hb dX11_showValue_52 rfl (lv_at hl 0 rfl) ?_
          refine lv_aload_n hx hb dX11_showValue_53 rfl (lv_at hl 0 rfl) ?_
          refine hg_75_16 hx hb hts in_f_X11_showValue_X11 hown hK hP (hts _ (List.mem_cons_of_mem _ (List.mem_append_left _ (List.mem_append_left _ (List.mem_of_getElem? (i := 12) rfl))))) dX11_showValue_54 ?_
          refine lv_aload_n hx hb dX11_showValue_57 rfl (lv_at hl 0 rfl) ?_
          refine hg_75_17 hx hb hts in_f_X11_showValue_X11 hown hK hP (hts _ (List.mem_cons_of_mem _ (List.mem_append_left _ (List.mem_append_left _ (List.mem_of_getElem? (i := 11) rfl))))) dX11_showValue_58 ?_
          refine lv_sipush (v := 10400) hx hb dX11_showValue_61 (by decide) ?_
          obtain ⟨q2, h⟩ := kr_ite1 h
          by_cases q3 : nI (sN (uI r1.2.1 7517 ((r1.2.1.1 1203))) 66) < (((uI r1.2.1 7517 ((r1.2.1.1 1203))).1 7517)) ∧ (sN (uI r1.2.1 7517 ((r1.2.1.1 1203))) 66) < (10400 : Int32).toNatClampNeg
          · rw [if_pos q3] at h
            obtain ⟨q4, h⟩ := kr_ite1 h
            obtain ⟨y4, hny4, hy⟩ := adR_ex h
            subst hy
            have h := hny4
            refine hw_66_new ⟨hx, hb, hml, hown, hts⟩ (va_cwS 3 hts g_f_X11_showValue_X11_widenedBytes_S244 rfl rfl rfl (by decide +kernel) ⟨Nat.le_of_ble_eq_true rfl, Nat.le_of_ble_eq_true rfl⟩) in_f_X11_showValue_X11 hK hG hA hP hD hS q2 q3 q4 hl.1 (Nat.le_of_ble_eq_true rfl) dX11_showValue_64 (hts _ (List.mem_cons_of_mem _ (List.mem_append_left _ (List.mem_append_left _ (List.mem_of_getElem? (i := 12) rfl))))) dX11_showValue_67 (Nat.le_trans (Nat.add_le_add_left (Nat.le_add_right _ _) _) (Nat.le_of_eq hc)) (Nat.le_trans (Nat.add_le_add_left (Nat.le_add_right _ _) _) (Nat.le_of_eq hs)) (fun z H locs hz4 hP hD hS => ?_)
            have hzk := zk_tr hzk hz4 (by decide)
            replace hc := (Nat.add_assoc _ _ _).trans hc
            replace hs := (Nat.add_assoc _ _ _).trans hs
            exact ih.2.2.1 z _ _ L (uZ (uI r1.2.1 7517 ((r1.2.1.1 1203))) 66 (10400 : Int32).toNatClampNeg) _ h hzk hc hs H locs ls hP hD hS (lv_sub hl [0] rfl)
          · rw [if_neg q3] at h
            refine hw_66_same ⟨hx, hb, hml, hown, hts⟩ (va_cwS 3 hts g_f_X11_showValue_X11_widenedBytes_S244 rfl rfl rfl (by decide +kernel) ⟨Nat.le_of_ble_eq_true rfl, Nat.le_of_ble_eq_true rfl⟩) in_f_X11_showValue_X11 hK hG hA hP hD hS q2 q3 hl.1 (Nat.le_of_ble_eq_true rfl) dX11_showValue_64 (hts _ (List.mem_cons_of_mem _ (List.mem_append_left _ (List.mem_append_left _ (List.mem_of_getElem? (i := 12) rfl))))) dX11_showValue_67 (Nat.le_trans (Nat.le_add_right _ _) (Nat.le_of_eq hc)) (Nat.le_trans (Nat.le_add_right _ _) (Nat.le_of_eq hs)) (fun H locs hP hD hS => ?_)
            exact ih.2.2.1 z _ _ L (uI r1.2.1 7517 ((r1.2.1.1 1203))) _ h hzk hc hs H locs ls hP hD hS (lv_sub hl [0] rfl)
        · subst hy
          exact Or.inr ⟨h00, rfl, hc, hs⟩
      · intro z cells slots L σ r h hzk hc hs H locs ls hP hD hS hl
        rw [f_X11_showValue] at h
        refine lv_aload_n hx hb dX11_showValue_70 rfl (lv_at hl 0 rfl) ?_
        refine hg_75_2 hx hb hts in_f_X11_showValue_X11 hown hK hP (hts _ (List.mem_cons_of_mem _ (List.mem_append_left _ (List.mem_append_left _ (List.mem_of_getElem? (i := 6) rfl))))) dX11_showValue_71 ?_
        refine hg_12_2n hx hb hts in_f_X11_showValue_X6 hown hK hP (va_Nw.use rfl (hG.1 _ (List.mem_of_getElem? (i := 3) rfl))) dX11_showValue_74 ?_
        refine lv_iconst (v := 0) hx hb dX11_showValue_77 (by decide) ?_
        refine lv_aload_n hx hb dX11_showValue_78 rfl (lv_at hl 0 rfl) ?_
        refine hg_75_16 hx hb hts in_f_X11_showValue_X11 hown hK hP (hts _ (List.mem_cons_of_mem _ (List.mem_append_left _ (List.mem_append_left _ (List.mem_of_getElem? (i := 12) rfl))))) dX11_showValue_79 ?_
        refine lv_iconst (v := 0) hx hb dX11_showValue_82 (by decide) ?_
        refine lv_aload_n hx hb dX11_showValue_83 rfl (lv_at hl 0 rfl) ?_
        refine hg_75_17 hx hb hts in_f_X11_showValue_X11 hown hK hP (hts _ (List.mem_cons_of_mem _ (List.mem_append_left _ (List.mem_append_left _ (List.mem_of_getElem? (i := 11) rfl))))) dX11_showValue_84 ?_
        obtain ⟨q1, h⟩ := kr_ite1 h
        obtain ⟨q2, h⟩ := kr_ite1 h
        refine hcp_13_66 hx hb (hml.trans hl.1.symm) hown (hts _ (List.mem_cons_of_mem _ (List.mem_append_left _ (List.mem_append_left _ (List.mem_of_getElem? (i := 16) rfl))))) (hts _ (List.mem_cons_of_mem _ (List.mem_append_left _ (List.mem_append_left _ (List.mem_of_getElem? (i := 17) rfl))))) (hts _ (List.mem_cons_of_mem _ (List.mem_append_left _ (List.mem_append_left _ (List.mem_of_getElem? (i := 18) rfl))))) (hts _ (List.mem_cons_of_mem _ (List.mem_append_left _ (List.mem_append_left _ (List.mem_of_getElem? (i := 19) rfl))))) hK hP hD hS q1 q2 (Nat.le_of_ble_eq_true rfl) (Nat.le_of_ble_eq_true rfl) dX11_showValue_87 (fun H locs hP hD hS => ?_)
        exact ih.2.2.2 z _ _ L (uF σ 66 (va_cpy (σ.2.2.1 13) (σ.2.2.1 66) (0 : Int32).toNatClampNeg (0 : Int32).toNatClampNeg ((σ.1 7517)).toNatClampNeg)) _ h hzk hc hs H locs ls hP hD hS (lv_sub hl [0] rfl)
      · intro z cells slots L σ r h hzk hc hs H locs ls hP hD hS hl
        rw [f_X11_showValue] at h
        refine lv_aload_n hx hb dX11_showValue_90 rfl (lv_at hl 0 rfl) ?_
        refine hg_75_17 hx hb hts in_f_X11_showValue_X11 hown hK hP (hts _ (List.mem_cons_of_mem _ (List.mem_append_left _ (List.mem_append_left _ (List.mem_of_getElem? (i := 11) rfl))))) dX11_showValue_91 ?_
        obtain rfl := Option.some.inj h
        subst hc
        subst hs
        exact xr_i hx hb hr hK hzk hP hD hS hlocks dX11_showValue_94
  exact (blk k0).1 z 0 0 L0 σ0 r0 h0 (zk_rf _ _) ((Nat.zero_add _).trans hmc) ((Nat.zero_add _).trans hms) s.heap [] ls hP hD hS hl
/-! X11_seen -/
def f_X11_seen : Nat → Nat → LV → CS → Option RS
  | 0, _, _, _ => none
  | k + 1, 0, L, σ => if ((L.1 1)) < 0 then (f_X11_seen k 1 L σ) else (if ((σ.1 7513)) ≤ ((L.1 1)) then (f_X11_seen k 1 L σ) else (if ((L.1 2)) < 0 then (f_X11_seen k 1 L σ) else (if ((L.1 2)) ≤ 2 then (f_X11_seen k 2 L σ) else (f_X11_seen k 1 L σ))))
  | k + 1, 1, L, σ => some ((3, 0), σ, (1, 6))
  | k + 1, 2, L, σ => if ¬ (((L.1 1)) < 0 ∨ 8 ≤ ((L.1 1)).toNatClampNeg) then (if ((σ.2.2.1 65 ((L.1 1)).toNatClampNeg)) = 0 then (some ((2, 0), σ, (1, 6))) else (f_X11_seen k 3 L σ)) else none
  | k + 1, 3, L, σ => if ¬ (((((3 + ((3 * ((L.1 1)))))) + ((L.1 2)))) < 0 ∨ 27 ≤ ((((3 + ((3 * ((L.1 1)))))) + ((L.1 2)))).toNatClampNeg) then (ox (f_X11_showValue k 0 (lI lZ 1 ((σ.2.2.1 67 ((((3 + ((3 * ((L.1 1)))))) + ((L.1 2)))).toNatClampNeg))) σ) (fun r2 => some ((0, r2.1.2), r2.2.1, (0, 0)))) else none
  | _ + 1, _ + 4, _, _ => none
def o_f_X11_seen : List Cond := [.fieldLink RX11 159 "SetHouse" "views" "I", .classLink RX11 194 "java/lang/IndexOutOfBoundsException", .initialized "java/lang/IndexOutOfBoundsException", .fieldLink RX11 98 "SetHouse" "viewSeen" "[Z", .classLink RX11 165 "java/lang/IllegalStateException", .initialized "java/lang/IllegalStateException", .fieldLink RX11 56 "SetHouse" "kept" "[I", .methodLink RX11 291 yX11_showValue, .instanceMethod yX11_showValue, .selects RX11 yX11_showValue yX11_showValue, .initialized RX11]
theorem o_f_X11_seen_good : o_f_X11_seen.all goodWord = true := by decide +kernel
def p_f_X11_seen : List Cond := o_f_X11_seen ++ (((vx_at0 RX11 196 "java/lang/IndexOutOfBoundsException" ["java/lang/RuntimeException", "java/lang/Exception"]).filter goodWord) ++ (((vx_at0 RX11 167 "java/lang/IllegalStateException" ["java/lang/RuntimeException", "java/lang/Exception"]).filter goodWord) ++ ((.code yX11_showValue cX11_showValue 2 (some .int) :: p_f_X11_showValue) ++ [])))
theorem p_f_X11_seen_good : p_f_X11_seen.all goodWord = true := nb_all2 o_f_X11_seen_good (nb_all2 (nb_fg _) (nb_all2 (nb_fg _) (nb_all2 (nb_allc (by decide +kernel) p_f_X11_showValue_good) rfl)))
def w_f_X11_seen : List Cond := .code yX11_seen cX11_seen 3 (some .int) :: (p_f_X11_seen ++ fC)
theorem w_f_X11_seen_good : w_f_X11_seen.all goodWord = true := nb_allc (by decide +kernel) (nb_all2 p_f_X11_seen_good fC_good)
theorem in_f_X11_seen_X11 : ∀ w ∈ wsX110, w ∈ w_f_X11_seen := fun _ h => List.mem_cons_of_mem _ (List.mem_append_right _ (List.mem_append_right _ (List.mem_append_right _ (List.mem_append_right _ (List.mem_append_right _ (List.mem_append_right _ (List.mem_append_right _ (List.mem_append_right _ (List.mem_append_right _ (List.mem_append_right _ (List.mem_append_right _ h)))))))))))
theorem hd_f_X11_seen : yX11_seen.cls = RX11 ∧ yX11_seen.cls ≠ "java/lang/invoke/MethodHandle" ∧ yX11_seen.cls ≠ "java/lang/invoke/VarHandle" ∧ (parseMethodDescriptor yX11_seen.desc).map (fun d => d.parameters.length) = some 2 := by decide +kernel
theorem gg_f_X11_seen_X11_showValue : GoodIn w_f_X11_seen w_f_X11_showValue := goodIn_sub (fun w h => (List.mem_cons.mp h).elim (fun e => (List.mem_cons_of_mem _ (List.mem_append_left _ (List.mem_append_right _ (List.mem_append_right _ (List.mem_append_right _ (List.mem_append_left _ (List.mem_cons.mpr (Or.inl e))))))))) (fun h => (List.mem_append.mp h).elim (fun h => (List.mem_cons_of_mem _ (List.mem_append_left _ (List.mem_append_right _ (List.mem_append_right _ (List.mem_append_right _ (List.mem_append_left _ (List.mem_cons_of_mem _ h)))))))) (fun h => List.mem_cons_of_mem _ (List.mem_append_right _ h)))) w_f_X11_showValue_good
theorem g_f_X11_seen_X11_showValue_V291 : GoodIn w_f_X11_seen (wsV RX11 291 RX11 yX11_showValue w_f_X11_showValue) := goodIn_app (nb_g4 (List.mem_cons_of_mem _ (List.mem_append_left _ (List.mem_append_left _ (List.mem_of_getElem? (i := 7) rfl)))) (List.mem_cons_of_mem _ (List.mem_append_left _ (List.mem_append_left _ (List.mem_of_getElem? (i := 8) rfl)))) (List.mem_cons_of_mem _ (List.mem_append_left _ (List.mem_append_left _ (List.mem_of_getElem? (i := 9) rfl)))) (List.mem_cons_of_mem _ (List.mem_append_left _ (List.mem_append_left _ (List.mem_of_getElem? (i := 10) rfl)))) (by decide +kernel)) gg_f_X11_seen_X11_showValue
set_option maxHeartbeats 40000000 in
set_option maxRecDepth 100000 in
theorem c_f_X11_seen (l : Launch) (hl0 : l.stackTraces = false) (dC : Nat → ClassId) (dI : Nat → Nat → Nat) (cy : Nat → ClassId) (ek a : Nat → Nat) (k0 : Nat) (L0 : LV) (σ0 : CS) (r0 : RS) (h0 : f_X11_seen k0 0 L0 σ0 = some r0) (z : Nat → Nat) (sz : Nat) : vx_Met l yX11_seen w_f_X11_seen ({ frames := 88, cells := r0.2.2.1, slots := r0.2.2.2, locals := 2173 }) (va_Pc [.ref (a 75), .int (L0.1 1), .int (L0.1 2)] (nInF (dC, dI) cy ek sz (vC cy a z σ0))) (xI dC dI cy a (va_A (vC cy a z σ0) sz) [66] z r0) (xX dC dI cy a (va_A (vC cy a z σ0) sz) [66] z r0) r0.2.2.1 r0.2.2.2 (va_A (vC cy a z σ0) sz) := by
  refine vx_ofW (cc := cX11_seen) (maxL := 3) (ret := (some .int)) (by decide) rfl ?_
  intro p e s m args below meth c s₁ B hml hno hv
  obtain ⟨rfl, ⟨⟨hsz, hP, hK, hD0, hG⟩, hE⟩, hT⟩ := hv
  have hx := B.exec
  have hb := B.bytes
  have hr := B.returns
  have hts := atoms_spec (ws := w_f_X11_seen) B.pre
  have hown : s.vm.findClass RX11 = some m.cls := findClass_of_methodNamed B.named
  have hlocks := B.notSynchronized
  subst hsz
  have hD := hD0.self (sz := s.heap.size)
  generalize hAe : va_A (vC cy a z σ0) s.heap.size = A at hD hE hT ⊢
  have hA : ∀ q : Nat, s.heap.size ≤ q → A q := fun q h => by rw [← hAe]; exact Or.inr h
  have hS : va_S A s.heap s.heap [] := va_S.rf
  have hl := lv_entry ([.ref (a 75), .int (L0.1 1), .int (L0.1 2)]) (n := 3) (Nat.le_of_ble_eq_true rfl)
  rw [lg_entry_eq]
  generalize (lg_sl ([.ref (a 75), .int (L0.1 1), .int (L0.1 2)]) ++ List.replicate (3 - (lg_sl ([.ref (a 75), .int (L0.1 1), .int (L0.1 2)])).length) Slot.unset).toArray = ls at hl ⊢
  have hl : lv_has ls 3 [(0, .ref (a 75)), (1, .int (L0.1 1)), (2, .int (L0.1 2))] := hl
  generalize hmc : r0.2.2.1 = mc
  generalize hms : r0.2.2.2 = ms
  have blk : ∀ k : Nat, (bX p l e (headSpec w_f_X11_seen ({ frames := 88, cells := mc, slots := ms, locals := 2173 })).room s m #[.ref (a 75), .int (L0.1 1), .int (L0.1 2)] below meth c dC dI cy a A (fun r => vx_MQ below (xI dC dI cy a A [66] z r) (xX dC dI cy a A [66] z r) #[.ref (a 75), .int (L0.1 1), .int (L0.1 2)] s mc ms A) [66] z mc ms 3 (f_X11_seen k 0) (fun z L => [(0, .ref (a 75)), (1, .int (L.1 1)), (2, .int (L.1 2))]) 0 (fun z L => [])) ∧ (bX p l e (headSpec w_f_X11_seen ({ frames := 88, cells := mc, slots := ms, locals := 2173 })).room s m #[.ref (a 75), .int (L0.1 1), .int (L0.1 2)] below meth c dC dI cy a A (fun r => vx_MQ below (xI dC dI cy a A [66] z r) (xX dC dI cy a A [66] z r) #[.ref (a 75), .int (L0.1 1), .int (L0.1 2)] s mc ms A) [66] z mc ms 3 (f_X11_seen k 1) (fun z L => []) 21 (fun z L => [])) ∧ (bX p l e (headSpec w_f_X11_seen ({ frames := 88, cells := mc, slots := ms, locals := 2173 })).room s m #[.ref (a 75), .int (L0.1 1), .int (L0.1 2)] below meth c dC dI cy a A (fun r => vx_MQ below (xI dC dI cy a A [66] z r) (xX dC dI cy a A [66] z r) #[.ref (a 75), .int (L0.1 1), .int (L0.1 2)] s mc ms A) [66] z mc ms 3 (f_X11_seen k 2) (fun z L => [(0, .ref (a 75)), (1, .int (L.1 1)), (2, .int (L.1 2))]) 29 (fun z L => [])) ∧ (bX p l e (headSpec w_f_X11_seen ({ frames := 88, cells := mc, slots := ms, locals := 2173 })).room s m #[.ref (a 75), .int (L0.1 1), .int (L0.1 2)] below meth c dC dI cy a A (fun r => vx_MQ below (xI dC dI cy a A [66] z r) (xX dC dI cy a A [66] z r) #[.ref (a 75), .int (L0.1 1), .int (L0.1 2)] s mc ms A) [66] z mc ms 3 (f_X11_seen k 3) (fun z L => [(0, .ref (a 75)), (1, .int (L.1 1)), (2, .int (L.1 2))]) 46 (fun z L => [])) := by
    intro k
    induction k with
    | zero => exact ⟨fun z c1 c2 L σ r h => (by cases h), fun z c1 c2 L σ r h => (by cases h), fun z c1 c2 L σ r h => (by cases h), fun z c1 c2 L σ r h => (by cases h)⟩
    | succ k ih =>
      refine ⟨?_, ?_, ?_, ?_⟩
      · intro z cells slots L σ r h hzk hc hs H locs ls hP hD hS hl
        rw [f_X11_seen] at h
        refine lv_iload_n hx hb dX11_seen_0 rfl (lv_at hl 1 rfl) ?_
        refine lv_if_lt (tgt := 21) hx hb dX11_seen_1 (by decide) (fun c1 => ?_) (fun c1 => ?_)
        · rw [if_pos c1] at h
          exact ih.2.1 z _ _ L σ _ h hzk hc hs H locs ls hP hD hS (lv_sub hl [] rfl)
        · rw [if_neg c1] at h
          refine lv_iload_n hx hb dX11_seen_4 rfl (lv_at hl 1 rfl) ?_
          refine lv_aload_n hx hb dX11_seen_5 rfl (lv_at hl 0 rfl) ?_
          refine hg_75_13 hx hb hts in_f_X11_seen_X11 hown hK hP (hts _ (List.mem_cons_of_mem _ (List.mem_append_left _ (List.mem_append_left _ (List.mem_of_getElem? (i := 0) rfl))))) dX11_seen_6 ?_
          refine lv_icmp_ge (tgt := 21) hx hb dX11_seen_9 (by decide) (fun c2 => ?_) (fun c2 => ?_)
          · rw [if_pos c2] at h
            exact ih.2.1 z _ _ L σ _ h hzk hc hs H locs ls hP hD hS (lv_sub hl [] rfl)
          · rw [if_neg c2] at h
            refine lv_iload_n hx hb dX11_seen_12 rfl (lv_at hl 2 rfl) ?_
            refine lv_if_lt (tgt := 21) hx hb dX11_seen_13 (by decide) (fun c3 => ?_) (fun c3 => ?_)
            · rw [if_pos c3] at h
              exact ih.2.1 z _ _ L σ _ h hzk hc hs H locs ls hP hD hS (lv_sub hl [] rfl)
            · rw [if_neg c3] at h
              refine lv_iload_n hx hb dX11_seen_16 rfl (lv_at hl 2 rfl) ?_
              refine lv_iconst (v := 2) hx hb dX11_seen_17 (by decide) ?_
              refine lv_icmp_le (tgt := 29) hx hb dX11_seen_18 (by decide) (fun c4 => ?_) (fun c4 => ?_)
              · rw [if_pos c4] at h
                exact ih.2.2.1 z _ _ L σ _ h hzk hc hs H locs ls hP hD hS (lv_sub hl [0, 1, 2] rfl)
              · rw [if_neg c4] at h
                exact ih.2.1 z _ _ L σ _ h hzk hc hs H locs ls hP hD hS (lv_sub hl [] rfl)
      · intro z cells slots L σ r h hzk hc hs H locs ls hP hD hS hl
        rw [f_X11_seen] at h
        obtain rfl := Option.some.inj h
        exact vx_throw0 (cls := "java/lang/IndexOutOfBoundsException") (names := ["java/lang/RuntimeException", "java/lang/Exception"]) hx hb hl0 hown (by decide) (by decide) (hts _ (List.mem_cons_of_mem _ (List.mem_append_left _ (List.mem_append_left _ (List.mem_of_getElem? (i := 1) rfl))))) (hts _ (List.mem_cons_of_mem _ (List.mem_append_left _ (List.mem_append_left _ (List.mem_of_getElem? (i := 2) rfl))))) (vx_hat (B := [.castable "java/lang/IndexOutOfBoundsException" "java/lang/IndexOutOfBoundsException", .declares (Bundle.init0 "java/lang/RuntimeException"), .declares (Bundle.init0 "java/lang/Exception"), .declares (Bundle.init0 Bundle.tN)]) (fun w h => hts w (List.mem_cons_of_mem _ (List.mem_append_left _ (List.mem_append_right _ (List.mem_append_left _ h))))) (by decide +kernel) (vx_c (va_Nw.use (by decide +kernel) (hT.2.2.1 _ (List.mem_of_getElem? (i := 2) rfl))) (vx_c (va_Nw.use (by decide +kernel) (hT.2.2.1 _ (List.mem_of_getElem? (i := 4) rfl))) (vx_c (va_Nw.use (by decide +kernel) (hT.2.2.1 _ (List.mem_of_getElem? (i := 5) rfl))) (vx_c (va_Nw.use (by decide +kernel) (hT.2.2.1 _ (List.mem_of_getElem? (i := 6) rfl))) vx_n))))) (fun w h => List.all_eq_true.mp (by decide +kernel : (Cond.classLink RX11 194 "java/lang/IndexOutOfBoundsException" :: Cond.initialized "java/lang/IndexOutOfBoundsException" :: (vx_at0 RX11 196 "java/lang/IndexOutOfBoundsException" ["java/lang/RuntimeException", "java/lang/Exception"])).all vx_ot = true) w h) hT.1 hT.2.1 hS (hl.1.trans hml.symm) dX11_seen_21 dX11_seen_24 dX11_seen_25 dX11_seen_28 (fun x h => (hno x h).elim) (Nat.le_of_ble_eq_true rfl) (Nat.le_of_ble_eq_true rfl) (Nat.le_of_eq hc) (Nat.le_of_eq hs) hlocks (xt_x (n := 3) (by decide) hK hzk hP hD hS) hS.2.2 (Nat.le_of_eq hc) (Nat.le_of_eq hs)
      · intro z cells slots L σ r h hzk hc hs H locs ls hP hD hS hl
        rw [f_X11_seen] at h
        refine lv_aload_n hx hb dX11_seen_29 rfl (lv_at hl 0 rfl) ?_
        refine hg_75_15 hx hb hts in_f_X11_seen_X11 hown hK hP (hts _ (List.mem_cons_of_mem _ (List.mem_append_left _ (List.mem_append_left _ (List.mem_of_getElem? (i := 3) rfl))))) dX11_seen_30 ?_
        refine lv_iload_n hx hb dX11_seen_33 rfl (lv_at hl 1 rfl) ?_
        obtain ⟨q1, h⟩ := kr_ite1 h
        refine hl_65 hx hb hK hP q1 dX11_seen_34 ?_
        refine lv_if_ne (tgt := 46) hx hb dX11_seen_35 (by decide) (fun c2 => ?_) (fun c2 => ?_)
        · rw [if_neg c2] at h
          exact ih.2.2.2 z _ _ L σ _ h hzk hc hs H locs ls hP hD hS (lv_sub hl [0, 1, 2] rfl)
        · rw [if_pos c2] at h
          obtain rfl := Option.some.inj h
          exact vx_throw0 (cls := "java/lang/IllegalStateException") (names := ["java/lang/RuntimeException", "java/lang/Exception"]) hx hb hl0 hown (by decide) (by decide) (hts _ (List.mem_cons_of_mem _ (List.mem_append_left _ (List.mem_append_left _ (List.mem_of_getElem? (i := 4) rfl))))) (hts _ (List.mem_cons_of_mem _ (List.mem_append_left _ (List.mem_append_left _ (List.mem_of_getElem? (i := 5) rfl))))) (vx_hat (B := [.castable "java/lang/IllegalStateException" "java/lang/IllegalStateException", .declares (Bundle.init0 "java/lang/RuntimeException"), .declares (Bundle.init0 "java/lang/Exception"), .declares (Bundle.init0 Bundle.tN)]) (fun w h => hts w (List.mem_cons_of_mem _ (List.mem_append_left _ (List.mem_append_right _ (List.mem_append_right _ (List.mem_append_left _ h)))))) (by decide +kernel) (vx_c (va_Nw.use (by decide +kernel) (hT.2.2.1 _ (List.mem_of_getElem? (i := 0) rfl))) (vx_c (va_Nw.use (by decide +kernel) (hT.2.2.1 _ (List.mem_of_getElem? (i := 4) rfl))) (vx_c (va_Nw.use (by decide +kernel) (hT.2.2.1 _ (List.mem_of_getElem? (i := 5) rfl))) (vx_c (va_Nw.use (by decide +kernel) (hT.2.2.1 _ (List.mem_of_getElem? (i := 6) rfl))) vx_n))))) (fun w h => List.all_eq_true.mp (by decide +kernel : (Cond.classLink RX11 165 "java/lang/IllegalStateException" :: Cond.initialized "java/lang/IllegalStateException" :: (vx_at0 RX11 167 "java/lang/IllegalStateException" ["java/lang/RuntimeException", "java/lang/Exception"])).all vx_ot = true) w h) hT.1 hT.2.1 hS (hl.1.trans hml.symm) dX11_seen_38 dX11_seen_41 dX11_seen_42 dX11_seen_45 (fun x h => (hno x h).elim) (Nat.le_of_ble_eq_true rfl) (Nat.le_of_ble_eq_true rfl) (Nat.le_of_eq hc) (Nat.le_of_eq hs) hlocks (xt_x (n := 2) (by decide) hK hzk hP hD hS) hS.2.2 (Nat.le_of_eq hc) (Nat.le_of_eq hs)
      · intro z cells slots L σ r h hzk hc hs H locs ls hP hD hS hl
        rw [f_X11_seen] at h
        refine lv_aload_n hx hb dX11_seen_46 rfl (lv_at hl 0 rfl) ?_
        refine lv_aload_n hx hb dX11_seen_47 rfl (lv_at hl 0 rfl) ?_
        refine hg_75_4 hx hb hts in_f_X11_seen_X11 hown hK hP (hts _ (List.mem_cons_of_mem _ (List.mem_append_left _ (List.mem_append_left _ (List.mem_of_getElem? (i := 6) rfl))))) dX11_seen_48 ?_
        refine lv_iconst (v := 3) hx hb dX11_seen_51 (by decide) ?_
        refine lv_iconst (v := 3) hx hb dX11_seen_52 (by decide) ?_
        refine lv_iload_n hx hb dX11_seen_53 rfl (lv_at hl 1 rfl) ?_
        refine lv_imul hx hb dX11_seen_54 ?_
        refine lv_iadd hx hb dX11_seen_55 ?_
        refine lv_iload_n hx hb dX11_seen_56 rfl (lv_at hl 2 rfl) ?_
        refine lv_iadd hx hb dX11_seen_57 ?_
        obtain ⟨q1, h⟩ := kr_ite1 h
        refine hl_67 hx hb hK hP q1 dX11_seen_58 ?_
        obtain ⟨r2, hc2, hle2, h9⟩ := ox_ex h
        clear h
        refine kx_i (vx_runV (As := [.int (σ.2.2.1 67 ((((3 + ((3 * ((L.1 1)))))) + ((L.1 2)))).toNatClampNeg)]) (rest := []) ⟨hx, hb, hml, hown, hts⟩ (c_f_X11_showValue l hl0 dC dI cy ek a k (lI lZ 1 ((σ.2.2.1 67 ((((3 + ((3 * ((L.1 1)))))) + ((L.1 2)))).toNatClampNeg))) σ r2 hc2 z H.size) (cwV 1 hts g_f_X11_seen_X11_showValue_V291 rfl rfl rfl hd_f_X11_showValue ⟨Nat.le_of_ble_eq_true rfl, Nat.le_of_ble_eq_true rfl⟩) ⟨nb_blindF, va_recv hK hP (ci := 10) (q0 := 75) rfl rfl, (kx_pre hK hG hE hT hA hP hD hS)⟩ rfl rfl hl.1 rfl (lv_room (Nat.le_of_ble_eq_true rfl)) dX11_seen_59 ⟨Nat.le_trans (Nat.add_le_add_left hle2.1 _) (Nat.le_of_eq hc), Nat.le_trans (Nat.add_le_add_left hle2.2 _) (Nat.le_of_eq hs)⟩) hK hA hzk hP hD hS (by decide) hno hlocks ?_
        rcases h9 with ⟨h00, y2, hny2, hy⟩ | ⟨h00, hy⟩
        · subst hy
          have h := hny2
          refine Or.inl ⟨h00, fun z H locs hz2 hzk hP hD hS => ?_⟩
          replace hc := (Nat.add_assoc _ _ _).trans hc
          replace hs := (Nat.add_assoc _ _ _).trans hs
          obtain rfl := Option.some.inj h
          subst hc
          subst hs
          exact xr_i hx hb hr hK hzk hP hD hS hlocks dX11_seen_62
        · subst hy
          exact Or.inr ⟨h00, rfl, hc, hs⟩
  exact (blk k0).1 z 0 0 L0 σ0 r0 h0 (zk_rf _ _) ((Nat.zero_add _).trans hmc) ((Nat.zero_add _).trans hms) s.heap [] ls hP hD hS hl
/-! X11_shape -/
def f_X11_shape : Nat → Nat → LV → CS → Option RS
  | 0, _, _, _ => none
  | k + 1, 0, L, σ => if ((L.1 1)) < 0 then (f_X11_shape k 1 L σ) else (if ((L.1 1)) ≤ 3 then (f_X11_shape k 2 L σ) else (f_X11_shape k 1 L σ))
  | k + 1, 1, L, σ => some ((3, 0), σ, (1, 6))
  | k + 1, 2, L, σ => if ((L.1 1)) = 3 then (some ((0, (σ.1 7519)), σ, (0, 0))) else (f_X11_shape k 3 L σ)
  | k + 1, 3, L, σ => if ((σ.1 7518)) = 0 then (some ((0, 0), σ, (0, 0))) else (f_X11_shape k 4 L σ)
  | k + 1, 4, L, σ => if ¬ ((0 : Int32) < 0 ∨ 27 ≤ (0 : Int32).toNatClampNeg) then (op (y_X1_kind k 0 (lI lZ 1 ((σ.2.2.1 67 (0 : Int32).toNatClampNeg))) σ) (fun r2 => if ((L.1 1)) = (0 : Int32) then (f_X11_shape k 5 (lI L 3 r2.1) r2.2) else (if ((L.1 1)) = (1 : Int32) then (f_X11_shape k 6 (lI L 2 ((σ.2.2.1 67 (0 : Int32).toNatClampNeg))) r2.2) else (f_X11_shape k 7 (lI (lI L 2 ((σ.2.2.1 67 (0 : Int32).toNatClampNeg))) 3 r2.1) r2.2)))) else none
  | k + 1, 5, L, σ => some ((0, (L.1 3)), σ, (0, 0))
  | k + 1, 6, L, σ => op (y_X1_size k 0 (lI lZ 1 ((L.1 2))) σ) (fun r1 => some ((0, r1.1), r1.2, (0, 0)))
  | k + 1, 7, L, σ => if ((L.1 3)) < 4 then (f_X11_shape k 8 L σ) else (op (y_X1_length k 0 (lI lZ 1 ((L.1 2))) σ) (fun r2 => f_X11_shape k 9 (lI L 100 r2.1) r2.2))
  | k + 1, 8, L, σ => f_X11_shape k 9 (lI L 100 0) σ
  | k + 1, 9, L, σ => some ((0, (L.1 100)), σ, (0, 0))
  | _ + 1, _ + 10, _, _ => none
def o_f_X11_shape : List Cond := [.classLink RX11 194 "java/lang/IndexOutOfBoundsException", .initialized "java/lang/IndexOutOfBoundsException", .fieldLink RX11 298 "SetHouse" "latestWork" "I", .fieldLink RX11 228 "SetHouse" "shownValues" "I", .fieldLink RX11 56 "SetHouse" "kept" "[I", .fieldLink RX11 25 "SetHouse" "heap" "LSetHouse$Heap;", .methodLink RX11 321 yX1_kind, .instanceMethod yX1_kind, .selects RX1 yX1_kind yX1_kind, .initialized RX1, .methodLink RX11 329 yX1_size, .instanceMethod yX1_size, .selects RX1 yX1_size yX1_size, .methodLink RX11 331 yX1_length, .instanceMethod yX1_length, .selects RX1 yX1_length yX1_length]
theorem o_f_X11_shape_good : o_f_X11_shape.all goodWord = true := by decide +kernel
def p_f_X11_shape : List Cond := o_f_X11_shape ++ (((vx_at0 RX11 196 "java/lang/IndexOutOfBoundsException" ["java/lang/RuntimeException", "java/lang/Exception"]).filter goodWord) ++ ((.code yX1_kind cX1_kind 2 (some .int) :: p_y_X1_kind) ++ ((.code yX1_size cX1_size 3 (some .int) :: p_y_X1_size) ++ ((.code yX1_length cX1_length 2 (some .int) :: p_y_X1_length) ++ []))))
theorem p_f_X11_shape_good : p_f_X11_shape.all goodWord = true := nb_all2 o_f_X11_shape_good (nb_all2 (nb_fg _) (nb_all2 (nb_allc (by decide +kernel) p_y_X1_kind_good) (nb_all2 (nb_allc (by decide +kernel) p_y_X1_size_good) (nb_all2 (nb_allc (by decide +kernel) p_y_X1_length_good) rfl))))
def w_f_X11_shape : List Cond := .code yX11_shape cX11_shape 4 (some .int) :: (p_f_X11_shape ++ fC)
theorem w_f_X11_shape_good : w_f_X11_shape.all goodWord = true := nb_allc (by decide +kernel) (nb_all2 p_f_X11_shape_good fC_good)
theorem in_f_X11_shape_X11 : ∀ w ∈ wsX110, w ∈ w_f_X11_shape := fun _ h => List.mem_cons_of_mem _ (List.mem_append_right _ (List.mem_append_right _ (List.mem_append_right _ (List.mem_append_right _ (List.mem_append_right _ (List.mem_append_right _ (List.mem_append_right _ (List.mem_append_right _ (List.mem_append_right _ (List.mem_append_right _ (List.mem_append_right _ h)))))))))))
theorem hd_f_X11_shape : yX11_shape.cls = RX11 ∧ yX11_shape.cls ≠ "java/lang/invoke/MethodHandle" ∧ yX11_shape.cls ≠ "java/lang/invoke/VarHandle" ∧ (parseMethodDescriptor yX11_shape.desc).map (fun d => d.parameters.length) = some 1 := by decide +kernel
theorem gg_f_X11_shape_X1_kind : GoodIn w_f_X11_shape w_y_X1_kind := goodIn_sub (fun w h => (List.mem_cons.mp h).elim (fun e => (List.mem_cons_of_mem _ (List.mem_append_left _ (List.mem_append_right _ (List.mem_append_right _ (List.mem_append_left _ (List.mem_cons.mpr (Or.inl e)))))))) (fun h => (List.mem_append.mp h).elim (fun h => (List.mem_cons_of_mem _ (List.mem_append_left _ (List.mem_append_right _ (List.mem_append_right _ (List.mem_append_left _ (List.mem_cons_of_mem _ h))))))) (fun h => List.mem_cons_of_mem _ (List.mem_append_right _ h)))) w_y_X1_kind_good
theorem g_y_X11_shape_X1_kind_V321 : GoodIn w_f_X11_shape (wsV RX11 321 RX1 yX1_kind w_y_X1_kind) := goodIn_app (nb_g4 (List.mem_cons_of_mem _ (List.mem_append_left _ (List.mem_append_left _ (List.mem_of_getElem? (i := 6) rfl)))) (List.mem_cons_of_mem _ (List.mem_append_left _ (List.mem_append_left _ (List.mem_of_getElem? (i := 7) rfl)))) (List.mem_cons_of_mem _ (List.mem_append_left _ (List.mem_append_left _ (List.mem_of_getElem? (i := 8) rfl)))) (List.mem_cons_of_mem _ (List.mem_append_left _ (List.mem_append_left _ (List.mem_of_getElem? (i := 9) rfl)))) (by decide +kernel)) gg_f_X11_shape_X1_kind
theorem gg_f_X11_shape_X1_length : GoodIn w_f_X11_shape w_y_X1_length := goodIn_sub (fun w h => (List.mem_cons.mp h).elim (fun e => (List.mem_cons_of_mem _ (List.mem_append_left _ (List.mem_append_right _ (List.mem_append_right _ (List.mem_append_right _ (List.mem_append_right _ (List.mem_append_left _ (List.mem_cons.mpr (Or.inl e)))))))))) (fun h => (List.mem_append.mp h).elim (fun h => (List.mem_cons_of_mem _ (List.mem_append_left _ (List.mem_append_right _ (List.mem_append_right _ (List.mem_append_right _ (List.mem_append_right _ (List.mem_append_left _ (List.mem_cons_of_mem _ h))))))))) (fun h => List.mem_cons_of_mem _ (List.mem_append_right _ h)))) w_y_X1_length_good
theorem g_y_X11_shape_X1_length_V331 : GoodIn w_f_X11_shape (wsV RX11 331 RX1 yX1_length w_y_X1_length) := goodIn_app (nb_g4 (List.mem_cons_of_mem _ (List.mem_append_left _ (List.mem_append_left _ (List.mem_of_getElem? (i := 13) rfl)))) (List.mem_cons_of_mem _ (List.mem_append_left _ (List.mem_append_left _ (List.mem_of_getElem? (i := 14) rfl)))) (List.mem_cons_of_mem _ (List.mem_append_left _ (List.mem_append_left _ (List.mem_of_getElem? (i := 15) rfl)))) (List.mem_cons_of_mem _ (List.mem_append_left _ (List.mem_append_left _ (List.mem_of_getElem? (i := 9) rfl)))) (by decide +kernel)) gg_f_X11_shape_X1_length
theorem gg_f_X11_shape_X1_size : GoodIn w_f_X11_shape w_y_X1_size := goodIn_sub (fun w h => (List.mem_cons.mp h).elim (fun e => (List.mem_cons_of_mem _ (List.mem_append_left _ (List.mem_append_right _ (List.mem_append_right _ (List.mem_append_right _ (List.mem_append_left _ (List.mem_cons.mpr (Or.inl e))))))))) (fun h => (List.mem_append.mp h).elim (fun h => (List.mem_cons_of_mem _ (List.mem_append_left _ (List.mem_append_right _ (List.mem_append_right _ (List.mem_append_right _ (List.mem_append_left _ (List.mem_cons_of_mem _ h)))))))) (fun h => List.mem_cons_of_mem _ (List.mem_append_right _ h)))) w_y_X1_size_good
theorem g_y_X11_shape_X1_size_V329 : GoodIn w_f_X11_shape (wsV RX11 329 RX1 yX1_size w_y_X1_size) := goodIn_app (nb_g4 (List.mem_cons_of_mem _ (List.mem_append_left _ (List.mem_append_left _ (List.mem_of_getElem? (i := 10) rfl)))) (List.mem_cons_of_mem _ (List.mem_append_left _ (List.mem_append_left _ (List.mem_of_getElem? (i := 11) rfl)))) (List.mem_cons_of_mem _ (List.mem_append_left _ (List.mem_append_left _ (List.mem_of_getElem? (i := 12) rfl)))) (List.mem_cons_of_mem _ (List.mem_append_left _ (List.mem_append_left _ (List.mem_of_getElem? (i := 9) rfl)))) (by decide +kernel)) gg_f_X11_shape_X1_size
set_option maxHeartbeats 40000000 in
set_option maxRecDepth 100000 in
theorem c_f_X11_shape (l : Launch) (hl0 : l.stackTraces = false) (dC : Nat → ClassId) (dI : Nat → Nat → Nat) (cy : Nat → ClassId) (ek a : Nat → Nat) (k0 : Nat) (L0 : LV) (σ0 : CS) (r0 : RS) (h0 : f_X11_shape k0 0 L0 σ0 = some r0) (z : Nat → Nat) (sz : Nat) : vx_Met l yX11_shape w_f_X11_shape ({ frames := 6, cells := r0.2.2.1, slots := r0.2.2.2, locals := 100 }) (va_Pc [.ref (a 75), .int (L0.1 1)] (nInF (dC, dI) cy ek sz (vC cy a z σ0))) (xI dC dI cy a (va_A (vC cy a z σ0) sz) [] z r0) (xX dC dI cy a (va_A (vC cy a z σ0) sz) [] z r0) r0.2.2.1 r0.2.2.2 (va_A (vC cy a z σ0) sz) := by
  refine vx_ofW (cc := cX11_shape) (maxL := 4) (ret := (some .int)) (by decide) rfl ?_
  intro p e s m args below meth c s₁ B hml hno hv
  obtain ⟨rfl, ⟨⟨hsz, hP, hK, hD0, hG⟩, hE⟩, hT⟩ := hv
  have hx := B.exec
  have hb := B.bytes
  have hr := B.returns
  have hts := atoms_spec (ws := w_f_X11_shape) B.pre
  have hown : s.vm.findClass RX11 = some m.cls := findClass_of_methodNamed B.named
  have hlocks := B.notSynchronized
  subst hsz
  have hD := hD0.self (sz := s.heap.size)
  generalize hAe : va_A (vC cy a z σ0) s.heap.size = A at hD hE hT ⊢
  have hA : ∀ q : Nat, s.heap.size ≤ q → A q := fun q h => by rw [← hAe]; exact Or.inr h
  have hS : va_S A s.heap s.heap [] := va_S.rf
  have hl := lv_entry ([.ref (a 75), .int (L0.1 1)]) (n := 4) (Nat.le_of_ble_eq_true rfl)
  rw [lg_entry_eq]
  generalize (lg_sl ([.ref (a 75), .int (L0.1 1)]) ++ List.replicate (4 - (lg_sl ([.ref (a 75), .int (L0.1 1)])).length) Slot.unset).toArray = ls at hl ⊢
  have hl : lv_has ls 4 [(0, .ref (a 75)), (1, .int (L0.1 1))] := hl
  generalize hmc : r0.2.2.1 = mc
  generalize hms : r0.2.2.2 = ms
  have blk : ∀ k : Nat, (bX p l e (headSpec w_f_X11_shape ({ frames := 6, cells := mc, slots := ms, locals := 100 })).room s m #[.ref (a 75), .int (L0.1 1)] below meth c dC dI cy a A (fun r => vx_MQ below (xI dC dI cy a A [] z r) (xX dC dI cy a A [] z r) #[.ref (a 75), .int (L0.1 1)] s mc ms A) [] z mc ms 4 (f_X11_shape k 0) (fun z L => [(0, .ref (a 75)), (1, .int (L.1 1))]) 0 (fun z L => [])) ∧ (bX p l e (headSpec w_f_X11_shape ({ frames := 6, cells := mc, slots := ms, locals := 100 })).room s m #[.ref (a 75), .int (L0.1 1)] below meth c dC dI cy a A (fun r => vx_MQ below (xI dC dI cy a A [] z r) (xX dC dI cy a A [] z r) #[.ref (a 75), .int (L0.1 1)] s mc ms A) [] z mc ms 4 (f_X11_shape k 1) (fun z L => []) 9 (fun z L => [])) ∧ (bX p l e (headSpec w_f_X11_shape ({ frames := 6, cells := mc, slots := ms, locals := 100 })).room s m #[.ref (a 75), .int (L0.1 1)] below meth c dC dI cy a A (fun r => vx_MQ below (xI dC dI cy a A [] z r) (xX dC dI cy a A [] z r) #[.ref (a 75), .int (L0.1 1)] s mc ms A) [] z mc ms 4 (f_X11_shape k 2) (fun z L => [(0, .ref (a 75)), (1, .int (L.1 1))]) 17 (fun z L => [])) ∧ (bX p l e (headSpec w_f_X11_shape ({ frames := 6, cells := mc, slots := ms, locals := 100 })).room s m #[.ref (a 75), .int (L0.1 1)] below meth c dC dI cy a A (fun r => vx_MQ below (xI dC dI cy a A [] z r) (xX dC dI cy a A [] z r) #[.ref (a 75), .int (L0.1 1)] s mc ms A) [] z mc ms 4 (f_X11_shape k 3) (fun z L => [(0, .ref (a 75)), (1, .int (L.1 1))]) 27 (fun z L => [])) ∧ (bX p l e (headSpec w_f_X11_shape ({ frames := 6, cells := mc, slots := ms, locals := 100 })).room s m #[.ref (a 75), .int (L0.1 1)] below meth c dC dI cy a A (fun r => vx_MQ below (xI dC dI cy a A [] z r) (xX dC dI cy a A [] z r) #[.ref (a 75), .int (L0.1 1)] s mc ms A) [] z mc ms 4 (f_X11_shape k 4) (fun z L => [(0, .ref (a 75)), (1, .int (L.1 1))]) 36 (fun z L => [])) ∧ (bX p l e (headSpec w_f_X11_shape ({ frames := 6, cells := mc, slots := ms, locals := 100 })).room s m #[.ref (a 75), .int (L0.1 1)] below meth c dC dI cy a A (fun r => vx_MQ below (xI dC dI cy a A [] z r) (xX dC dI cy a A [] z r) #[.ref (a 75), .int (L0.1 1)] s mc ms A) [] z mc ms 4 (f_X11_shape k 5) (fun z L => [(3, .int (L.1 3))]) 80 (fun z L => [])) ∧ (bX p l e (headSpec w_f_X11_shape ({ frames := 6, cells := mc, slots := ms, locals := 100 })).room s m #[.ref (a 75), .int (L0.1 1)] below meth c dC dI cy a A (fun r => vx_MQ below (xI dC dI cy a A [] z r) (xX dC dI cy a A [] z r) #[.ref (a 75), .int (L0.1 1)] s mc ms A) [] z mc ms 4 (f_X11_shape k 6) (fun z L => [(0, .ref (a 75)), (2, .int (L.1 2))]) 82 (fun z L => [])) ∧ (bX p l e (headSpec w_f_X11_shape ({ frames := 6, cells := mc, slots := ms, locals := 100 })).room s m #[.ref (a 75), .int (L0.1 1)] below meth c dC dI cy a A (fun r => vx_MQ below (xI dC dI cy a A [] z r) (xX dC dI cy a A [] z r) #[.ref (a 75), .int (L0.1 1)] s mc ms A) [] z mc ms 4 (f_X11_shape k 7) (fun z L => [(0, .ref (a 75)), (2, .int (L.1 2)), (3, .int (L.1 3))]) 91 (fun z L => [])) ∧ (bX p l e (headSpec w_f_X11_shape ({ frames := 6, cells := mc, slots := ms, locals := 100 })).room s m #[.ref (a 75), .int (L0.1 1)] below meth c dC dI cy a A (fun r => vx_MQ below (xI dC dI cy a A [] z r) (xX dC dI cy a A [] z r) #[.ref (a 75), .int (L0.1 1)] s mc ms A) [] z mc ms 4 (f_X11_shape k 8) (fun z L => []) 107 (fun z L => [])) ∧ (bX p l e (headSpec w_f_X11_shape ({ frames := 6, cells := mc, slots := ms, locals := 100 })).room s m #[.ref (a 75), .int (L0.1 1)] below meth c dC dI cy a A (fun r => vx_MQ below (xI dC dI cy a A [] z r) (xX dC dI cy a A [] z r) #[.ref (a 75), .int (L0.1 1)] s mc ms A) [] z mc ms 4 (f_X11_shape k 9) (fun z L => []) 108 (fun z L => [.int (L.1 100)])) := by
    intro k
    induction k with
    | zero => exact ⟨fun z c1 c2 L σ r h => (by cases h), fun z c1 c2 L σ r h => (by cases h), fun z c1 c2 L σ r h => (by cases h), fun z c1 c2 L σ r h => (by cases h), fun z c1 c2 L σ r h => (by cases h), fun z c1 c2 L σ r h => (by cases h), fun z c1 c2 L σ r h => (by cases h), fun z c1 c2 L σ r h => (by cases h), fun z c1 c2 L σ r h => (by cases h), fun z c1 c2 L σ r h => (by cases h)⟩
    | succ k ih =>
      refine ⟨?_, ?_, ?_, ?_, ?_, ?_, ?_, ?_, ?_, ?_⟩
      · intro z cells slots L σ r h hzk hc hs H locs ls hP hD hS hl
        rw [f_X11_shape] at h
        refine lv_iload_n hx hb dX11_shape_0 rfl (lv_at hl 1 rfl) ?_
        refine lv_if_lt (tgt := 9) hx hb dX11_shape_1 (by decide) (fun c1 => ?_) (fun c1 => ?_)
        · rw [if_pos c1] at h
          exact ih.2.1 z _ _ L σ _ h hzk hc hs H locs ls hP hD hS (lv_sub hl [] rfl)
        · rw [if_neg c1] at h
          refine lv_iload_n hx hb dX11_shape_4 rfl (lv_at hl 1 rfl) ?_
          refine lv_iconst (v := 3) hx hb dX11_shape_5 (by decide) ?_
          refine lv_icmp_le (tgt := 17) hx hb dX11_shape_6 (by decide) (fun c2 => ?_) (fun c2 => ?_)
          · rw [if_pos c2] at h
            exact ih.2.2.1 z _ _ L σ _ h hzk hc hs H locs ls hP hD hS (lv_sub hl [0, 1] rfl)
          · rw [if_neg c2] at h
            exact ih.2.1 z _ _ L σ _ h hzk hc hs H locs ls hP hD hS (lv_sub hl [] rfl)
      · intro z cells slots L σ r h hzk hc hs H locs ls hP hD hS hl
        rw [f_X11_shape] at h
        obtain rfl := Option.some.inj h
        exact vx_throw0 (cls := "java/lang/IndexOutOfBoundsException") (names := ["java/lang/RuntimeException", "java/lang/Exception"]) hx hb hl0 hown (by decide) (by decide) (hts _ (List.mem_cons_of_mem _ (List.mem_append_left _ (List.mem_append_left _ (List.mem_of_getElem? (i := 0) rfl))))) (hts _ (List.mem_cons_of_mem _ (List.mem_append_left _ (List.mem_append_left _ (List.mem_of_getElem? (i := 1) rfl))))) (vx_hat (B := [.castable "java/lang/IndexOutOfBoundsException" "java/lang/IndexOutOfBoundsException", .declares (Bundle.init0 "java/lang/RuntimeException"), .declares (Bundle.init0 "java/lang/Exception"), .declares (Bundle.init0 Bundle.tN)]) (fun w h => hts w (List.mem_cons_of_mem _ (List.mem_append_left _ (List.mem_append_right _ (List.mem_append_left _ h))))) (by decide +kernel) (vx_c (va_Nw.use (by decide +kernel) (hT.2.2.1 _ (List.mem_of_getElem? (i := 2) rfl))) (vx_c (va_Nw.use (by decide +kernel) (hT.2.2.1 _ (List.mem_of_getElem? (i := 4) rfl))) (vx_c (va_Nw.use (by decide +kernel) (hT.2.2.1 _ (List.mem_of_getElem? (i := 5) rfl))) (vx_c (va_Nw.use (by decide +kernel) (hT.2.2.1 _ (List.mem_of_getElem? (i := 6) rfl))) vx_n))))) (fun w h => List.all_eq_true.mp (by decide +kernel : (Cond.classLink RX11 194 "java/lang/IndexOutOfBoundsException" :: Cond.initialized "java/lang/IndexOutOfBoundsException" :: (vx_at0 RX11 196 "java/lang/IndexOutOfBoundsException" ["java/lang/RuntimeException", "java/lang/Exception"])).all vx_ot = true) w h) hT.1 hT.2.1 hS (hl.1.trans hml.symm) dX11_shape_9 dX11_shape_12 dX11_shape_13 dX11_shape_16 (fun x h => (hno x h).elim) (Nat.le_of_ble_eq_true rfl) (Nat.le_of_ble_eq_true rfl) (Nat.le_of_eq hc) (Nat.le_of_eq hs) hlocks (xt_x (n := 3) (by decide) hK hzk hP hD hS) hS.2.2 (Nat.le_of_eq hc) (Nat.le_of_eq hs)
      · intro z cells slots L σ r h hzk hc hs H locs ls hP hD hS hl
        rw [f_X11_shape] at h
        refine lv_iload_n hx hb dX11_shape_17 rfl (lv_at hl 1 rfl) ?_
        refine lv_iconst (v := 3) hx hb dX11_shape_18 (by decide) ?_
        refine lv_icmp_ne (tgt := 27) hx hb dX11_shape_19 (by decide) (fun c1 => ?_) (fun c1 => ?_)
        · rw [if_neg c1] at h
          exact ih.2.2.2.1 z _ _ L σ _ h hzk hc hs H locs ls hP hD hS (lv_sub hl [0, 1] rfl)
        · rw [if_pos c1] at h
          refine lv_aload_n hx hb dX11_shape_22 rfl (lv_at hl 0 rfl) ?_
          refine hg_75_19 hx hb hts in_f_X11_shape_X11 hown hK hP (hts _ (List.mem_cons_of_mem _ (List.mem_append_left _ (List.mem_append_left _ (List.mem_of_getElem? (i := 2) rfl))))) dX11_shape_23 ?_
          obtain rfl := Option.some.inj h
          subst hc
          subst hs
          exact xr_i hx hb hr hK hzk hP hD hS hlocks dX11_shape_26
      · intro z cells slots L σ r h hzk hc hs H locs ls hP hD hS hl
        rw [f_X11_shape] at h
        refine lv_aload_n hx hb dX11_shape_27 rfl (lv_at hl 0 rfl) ?_
        refine hg_75_18 hx hb hts in_f_X11_shape_X11 hown hK hP (hts _ (List.mem_cons_of_mem _ (List.mem_append_left _ (List.mem_append_left _ (List.mem_of_getElem? (i := 3) rfl))))) dX11_shape_28 ?_
        refine lv_if_ne (tgt := 36) hx hb dX11_shape_31 (by decide) (fun c1 => ?_) (fun c1 => ?_)
        · rw [if_neg c1] at h
          exact ih.2.2.2.2.1 z _ _ L σ _ h hzk hc hs H locs ls hP hD hS (lv_sub hl [0, 1] rfl)
        · rw [if_pos c1] at h
          refine lv_iconst (v := 0) hx hb dX11_shape_34 (by decide) ?_
          obtain rfl := Option.some.inj h
          subst hc
          subst hs
          exact xr_i hx hb hr hK hzk hP hD hS hlocks dX11_shape_35
      · intro z cells slots L σ r h hzk hc hs H locs ls hP hD hS hl
        rw [f_X11_shape] at h
        refine lv_aload_n hx hb dX11_shape_36 rfl (lv_at hl 0 rfl) ?_
        refine hg_75_4 hx hb hts in_f_X11_shape_X11 hown hK hP (hts _ (List.mem_cons_of_mem _ (List.mem_append_left _ (List.mem_append_left _ (List.mem_of_getElem? (i := 4) rfl))))) dX11_shape_37 ?_
        refine lv_iconst (v := 0) hx hb dX11_shape_40 (by decide) ?_
        obtain ⟨q1, h⟩ := kr_ite1 h
        refine hl_67 hx hb hK hP q1 dX11_shape_41 ?_
        refine lv_istore_n (lv' := [(2, .int (σ.2.2.1 67 (0 : Int32).toNatClampNeg)), (0, .ref (a 75)), (1, .int (L.1 1))]) hx hb dX11_shape_42 rfl hl (by decide) rfl (fun ls hl => ?_)
        refine lv_aload_n hx hb dX11_shape_43 rfl (lv_at hl 1 rfl) ?_
        refine hg_75_0 hx hb hts in_f_X11_shape_X11 hown hK hP (hts _ (List.mem_cons_of_mem _ (List.mem_append_left _ (List.mem_append_left _ (List.mem_of_getElem? (i := 5) rfl))))) dX11_shape_44 ?_
        refine lv_iload_n hx hb dX11_shape_47 rfl (lv_at hl 0 rfl) ?_
        obtain ⟨r2, hc2, h⟩ := op_ex h
        refine kc_i (va_runV (As := [.int (σ.2.2.1 67 (0 : Int32).toNatClampNeg)]) (rest := []) ⟨hx, hb, hml, hown, hts⟩ (c_y_X1_kind l dC dI cy a z k (lI lZ 1 ((σ.2.2.1 67 (0 : Int32).toNatClampNeg))) σ r2 hc2 H.size) (cwV 1 hts g_y_X11_shape_X1_kind_V321 rfl rfl rfl hd_y_X1_kind ⟨Nat.le_of_ble_eq_true rfl, Nat.le_of_ble_eq_true rfl⟩) ⟨nb_blind, va_recv hK hP (ci := 1) (q0 := 0) rfl rfl, (kb_pre hK hG hP hD)⟩ rfl rfl hl.1 rfl (lv_room (Nat.le_of_ble_eq_true rfl)) dX11_shape_48 ⟨(Nat.le_trans (Nat.le_add_right _ _) (Nat.le_of_eq hc)), (Nat.le_trans (Nat.le_add_right _ _) (Nat.le_of_eq hs))⟩) hA hP hD hS (fun H locs hP hD hS => ?_)
        refine lv_istore_n (lv' := [(3, .int r2.1), (2, .int (σ.2.2.1 67 (0 : Int32).toNatClampNeg)), (0, .ref (a 75)), (1, .int (L.1 1))]) hx hb dX11_shape_51 rfl hl (by decide) rfl (fun ls hl => ?_)
        refine lv_iload_n hx hb dX11_shape_52 rfl (lv_at hl 3 rfl) ?_
        by_cases q3 : ((L.1 1)) = (0 : Int32)
        · rw [if_pos q3] at h
          refine lv_lookup (off := 27) (tgt := 80) hx hb dX11_shape_53 (by decide) (by rw [q3]; decide) (by decide) ?_
          exact ih.2.2.2.2.2.1 z _ _ (lI L 3 r2.1) r2.2 _ h hzk hc hs H locs ls hP hD hS (lv_sub hl [0] rfl)
        · rw [if_neg q3] at h
          by_cases q4 : ((L.1 1)) = (1 : Int32)
          · rw [if_pos q4] at h
            refine lv_lookup (off := 29) (tgt := 82) hx hb dX11_shape_53 (by decide) (by rw [q4]; decide) (by decide) ?_
            exact ih.2.2.2.2.2.2.1 z _ _ (lI L 2 ((σ.2.2.1 67 (0 : Int32).toNatClampNeg))) r2.2 _ h hzk hc hs H locs ls hP hD hS (lv_sub hl [2, 1] rfl)
          · rw [if_neg q4] at h
            have nq3 : ¬ ((L.1 1)).toInt = 0 := nb_ti q3 rfl
            have nq4 : ¬ ((L.1 1)).toInt = 1 := nb_ti q4 rfl
            refine lv_lookup (off := 38) (tgt := 91) hx hb dX11_shape_53 (by decide) (nb_lk (by simp only [List.forall_mem_cons]; exact ⟨nq3, nq4, fun _ h => absurd h List.not_mem_nil⟩)) (by decide) ?_
            exact ih.2.2.2.2.2.2.2.1 z _ _ (lI (lI L 2 ((σ.2.2.1 67 (0 : Int32).toNatClampNeg))) 3 r2.1) r2.2 _ h hzk hc hs H locs ls hP hD hS (lv_sub hl [2, 1, 0] rfl)
      · intro z cells slots L σ r h hzk hc hs H locs ls hP hD hS hl
        rw [f_X11_shape] at h
        refine lv_iload_n hx hb dX11_shape_80 rfl (lv_at hl 0 rfl) ?_
        obtain rfl := Option.some.inj h
        subst hc
        subst hs
        exact xr_i hx hb hr hK hzk hP hD hS hlocks dX11_shape_81
      · intro z cells slots L σ r h hzk hc hs H locs ls hP hD hS hl
        rw [f_X11_shape] at h
        refine lv_aload_n hx hb dX11_shape_82 rfl (lv_at hl 0 rfl) ?_
        refine hg_75_0 hx hb hts in_f_X11_shape_X11 hown hK hP (hts _ (List.mem_cons_of_mem _ (List.mem_append_left _ (List.mem_append_left _ (List.mem_of_getElem? (i := 5) rfl))))) dX11_shape_83 ?_
        refine lv_iload_n hx hb dX11_shape_86 rfl (lv_at hl 1 rfl) ?_
        obtain ⟨r1, hc1, h⟩ := op_ex h
        refine kc_i (va_runV (As := [.int (L.1 2)]) (rest := []) ⟨hx, hb, hml, hown, hts⟩ (c_y_X1_size l dC dI cy a z k (lI lZ 1 ((L.1 2))) σ r1 hc1 H.size) (cwV 1 hts g_y_X11_shape_X1_size_V329 rfl rfl rfl hd_y_X1_size ⟨Nat.le_of_ble_eq_true rfl, Nat.le_of_ble_eq_true rfl⟩) ⟨nb_blind, va_recv hK hP (ci := 1) (q0 := 0) rfl rfl, (kb_pre hK hG hP hD)⟩ rfl rfl hl.1 rfl (lv_room (Nat.le_of_ble_eq_true rfl)) dX11_shape_87 ⟨(Nat.le_trans (Nat.le_add_right _ _) (Nat.le_of_eq hc)), (Nat.le_trans (Nat.le_add_right _ _) (Nat.le_of_eq hs))⟩) hA hP hD hS (fun H locs hP hD hS => ?_)
        obtain rfl := Option.some.inj h
        subst hc
        subst hs
        exact xr_i hx hb hr hK hzk hP hD hS hlocks dX11_shape_90
      · intro z cells slots L σ r h hzk hc hs H locs ls hP hD hS hl
        rw [f_X11_shape] at h
        refine lv_iload_n hx hb dX11_shape_91 rfl (lv_at hl 2 rfl) ?_
        refine lv_iconst (v := 4) hx hb dX11_shape_92 (by decide) ?_
        refine lv_icmp_lt (tgt := 107) hx hb dX11_shape_93 (by decide) (fun c1 => ?_) (fun c1 => ?_)
        · rw [if_pos c1] at h
          exact ih.2.2.2.2.2.2.2.2.1 z _ _ L σ _ h hzk hc hs H locs ls hP hD hS (lv_sub hl [] rfl)
        · rw [if_neg c1] at h
          refine lv_aload_n hx hb dX11_shape_96 rfl (lv_at hl 0 rfl) ?_
          refine hg_75_0 hx hb hts in_f_X11_shape_X11 hown hK hP (hts _ (List.mem_cons_of_mem _ (List.mem_append_left _ (List.mem_append_left _ (List.mem_of_getElem? (i := 5) rfl))))) dX11_shape_97 ?_
          refine lv_iload_n hx hb dX11_shape_100 rfl (lv_at hl 1 rfl) ?_
          obtain ⟨r2, hc2, h⟩ := op_ex h
          refine kc_i (va_runV (As := [.int (L.1 2)]) (rest := []) ⟨hx, hb, hml, hown, hts⟩ (c_y_X1_length l dC dI cy a z k (lI lZ 1 ((L.1 2))) σ r2 hc2 H.size) (cwV 1 hts g_y_X11_shape_X1_length_V331 rfl rfl rfl hd_y_X1_length ⟨Nat.le_of_ble_eq_true rfl, Nat.le_of_ble_eq_true rfl⟩) ⟨nb_blind, va_recv hK hP (ci := 1) (q0 := 0) rfl rfl, (kb_pre hK hG hP hD)⟩ rfl rfl hl.1 rfl (lv_room (Nat.le_of_ble_eq_true rfl)) dX11_shape_101 ⟨(Nat.le_trans (Nat.le_add_right _ _) (Nat.le_of_eq hc)), (Nat.le_trans (Nat.le_add_right _ _) (Nat.le_of_eq hs))⟩) hA hP hD hS (fun H locs hP hD hS => ?_)
          refine lv_goto (tgt := 108) hx hb dX11_shape_104 (by decide) ?_
          exact ih.2.2.2.2.2.2.2.2.2 z _ _ (lI L 100 r2.1) r2.2 _ h hzk hc hs H locs ls hP hD hS (lv_sub hl [] rfl)
      · intro z cells slots L σ r h hzk hc hs H locs ls hP hD hS hl
        rw [f_X11_shape] at h
        refine lv_iconst (v := 0) hx hb dX11_shape_107 (by decide) ?_
        exact ih.2.2.2.2.2.2.2.2.2 z _ _ (lI L 100 0) σ _ h hzk hc hs H locs ls hP hD hS (lv_sub hl [] rfl)
      · intro z cells slots L σ r h hzk hc hs H locs ls hP hD hS hl
        rw [f_X11_shape] at h
        obtain rfl := Option.some.inj h
        subst hc
        subst hs
        exact xr_i hx hb hr hK hzk hP hD hS hlocks dX11_shape_108
  exact (blk k0).1 z 0 0 L0 σ0 r0 h0 (zk_rf _ _) ((Nat.zero_add _).trans hmc) ((Nat.zero_add _).trans hms) s.heap [] ls hP hD hS hl
/-! X11_shown -/
def f_X11_shown : Nat → Nat → LV → CS → Option RS
  | 0, _, _, _ => none
  | k + 1, 0, L, σ => if ((L.1 1)) < 0 then (f_X11_shown k 1 L σ) else (if ((L.1 1)) < ((σ.1 7517)) then (f_X11_shown k 2 L σ) else (f_X11_shown k 1 L σ))
  | k + 1, 1, L, σ => some ((3, 0), σ, (1, 6))
  | k + 1, 2, L, σ => if ¬ (((L.1 1)) < 0 ∨ (sN σ 66) ≤ ((L.1 1)).toNatClampNeg) then (some ((0, (((σ.2.2.1 66 ((L.1 1)).toNatClampNeg)) &&& 255)), σ, (0, 0))) else none
  | _ + 1, _ + 3, _, _ => none
def o_f_X11_shown : List Cond := [.fieldLink RX11 241 "SetHouse" "shownLength" "I", .classLink RX11 194 "java/lang/IndexOutOfBoundsException", .initialized "java/lang/IndexOutOfBoundsException", .fieldLink RX11 102 "SetHouse" "shownText" "[B"]
theorem o_f_X11_shown_good : o_f_X11_shown.all goodWord = true := by decide +kernel
def p_f_X11_shown : List Cond := o_f_X11_shown ++ (((vx_at0 RX11 196 "java/lang/IndexOutOfBoundsException" ["java/lang/RuntimeException", "java/lang/Exception"]).filter goodWord) ++ [])
theorem p_f_X11_shown_good : p_f_X11_shown.all goodWord = true := nb_all2 o_f_X11_shown_good (nb_all2 (nb_fg _) rfl)
def w_f_X11_shown : List Cond := .code yX11_shown cX11_shown 2 (some .int) :: (p_f_X11_shown ++ fC)
theorem w_f_X11_shown_good : w_f_X11_shown.all goodWord = true := nb_allc (by decide +kernel) (nb_all2 p_f_X11_shown_good fC_good)
theorem in_f_X11_shown_X11 : ∀ w ∈ wsX110, w ∈ w_f_X11_shown := fun _ h => List.mem_cons_of_mem _ (List.mem_append_right _ (List.mem_append_right _ (List.mem_append_right _ (List.mem_append_right _ (List.mem_append_right _ (List.mem_append_right _ (List.mem_append_right _ (List.mem_append_right _ (List.mem_append_right _ (List.mem_append_right _ (List.mem_append_right _ h)))))))))))
theorem hd_f_X11_shown : yX11_shown.cls = RX11 ∧ yX11_shown.cls ≠ "java/lang/invoke/MethodHandle" ∧ yX11_shown.cls ≠ "java/lang/invoke/VarHandle" ∧ (parseMethodDescriptor yX11_shown.desc).map (fun d => d.parameters.length) = some 1 := by decide +kernel
set_option maxHeartbeats 40000000 in
set_option maxRecDepth 100000 in
theorem c_f_X11_shown (l : Launch) (hl0 : l.stackTraces = false) (dC : Nat → ClassId) (dI : Nat → Nat → Nat) (cy : Nat → ClassId) (ek a : Nat → Nat) (k0 : Nat) (L0 : LV) (σ0 : CS) (r0 : RS) (h0 : f_X11_shown k0 0 L0 σ0 = some r0) (z : Nat → Nat) (sz : Nat) : vx_Met l yX11_shown w_f_X11_shown ({ frames := 6, cells := r0.2.2.1, slots := r0.2.2.2, locals := 100 }) (va_Pc [.ref (a 75), .int (L0.1 1)] (nInF (dC, dI) cy ek sz (vC cy a z σ0))) (xI dC dI cy a (va_A (vC cy a z σ0) sz) [] z r0) (xX dC dI cy a (va_A (vC cy a z σ0) sz) [] z r0) r0.2.2.1 r0.2.2.2 (va_A (vC cy a z σ0) sz) := by
  refine vx_ofW (cc := cX11_shown) (maxL := 2) (ret := (some .int)) (by decide) rfl ?_
  intro p e s m args below meth c s₁ B hml hno hv
  obtain ⟨rfl, ⟨⟨hsz, hP, hK, hD0, hG⟩, hE⟩, hT⟩ := hv
  have hx := B.exec
  have hb := B.bytes
  have hr := B.returns
  have hts := atoms_spec (ws := w_f_X11_shown) B.pre
  have hown : s.vm.findClass RX11 = some m.cls := findClass_of_methodNamed B.named
  have hlocks := B.notSynchronized
  subst hsz
  have hD := hD0.self (sz := s.heap.size)
  generalize hAe : va_A (vC cy a z σ0) s.heap.size = A at hD hE hT ⊢
  have hA : ∀ q : Nat, s.heap.size ≤ q → A q := fun q h => by rw [← hAe]; exact Or.inr h
  have hS : va_S A s.heap s.heap [] := va_S.rf
  have hl := lv_entry ([.ref (a 75), .int (L0.1 1)]) (n := 2) (Nat.le_of_ble_eq_true rfl)
  rw [lg_entry_eq]
  generalize (lg_sl ([.ref (a 75), .int (L0.1 1)]) ++ List.replicate (2 - (lg_sl ([.ref (a 75), .int (L0.1 1)])).length) Slot.unset).toArray = ls at hl ⊢
  have hl : lv_has ls 2 [(0, .ref (a 75)), (1, .int (L0.1 1))] := hl
  generalize hmc : r0.2.2.1 = mc
  generalize hms : r0.2.2.2 = ms
  have blk : ∀ k : Nat, (bX p l e (headSpec w_f_X11_shown ({ frames := 6, cells := mc, slots := ms, locals := 100 })).room s m #[.ref (a 75), .int (L0.1 1)] below meth c dC dI cy a A (fun r => vx_MQ below (xI dC dI cy a A [] z r) (xX dC dI cy a A [] z r) #[.ref (a 75), .int (L0.1 1)] s mc ms A) [] z mc ms 2 (f_X11_shown k 0) (fun z L => [(0, .ref (a 75)), (1, .int (L.1 1))]) 0 (fun z L => [])) ∧ (bX p l e (headSpec w_f_X11_shown ({ frames := 6, cells := mc, slots := ms, locals := 100 })).room s m #[.ref (a 75), .int (L0.1 1)] below meth c dC dI cy a A (fun r => vx_MQ below (xI dC dI cy a A [] z r) (xX dC dI cy a A [] z r) #[.ref (a 75), .int (L0.1 1)] s mc ms A) [] z mc ms 2 (f_X11_shown k 1) (fun z L => []) 12 (fun z L => [])) ∧ (bX p l e (headSpec w_f_X11_shown ({ frames := 6, cells := mc, slots := ms, locals := 100 })).room s m #[.ref (a 75), .int (L0.1 1)] below meth c dC dI cy a A (fun r => vx_MQ below (xI dC dI cy a A [] z r) (xX dC dI cy a A [] z r) #[.ref (a 75), .int (L0.1 1)] s mc ms A) [] z mc ms 2 (f_X11_shown k 2) (fun z L => [(0, .ref (a 75)), (1, .int (L.1 1))]) 20 (fun z L => [])) := by
    intro k
    induction k with
    | zero => exact ⟨fun z c1 c2 L σ r h => (by cases h), fun z c1 c2 L σ r h => (by cases h), fun z c1 c2 L σ r h => (by cases h)⟩
    | succ k ih =>
      refine ⟨?_, ?_, ?_⟩
      · intro z cells slots L σ r h hzk hc hs H locs ls hP hD hS hl
        rw [f_X11_shown] at h
        refine lv_iload_n hx hb dX11_shown_0 rfl (lv_at hl 1 rfl) ?_
        refine lv_if_lt (tgt := 12) hx hb dX11_shown_1 (by decide) (fun c1 => ?_) (fun c1 => ?_)
        · rw [if_pos c1] at h
          exact ih.2.1 z _ _ L σ _ h hzk hc hs H locs ls hP hD hS (lv_sub hl [] rfl)
        · rw [if_neg c1] at h
          refine lv_iload_n hx hb dX11_shown_4 rfl (lv_at hl 1 rfl) ?_
          refine lv_aload_n hx hb dX11_shown_5 rfl (lv_at hl 0 rfl) ?_
          refine hg_75_17 hx hb hts in_f_X11_shown_X11 hown hK hP (hts _ (List.mem_cons_of_mem _ (List.mem_append_left _ (List.mem_append_left _ (List.mem_of_getElem? (i := 0) rfl))))) dX11_shown_6 ?_
          refine lv_icmp_lt (tgt := 20) hx hb dX11_shown_9 (by decide) (fun c2 => ?_) (fun c2 => ?_)
          · rw [if_pos c2] at h
            exact ih.2.2 z _ _ L σ _ h hzk hc hs H locs ls hP hD hS (lv_sub hl [0, 1] rfl)
          · rw [if_neg c2] at h
            exact ih.2.1 z _ _ L σ _ h hzk hc hs H locs ls hP hD hS (lv_sub hl [] rfl)
      · intro z cells slots L σ r h hzk hc hs H locs ls hP hD hS hl
        rw [f_X11_shown] at h
        obtain rfl := Option.some.inj h
        exact vx_throw0 (cls := "java/lang/IndexOutOfBoundsException") (names := ["java/lang/RuntimeException", "java/lang/Exception"]) hx hb hl0 hown (by decide) (by decide) (hts _ (List.mem_cons_of_mem _ (List.mem_append_left _ (List.mem_append_left _ (List.mem_of_getElem? (i := 1) rfl))))) (hts _ (List.mem_cons_of_mem _ (List.mem_append_left _ (List.mem_append_left _ (List.mem_of_getElem? (i := 2) rfl))))) (vx_hat (B := [.castable "java/lang/IndexOutOfBoundsException" "java/lang/IndexOutOfBoundsException", .declares (Bundle.init0 "java/lang/RuntimeException"), .declares (Bundle.init0 "java/lang/Exception"), .declares (Bundle.init0 Bundle.tN)]) (fun w h => hts w (List.mem_cons_of_mem _ (List.mem_append_left _ (List.mem_append_right _ (List.mem_append_left _ h))))) (by decide +kernel) (vx_c (va_Nw.use (by decide +kernel) (hT.2.2.1 _ (List.mem_of_getElem? (i := 2) rfl))) (vx_c (va_Nw.use (by decide +kernel) (hT.2.2.1 _ (List.mem_of_getElem? (i := 4) rfl))) (vx_c (va_Nw.use (by decide +kernel) (hT.2.2.1 _ (List.mem_of_getElem? (i := 5) rfl))) (vx_c (va_Nw.use (by decide +kernel) (hT.2.2.1 _ (List.mem_of_getElem? (i := 6) rfl))) vx_n))))) (fun w h => List.all_eq_true.mp (by decide +kernel : (Cond.classLink RX11 194 "java/lang/IndexOutOfBoundsException" :: Cond.initialized "java/lang/IndexOutOfBoundsException" :: (vx_at0 RX11 196 "java/lang/IndexOutOfBoundsException" ["java/lang/RuntimeException", "java/lang/Exception"])).all vx_ot = true) w h) hT.1 hT.2.1 hS (hl.1.trans hml.symm) dX11_shown_12 dX11_shown_15 dX11_shown_16 dX11_shown_19 (fun x h => (hno x h).elim) (Nat.le_of_ble_eq_true rfl) (Nat.le_of_ble_eq_true rfl) (Nat.le_of_eq hc) (Nat.le_of_eq hs) hlocks (xt_x (n := 3) (by decide) hK hzk hP hD hS) hS.2.2 (Nat.le_of_eq hc) (Nat.le_of_eq hs)
      · intro z cells slots L σ r h hzk hc hs H locs ls hP hD hS hl
        rw [f_X11_shown] at h
        refine lv_aload_n hx hb dX11_shown_20 rfl (lv_at hl 0 rfl) ?_
        refine hg_75_16 hx hb hts in_f_X11_shown_X11 hown hK hP (hts _ (List.mem_cons_of_mem _ (List.mem_append_left _ (List.mem_append_left _ (List.mem_of_getElem? (i := 3) rfl))))) dX11_shown_21 ?_
        refine lv_iload_n hx hb dX11_shown_24 rfl (lv_at hl 1 rfl) ?_
        obtain ⟨q1, h⟩ := kr_ite1 h
        refine hl_66 hx hb hK hP q1 dX11_shown_25 ?_
        refine lv_sipush (v := 255) hx hb dX11_shown_26 (by decide) ?_
        refine lv_iand hx hb dX11_shown_29 ?_
        obtain rfl := Option.some.inj h
        subst hc
        subst hs
        exact xr_i hx hb hr hK hzk hP hD hS hlocks dX11_shown_30
  exact (blk k0).1 z 0 0 L0 σ0 r0 h0 (zk_rf _ _) ((Nat.zero_add _).trans hmc) ((Nat.zero_add _).trans hms) s.heap [] ls hP hD hS hl
/-! X3_open__P -/
def f_X3_open__P : Nat → Nat → LV → CS → Option RS
  | 0, _, _, _ => none
  | k + 1, 0, L, σ => op (y_X9_empty k 0 lZ (uL (uPr σ (some ((L.2.2.1 1)))) 1817 ((L.2.1 2)))) (fun r1 => ox (f_X3_restart k 0 lZ r1.2) (fun r2 => some ((0, 0), r2.2.1, (0, 0))))
  | _ + 1, _ + 1, _, _ => none
def o_f_X3_open__P : List Cond := [.fieldLink RX3 58 "SetHouse$Machine" "program" "LSetHouse$Program;", .fieldLink RX3 62 "SetHouse$Machine" "firstSeed" "J", .fieldLink RX3 35 "SetHouse$Machine" "saves" "LSetHouse$Saves;", .methodLink RX3 66 yX9_empty, .instanceMethod yX9_empty, .selects RX9 yX9_empty yX9_empty, .initialized RX9, .methodLink RX3 69 yX3_restart, .instanceMethod yX3_restart, .selects RX3 yX3_restart yX3_restart, .initialized RX3]
theorem o_f_X3_open__P_good : o_f_X3_open__P.all goodWord = true := by decide +kernel
def p_f_X3_open__P : List Cond := o_f_X3_open__P ++ ((.code yX9_empty cX9_empty 1 none :: p_y_X9_empty) ++ ((.code yX3_restart cX3_restart 1 none :: p_f_X3_restart) ++ []))
theorem p_f_X3_open__P_good : p_f_X3_open__P.all goodWord = true := nb_all2 o_f_X3_open__P_good (nb_all2 (nb_allc (by decide +kernel) p_y_X9_empty_good) (nb_all2 (nb_allc (by decide +kernel) p_f_X3_restart_good) rfl))
def w_f_X3_open__P : List Cond := .code yX3_open cX3_open 4 none :: (p_f_X3_open__P ++ fC)
theorem w_f_X3_open__P_good : w_f_X3_open__P.all goodWord = true := nb_allc (by decide +kernel) (nb_all2 p_f_X3_open__P_good fC_good)
theorem in_f_X3_open__P_X3 : ∀ w ∈ wsX30, w ∈ w_f_X3_open__P := fun _ h => List.mem_cons_of_mem _ (List.mem_append_right _ (List.mem_append_right _ (List.mem_append_right _ (List.mem_append_right _ (List.mem_append_left _ h)))))
theorem hd_f_X3_open__P : yX3_open.cls = RX3 ∧ yX3_open.cls ≠ "java/lang/invoke/MethodHandle" ∧ yX3_open.cls ≠ "java/lang/invoke/VarHandle" ∧ (parseMethodDescriptor yX3_open.desc).map (fun d => d.parameters.length) = some 2 := by decide +kernel
theorem gg_f_X3_open__P_X3_restart : GoodIn w_f_X3_open__P w_f_X3_restart := goodIn_sub (fun w h => (List.mem_cons.mp h).elim (fun e => (List.mem_cons_of_mem _ (List.mem_append_left _ (List.mem_append_right _ (List.mem_append_right _ (List.mem_append_left _ (List.mem_cons.mpr (Or.inl e)))))))) (fun h => (List.mem_append.mp h).elim (fun h => (List.mem_cons_of_mem _ (List.mem_append_left _ (List.mem_append_right _ (List.mem_append_right _ (List.mem_append_left _ (List.mem_cons_of_mem _ h))))))) (fun h => List.mem_cons_of_mem _ (List.mem_append_right _ h)))) w_f_X3_restart_good
theorem g_f_X3_open__P_X3_restart_V69 : GoodIn w_f_X3_open__P (wsV RX3 69 RX3 yX3_restart w_f_X3_restart) := goodIn_app (nb_g4 (List.mem_cons_of_mem _ (List.mem_append_left _ (List.mem_append_left _ (List.mem_of_getElem? (i := 7) rfl)))) (List.mem_cons_of_mem _ (List.mem_append_left _ (List.mem_append_left _ (List.mem_of_getElem? (i := 8) rfl)))) (List.mem_cons_of_mem _ (List.mem_append_left _ (List.mem_append_left _ (List.mem_of_getElem? (i := 9) rfl)))) (List.mem_cons_of_mem _ (List.mem_append_left _ (List.mem_append_left _ (List.mem_of_getElem? (i := 10) rfl)))) (by decide +kernel)) gg_f_X3_open__P_X3_restart
theorem gg_f_X3_open__P_X9_empty : GoodIn w_f_X3_open__P w_y_X9_empty := goodIn_sub (fun w h => (List.mem_cons.mp h).elim (fun e => (List.mem_cons_of_mem _ (List.mem_append_left _ (List.mem_append_right _ (List.mem_append_left _ (List.mem_cons.mpr (Or.inl e))))))) (fun h => (List.mem_append.mp h).elim (fun h => (List.mem_cons_of_mem _ (List.mem_append_left _ (List.mem_append_right _ (List.mem_append_left _ (List.mem_cons_of_mem _ h)))))) (fun h => List.mem_cons_of_mem _ (List.mem_append_right _ h)))) w_y_X9_empty_good
theorem g_y_X3_open__P_X9_empty_V66 : GoodIn w_f_X3_open__P (wsV RX3 66 RX9 yX9_empty w_y_X9_empty) := goodIn_app (nb_g4 (List.mem_cons_of_mem _ (List.mem_append_left _ (List.mem_append_left _ (List.mem_of_getElem? (i := 3) rfl)))) (List.mem_cons_of_mem _ (List.mem_append_left _ (List.mem_append_left _ (List.mem_of_getElem? (i := 4) rfl)))) (List.mem_cons_of_mem _ (List.mem_append_left _ (List.mem_append_left _ (List.mem_of_getElem? (i := 5) rfl)))) (List.mem_cons_of_mem _ (List.mem_append_left _ (List.mem_append_left _ (List.mem_of_getElem? (i := 6) rfl)))) (by decide +kernel)) gg_f_X3_open__P_X9_empty
set_option maxHeartbeats 40000000 in
set_option maxRecDepth 100000 in
theorem c_f_X3_open__P (l : Launch) (hl0 : l.stackTraces = false) (dC : Nat → ClassId) (dI : Nat → Nat → Nat) (cy : Nat → ClassId) (ek a : Nat → Nat) (k0 : Nat) (L0 : LV) (σ0 : CS) (r0 : RS) (h0 : f_X3_open__P k0 0 L0 σ0 = some r0) (z : Nat → Nat) (sz : Nat) : vx_Met l yX3_open w_f_X3_open__P ({ frames := 6, cells := r0.2.2.1, slots := r0.2.2.2, locals := 178 }) (va_Pc [.ref (a 18), .ref (a (pA (L0.2.2.1 1))), .long (L0.2.1 2)] (nInF (dC, dI) cy ek sz (vC cy a z σ0))) (xV dC dI cy a (va_A (vC cy a z σ0) sz) [20] z r0) (xX dC dI cy a (va_A (vC cy a z σ0) sz) [20] z r0) r0.2.2.1 r0.2.2.2 (va_A (vC cy a z σ0) sz) := by
  refine vx_ofW (cc := cX3_open) (maxL := 4) (ret := none) (by decide) rfl ?_
  intro p e s m args below meth c s₁ B hml hno hv
  obtain ⟨rfl, ⟨⟨hsz, hP, hK, hD0, hG⟩, hE⟩, hT⟩ := hv
  have hx := B.exec
  have hb := B.bytes
  have hr := B.returns
  have hts := atoms_spec (ws := w_f_X3_open__P) B.pre
  have hown : s.vm.findClass RX3 = some m.cls := findClass_of_methodNamed B.named
  have hlocks := B.notSynchronized
  subst hsz
  have hD := hD0.self (sz := s.heap.size)
  generalize hAe : va_A (vC cy a z σ0) s.heap.size = A at hD hE hT ⊢
  have hA : ∀ q : Nat, s.heap.size ≤ q → A q := fun q h => by rw [← hAe]; exact Or.inr h
  have hS : va_S A s.heap s.heap [] := va_S.rf
  have hl := lv_entry ([.ref (a 18), .ref (a (pA (L0.2.2.1 1))), .long (L0.2.1 2)]) (n := 4) (Nat.le_of_ble_eq_true rfl)
  rw [lg_entry_eq]
  generalize (lg_sl ([.ref (a 18), .ref (a (pA (L0.2.2.1 1))), .long (L0.2.1 2)]) ++ List.replicate (4 - (lg_sl ([.ref (a 18), .ref (a (pA (L0.2.2.1 1))), .long (L0.2.1 2)])).length) Slot.unset).toArray = ls at hl ⊢
  have hl : lv_has ls 4 [(0, .ref (a 18)), (1, .ref (a (pA (L0.2.2.1 1)))), (2, .long (L0.2.1 2))] := hl
  generalize hmc : r0.2.2.1 = mc
  generalize hms : r0.2.2.2 = ms
  have blk : ∀ k : Nat, (bX p l e (headSpec w_f_X3_open__P ({ frames := 6, cells := mc, slots := ms, locals := 178 })).room s m #[.ref (a 18), .ref (a (pA (L0.2.2.1 1))), .long (L0.2.1 2)] below meth c dC dI cy a A (fun r => vx_MQ below (xV dC dI cy a A [20] z r) (xX dC dI cy a A [20] z r) #[.ref (a 18), .ref (a (pA (L0.2.2.1 1))), .long (L0.2.1 2)] s mc ms A) [20] z mc ms 4 (f_X3_open__P k 0) (fun z L => [(0, .ref (a 18)), (1, .ref (a (pA (L.2.2.1 1)))), (2, .long (L.2.1 2))]) 0 (fun z L => [])) := by
    intro k
    induction k with
    | zero => exact fun z c1 c2 L σ r h => (by cases h)
    | succ k ih =>
      skip
      · intro z cells slots L σ r h hzk hc hs H locs ls hP hD hS hl
        rw [f_X3_open__P] at h
        refine lv_aload_n hx hb dX3_open_0 rfl (lv_at hl 0 rfl) ?_
        refine lv_aload_n hx hb dX3_open_1 rfl (lv_at hl 1 rfl) ?_
        refine hpq_18_6 hx hb hts in_f_X3_open__P_X3 hown hK hP hD hS (hts _ (List.mem_cons_of_mem _ (List.mem_append_left _ (List.mem_append_left _ (List.mem_of_getElem? (i := 0) rfl))))) dX3_open_2 (fun H locs hP hD hS => ?_)
        refine lv_aload_n hx hb dX3_open_5 rfl (lv_at hl 0 rfl) ?_
        refine lv_lload_n hx hb dX3_open_6 rfl (lv_at hl 2 rfl) ?_
        refine hp_18_17 hx hb hts in_f_X3_open__P_X3 hown hK hP hD hS (hts _ (List.mem_cons_of_mem _ (List.mem_append_left _ (List.mem_append_left _ (List.mem_of_getElem? (i := 1) rfl))))) dX3_open_7 (fun H locs hP hD hS => ?_)
        refine lv_aload_n hx hb dX3_open_10 rfl (lv_at hl 0 rfl) ?_
        refine hg_18_18 hx hb hts in_f_X3_open__P_X3 hown hK hP (hts _ (List.mem_cons_of_mem _ (List.mem_append_left _ (List.mem_append_left _ (List.mem_of_getElem? (i := 2) rfl))))) dX3_open_11 ?_
        obtain ⟨r1, hc1, h⟩ := op_ex h
        refine kc_v (va_runV (As := []) (rest := []) ⟨hx, hb, hml, hown, hts⟩ (c_y_X9_empty l dC dI cy a z k lZ (uL (uPr σ (some ((L.2.2.1 1)))) 1817 ((L.2.1 2))) r1 hc1 H.size) (cwV 0 hts g_y_X3_open__P_X9_empty_V66 rfl rfl rfl hd_y_X9_empty ⟨Nat.le_of_ble_eq_true rfl, Nat.le_of_ble_eq_true rfl⟩) ⟨nb_blind, va_recv hK hP (ci := 8) (q0 := 24) rfl rfl, (kb_pre hK hG hP hD)⟩ rfl rfl hl.1 rfl (lv_room (Nat.le_of_ble_eq_true rfl)) dX3_open_14 ⟨(Nat.le_trans (Nat.le_add_right _ _) (Nat.le_of_eq hc)), (Nat.le_trans (Nat.le_add_right _ _) (Nat.le_of_eq hs))⟩) hA hP hD hS (fun H locs hP hD hS => ?_)
        refine lv_aload_n hx hb dX3_open_17 rfl (lv_at hl 0 rfl) ?_
        obtain ⟨r2, hc2, hle2, h9⟩ := ox_ex h
        clear h
        refine kx_v (vx_runV (As := []) (rest := []) ⟨hx, hb, hml, hown, hts⟩ (c_f_X3_restart l hl0 dC dI cy ek a k lZ r1.2 r2 hc2 z H.size) (cwV 0 hts g_f_X3_open__P_X3_restart_V69 rfl rfl rfl hd_f_X3_restart ⟨Nat.le_of_ble_eq_true rfl, Nat.le_of_ble_eq_true rfl⟩) ⟨nb_blindF, va_recv hK hP (ci := 3) (q0 := 18) rfl rfl, (kx_pre hK hG hE hT hA hP hD hS)⟩ rfl rfl hl.1 rfl (lv_room (Nat.le_of_ble_eq_true rfl)) dX3_open_18 ⟨Nat.le_trans (Nat.add_le_add_left hle2.1 _) (Nat.le_of_eq hc), Nat.le_trans (Nat.add_le_add_left hle2.2 _) (Nat.le_of_eq hs)⟩) hK hA hzk hP hD hS (by decide) hno hlocks ?_
        rcases h9 with ⟨h00, y2, hny2, hy⟩ | ⟨h00, hy⟩
        · subst hy
          have h := hny2
          refine Or.inl ⟨h00, fun z H locs hz2 hzk hP hD hS => ?_⟩
          replace hc := (Nat.add_assoc _ _ _).trans hc
          replace hs := (Nat.add_assoc _ _ _).trans hs
          obtain rfl := Option.some.inj h
          subst hc
          subst hs
          exact xr_v hx hb hr hK hzk hP hD hS hlocks dX3_open_21
        · subst hy
          exact Or.inr ⟨h00, rfl, hc, hs⟩
  exact (blk k0) z 0 0 L0 σ0 r0 h0 (zk_rf _ _) ((Nat.zero_add _).trans hmc) ((Nat.zero_add _).trans hms) s.heap [] ls hP hD hS hl
/-! X11_start -/
def f_X11_start : Nat → Nat → LV → CS → Option RS
  | 0, _, _, _ => none
  | k + 1, 0, L, σ => if ((σ.1 7510)) = 0 then (some ((2, 0), σ, (1, 6))) else (f_X11_start k 1 L σ)
  | k + 1, 1, L, σ => ox (f_X3_open__P k 0 (lJ (lB lZ 1 ((sCur (uI σ 7511 1)))) 2 ((L.2.1 1))) (uI σ 7511 1)) (fun r1 => ox (f_X3_advance k 0 (lI lZ 1 0) r1.2.1) (fun r2 => some ((0, 0), r2.2.1, (0, 0))))
  | _ + 1, _ + 2, _, _ => none
def o_f_X11_start : List Cond := [.fieldLink RX11 152 "SetHouse" "hasProgram" "Z", .classLink RX11 165 "java/lang/IllegalStateException", .initialized "java/lang/IllegalStateException", .fieldLink RX11 156 "SetHouse" "hasRun" "Z", .fieldLink RX11 65 "SetHouse" "machine" "LSetHouse$Machine;", .fieldLink RX11 88 "SetHouse" "current" "LSetHouse$Program;", .methodLink RX11 168 yX3_open, .instanceMethod yX3_open, .selects RX3 yX3_open yX3_open, .initialized RX3, .methodLink RX11 172 yX3_advance, .instanceMethod yX3_advance, .selects RX3 yX3_advance yX3_advance]
theorem o_f_X11_start_good : o_f_X11_start.all goodWord = true := by decide +kernel
def p_f_X11_start : List Cond := o_f_X11_start ++ (((vx_at0 RX11 167 "java/lang/IllegalStateException" ["java/lang/RuntimeException", "java/lang/Exception"]).filter goodWord) ++ ((.code yX3_open cX3_open 4 none :: p_f_X3_open__P) ++ ((.code yX3_advance cX3_advance 2 none :: p_f_X3_advance) ++ [])))
theorem p_f_X11_start_good : p_f_X11_start.all goodWord = true := nb_all2 o_f_X11_start_good (nb_all2 (nb_fg _) (nb_all2 (nb_allc (by decide +kernel) p_f_X3_open__P_good) (nb_all2 (nb_allc (by decide +kernel) p_f_X3_advance_good) rfl)))
def w_f_X11_start : List Cond := .code yX11_start cX11_start 3 none :: (p_f_X11_start ++ fC)
theorem w_f_X11_start_good : w_f_X11_start.all goodWord = true := nb_allc (by decide +kernel) (nb_all2 p_f_X11_start_good fC_good)
theorem in_f_X11_start_X11 : ∀ w ∈ wsX110, w ∈ w_f_X11_start := fun _ h => List.mem_cons_of_mem _ (List.mem_append_right _ (List.mem_append_right _ (List.mem_append_right _ (List.mem_append_right _ (List.mem_append_right _ (List.mem_append_right _ (List.mem_append_right _ (List.mem_append_right _ (List.mem_append_right _ (List.mem_append_right _ (List.mem_append_right _ h)))))))))))
theorem hd_f_X11_start : yX11_start.cls = RX11 ∧ yX11_start.cls ≠ "java/lang/invoke/MethodHandle" ∧ yX11_start.cls ≠ "java/lang/invoke/VarHandle" ∧ (parseMethodDescriptor yX11_start.desc).map (fun d => d.parameters.length) = some 1 := by decide +kernel
theorem gg_f_X11_start_X3_advance : GoodIn w_f_X11_start w_f_X3_advance := goodIn_sub (fun w h => (List.mem_cons.mp h).elim (fun e => (List.mem_cons_of_mem _ (List.mem_append_left _ (List.mem_append_right _ (List.mem_append_right _ (List.mem_append_right _ (List.mem_append_left _ (List.mem_cons.mpr (Or.inl e))))))))) (fun h => (List.mem_append.mp h).elim (fun h => (List.mem_cons_of_mem _ (List.mem_append_left _ (List.mem_append_right _ (List.mem_append_right _ (List.mem_append_right _ (List.mem_append_left _ (List.mem_cons_of_mem _ h)))))))) (fun h => List.mem_cons_of_mem _ (List.mem_append_right _ h)))) w_f_X3_advance_good
theorem g_f_X11_start_X3_advance_V172 : GoodIn w_f_X11_start (wsV RX11 172 RX3 yX3_advance w_f_X3_advance) := goodIn_app (nb_g4 (List.mem_cons_of_mem _ (List.mem_append_left _ (List.mem_append_left _ (List.mem_of_getElem? (i := 10) rfl)))) (List.mem_cons_of_mem _ (List.mem_append_left _ (List.mem_append_left _ (List.mem_of_getElem? (i := 11) rfl)))) (List.mem_cons_of_mem _ (List.mem_append_left _ (List.mem_append_left _ (List.mem_of_getElem? (i := 12) rfl)))) (List.mem_cons_of_mem _ (List.mem_append_left _ (List.mem_append_left _ (List.mem_of_getElem? (i := 9) rfl)))) (by decide +kernel)) gg_f_X11_start_X3_advance
theorem gg_f_X11_start_X3_open__P : GoodIn w_f_X11_start w_f_X3_open__P := goodIn_sub (fun w h => (List.mem_cons.mp h).elim (fun e => (List.mem_cons_of_mem _ (List.mem_append_left _ (List.mem_append_right _ (List.mem_append_right _ (List.mem_append_left _ (List.mem_cons.mpr (Or.inl e)))))))) (fun h => (List.mem_append.mp h).elim (fun h => (List.mem_cons_of_mem _ (List.mem_append_left _ (List.mem_append_right _ (List.mem_append_right _ (List.mem_append_left _ (List.mem_cons_of_mem _ h))))))) (fun h => List.mem_cons_of_mem _ (List.mem_append_right _ h)))) w_f_X3_open__P_good
theorem g_f_X11_start_X3_open__P_V168 : GoodIn w_f_X11_start (wsV RX11 168 RX3 yX3_open w_f_X3_open__P) := goodIn_app (nb_g4 (List.mem_cons_of_mem _ (List.mem_append_left _ (List.mem_append_left _ (List.mem_of_getElem? (i := 6) rfl)))) (List.mem_cons_of_mem _ (List.mem_append_left _ (List.mem_append_left _ (List.mem_of_getElem? (i := 7) rfl)))) (List.mem_cons_of_mem _ (List.mem_append_left _ (List.mem_append_left _ (List.mem_of_getElem? (i := 8) rfl)))) (List.mem_cons_of_mem _ (List.mem_append_left _ (List.mem_append_left _ (List.mem_of_getElem? (i := 9) rfl)))) (by decide +kernel)) gg_f_X11_start_X3_open__P
set_option maxHeartbeats 40000000 in
set_option maxRecDepth 100000 in
theorem c_f_X11_start (l : Launch) (hl0 : l.stackTraces = false) (dC : Nat → ClassId) (dI : Nat → Nat → Nat) (cy : Nat → ClassId) (ek a : Nat → Nat) (k0 : Nat) (L0 : LV) (σ0 : CS) (r0 : RS) (h0 : f_X11_start k0 0 L0 σ0 = some r0) (z : Nat → Nat) (sz : Nat) : vx_Met l yX11_start w_f_X11_start ({ frames := 90, cells := r0.2.2.1, slots := r0.2.2.2, locals := 2222 }) (va_Pc [.ref (a 75), .long (L0.2.1 1)] (nInF (dC, dI) cy ek sz (vC cy a z σ0))) (xV dC dI cy a (va_A (vC cy a z σ0) sz) [1, 2, 3, 20, 21, 22, 26] z r0) (xX dC dI cy a (va_A (vC cy a z σ0) sz) [1, 2, 3, 20, 21, 22, 26] z r0) r0.2.2.1 r0.2.2.2 (va_A (vC cy a z σ0) sz) := by
  refine vx_ofW (cc := cX11_start) (maxL := 3) (ret := none) (by decide) rfl ?_
  intro p e s m args below meth c s₁ B hml hno hv
  obtain ⟨rfl, ⟨⟨hsz, hP, hK, hD0, hG⟩, hE⟩, hT⟩ := hv
  have hx := B.exec
  have hb := B.bytes
  have hr := B.returns
  have hts := atoms_spec (ws := w_f_X11_start) B.pre
  have hown : s.vm.findClass RX11 = some m.cls := findClass_of_methodNamed B.named
  have hlocks := B.notSynchronized
  subst hsz
  have hD := hD0.self (sz := s.heap.size)
  generalize hAe : va_A (vC cy a z σ0) s.heap.size = A at hD hE hT ⊢
  have hA : ∀ q : Nat, s.heap.size ≤ q → A q := fun q h => by rw [← hAe]; exact Or.inr h
  have hS : va_S A s.heap s.heap [] := va_S.rf
  have hl := lv_entry ([.ref (a 75), .long (L0.2.1 1)]) (n := 3) (Nat.le_of_ble_eq_true rfl)
  rw [lg_entry_eq]
  generalize (lg_sl ([.ref (a 75), .long (L0.2.1 1)]) ++ List.replicate (3 - (lg_sl ([.ref (a 75), .long (L0.2.1 1)])).length) Slot.unset).toArray = ls at hl ⊢
  have hl : lv_has ls 3 [(0, .ref (a 75)), (1, .long (L0.2.1 1))] := hl
  generalize hmc : r0.2.2.1 = mc
  generalize hms : r0.2.2.2 = ms
  have blk : ∀ k : Nat, (bX p l e (headSpec w_f_X11_start ({ frames := 90, cells := mc, slots := ms, locals := 2222 })).room s m #[.ref (a 75), .long (L0.2.1 1)] below meth c dC dI cy a A (fun r => vx_MQ below (xV dC dI cy a A [1, 2, 3, 20, 21, 22, 26] z r) (xX dC dI cy a A [1, 2, 3, 20, 21, 22, 26] z r) #[.ref (a 75), .long (L0.2.1 1)] s mc ms A) [1, 2, 3, 20, 21, 22, 26] z mc ms 3 (f_X11_start k 0) (fun z L => [(0, .ref (a 75)), (1, .long (L.2.1 1))]) 0 (fun z L => [])) ∧ (bX p l e (headSpec w_f_X11_start ({ frames := 90, cells := mc, slots := ms, locals := 2222 })).room s m #[.ref (a 75), .long (L0.2.1 1)] below meth c dC dI cy a A (fun r => vx_MQ below (xV dC dI cy a A [1, 2, 3, 20, 21, 22, 26] z r) (xX dC dI cy a A [1, 2, 3, 20, 21, 22, 26] z r) #[.ref (a 75), .long (L0.2.1 1)] s mc ms A) [1, 2, 3, 20, 21, 22, 26] z mc ms 3 (f_X11_start k 1) (fun z L => [(0, .ref (a 75)), (1, .long (L.2.1 1))]) 15 (fun z L => [])) := by
    intro k
    induction k with
    | zero => exact ⟨fun z c1 c2 L σ r h => (by cases h), fun z c1 c2 L σ r h => (by cases h)⟩
    | succ k ih =>
      refine ⟨?_, ?_⟩
      · intro z cells slots L σ r h hzk hc hs H locs ls hP hD hS hl
        rw [f_X11_start] at h
        refine lv_aload_n hx hb dX11_start_0 rfl (lv_at hl 0 rfl) ?_
        refine hg_75_10 hx hb hts in_f_X11_start_X11 hown hK hP (hts _ (List.mem_cons_of_mem _ (List.mem_append_left _ (List.mem_append_left _ (List.mem_of_getElem? (i := 0) rfl))))) dX11_start_1 ?_
        refine lv_if_ne (tgt := 15) hx hb dX11_start_4 (by decide) (fun c1 => ?_) (fun c1 => ?_)
        · rw [if_neg c1] at h
          exact ih.2 z _ _ L σ _ h hzk hc hs H locs ls hP hD hS (lv_sub hl [0, 1] rfl)
        · rw [if_pos c1] at h
          obtain rfl := Option.some.inj h
          exact vx_throw0 (cls := "java/lang/IllegalStateException") (names := ["java/lang/RuntimeException", "java/lang/Exception"]) hx hb hl0 hown (by decide) (by decide) (hts _ (List.mem_cons_of_mem _ (List.mem_append_left _ (List.mem_append_left _ (List.mem_of_getElem? (i := 1) rfl))))) (hts _ (List.mem_cons_of_mem _ (List.mem_append_left _ (List.mem_append_left _ (List.mem_of_getElem? (i := 2) rfl))))) (vx_hat (B := [.castable "java/lang/IllegalStateException" "java/lang/IllegalStateException", .declares (Bundle.init0 "java/lang/RuntimeException"), .declares (Bundle.init0 "java/lang/Exception"), .declares (Bundle.init0 Bundle.tN)]) (fun w h => hts w (List.mem_cons_of_mem _ (List.mem_append_left _ (List.mem_append_right _ (List.mem_append_left _ h))))) (by decide +kernel) (vx_c (va_Nw.use (by decide +kernel) (hT.2.2.1 _ (List.mem_of_getElem? (i := 0) rfl))) (vx_c (va_Nw.use (by decide +kernel) (hT.2.2.1 _ (List.mem_of_getElem? (i := 4) rfl))) (vx_c (va_Nw.use (by decide +kernel) (hT.2.2.1 _ (List.mem_of_getElem? (i := 5) rfl))) (vx_c (va_Nw.use (by decide +kernel) (hT.2.2.1 _ (List.mem_of_getElem? (i := 6) rfl))) vx_n))))) (fun w h => List.all_eq_true.mp (by decide +kernel : (Cond.classLink RX11 165 "java/lang/IllegalStateException" :: Cond.initialized "java/lang/IllegalStateException" :: (vx_at0 RX11 167 "java/lang/IllegalStateException" ["java/lang/RuntimeException", "java/lang/Exception"])).all vx_ot = true) w h) hT.1 hT.2.1 hS (hl.1.trans hml.symm) dX11_start_7 dX11_start_10 dX11_start_11 dX11_start_14 (fun x h => (hno x h).elim) (Nat.le_of_ble_eq_true rfl) (Nat.le_of_ble_eq_true rfl) (Nat.le_of_eq hc) (Nat.le_of_eq hs) hlocks (xt_x (n := 2) (by decide) hK hzk hP hD hS) hS.2.2 (Nat.le_of_eq hc) (Nat.le_of_eq hs)
      · intro z cells slots L σ r h hzk hc hs H locs ls hP hD hS hl
        rw [f_X11_start] at h
        refine lv_aload_n hx hb dX11_start_15 rfl (lv_at hl 0 rfl) ?_
        refine lv_iconst (v := 1) hx hb dX11_start_16 (by decide) ?_
        refine hp_75_11 hx hb hts in_f_X11_start_X11 hown hK hP hD hS (hts _ (List.mem_cons_of_mem _ (List.mem_append_left _ (List.mem_append_left _ (List.mem_of_getElem? (i := 3) rfl))))) (Or.inr rfl) dX11_start_17 (fun H locs hP hD hS => ?_)
        refine lv_aload_n hx hb dX11_start_20 rfl (lv_at hl 0 rfl) ?_
        refine hg_75_5 hx hb hts in_f_X11_start_X11 hown hK hP (hts _ (List.mem_cons_of_mem _ (List.mem_append_left _ (List.mem_append_left _ (List.mem_of_getElem? (i := 4) rfl))))) dX11_start_21 ?_
        refine lv_aload_n hx hb dX11_start_24 rfl (lv_at hl 0 rfl) ?_
        refine hg_75_8 hx hb hts in_f_X11_start_X11 hown hK hP (hts _ (List.mem_cons_of_mem _ (List.mem_append_left _ (List.mem_append_left _ (List.mem_of_getElem? (i := 5) rfl))))) dX11_start_25 ?_
        refine lv_lload_n hx hb dX11_start_28 rfl (lv_at hl 1 rfl) ?_
        obtain ⟨r1, hc1, hle1, h9⟩ := ox_ex h
        clear h
        refine kx_v (vx_runV (As := [.ref (a (pA (sCur (uI σ 7511 1)))), .long (L.2.1 1)]) (rest := []) ⟨hx, hb, hml, hown, hts⟩ (c_f_X3_open__P l hl0 dC dI cy ek a k (lJ (lB lZ 1 ((sCur (uI σ 7511 1)))) 2 ((L.2.1 1))) (uI σ 7511 1) r1 hc1 z H.size) (cwV 2 hts g_f_X11_start_X3_open__P_V168 rfl rfl rfl hd_f_X3_open__P ⟨Nat.le_of_ble_eq_true rfl, Nat.le_of_ble_eq_true rfl⟩) ⟨nb_blindF, va_recv hK hP (ci := 3) (q0 := 18) rfl rfl, (kx_pre hK hG hE hT hA hP hD hS)⟩ rfl rfl hl.1 rfl (lv_room (Nat.le_of_ble_eq_true rfl)) dX11_start_29 ⟨Nat.le_trans (Nat.add_le_add_left hle1.1 _) (Nat.le_of_eq hc), Nat.le_trans (Nat.add_le_add_left hle1.2 _) (Nat.le_of_eq hs)⟩) hK hA hzk hP hD hS (by decide) hno hlocks ?_
        rcases h9 with ⟨h00, y1, hny1, hy⟩ | ⟨h00, hy⟩
        · subst hy
          have h := hny1
          refine Or.inl ⟨h00, fun z H locs hz1 hzk hP hD hS => ?_⟩
          replace hc := (Nat.add_assoc _ _ _).trans hc
          replace hs := (Nat.add_assoc _ _ _).trans hs
          refine lv_aload_n hx hb dX11_start_32 rfl (lv_at hl 0 rfl) ?_
          refine hg_75_5 hx hb hts in_f_X11_start_X11 hown hK hP (hts _ (List.mem_cons_of_mem _ (List.mem_append_left _ (List.mem_append_left _ (List.mem_of_getElem? (i := 4) rfl))))) dX11_start_33 ?_
          refine lv_iconst (v := 0) hx hb dX11_start_36 (by decide) ?_
          obtain ⟨r2, hc2, hle2, h9⟩ := ox_ex h
          clear h
          refine kx_v (r := y1) (vx_runV (As := [.int 0]) (rest := []) ⟨hx, hb, hml, hown, hts⟩ (c_f_X3_advance l hl0 dC dI cy ek a k (lI lZ 1 0) r1.2.1 r2 hc2 z H.size) (cwV 1 hts g_f_X11_start_X3_advance_V172 rfl rfl rfl hd_f_X3_advance ⟨Nat.le_of_ble_eq_true rfl, Nat.le_of_ble_eq_true rfl⟩) ⟨nb_blindF, va_recv hK hP (ci := 3) (q0 := 18) rfl rfl, (kx_pre hK hG hE hT hA hP hD hS)⟩ rfl rfl hl.1 rfl (lv_room (Nat.le_of_ble_eq_true rfl)) dX11_start_37 ⟨Nat.le_trans (Nat.add_le_add_left hle2.1 _) (Nat.le_of_eq hc), Nat.le_trans (Nat.add_le_add_left hle2.2 _) (Nat.le_of_eq hs)⟩) hK hA hzk hP hD hS (by decide) hno hlocks ?_
          rcases h9 with ⟨h00, y2, hny2, hy⟩ | ⟨h00, hy⟩
          · subst hy
            have h := hny2
            refine Or.inl ⟨h00, fun z H locs hz2 hzk hP hD hS => ?_⟩
            replace hc := (Nat.add_assoc _ _ _).trans hc
            replace hs := (Nat.add_assoc _ _ _).trans hs
            obtain rfl := Option.some.inj h
            subst hc
            subst hs
            exact xr_v hx hb hr hK hzk hP hD hS hlocks dX11_start_40
          · subst hy
            exact Or.inr ⟨h00, rfl, hc, hs⟩
        · subst hy
          exact Or.inr ⟨h00, rfl, hc, hs⟩
  exact (blk k0).1 z 0 0 L0 σ0 r0 h0 (zk_rf _ _) ((Nat.zero_add _).trans hmc) ((Nat.zero_add _).trans hms) s.heap [] ls hP hD hS hl
/-! X11_state -/
def f_X11_state : Nat → Nat → LV → CS → Option RS
  | 0, _, _, _ => none
  | k + 1, 0, L, σ => if ((L.1 1)) < 0 then (f_X11_state k 1 L σ) else (if ((L.1 1)) ≤ 9 then (f_X11_state k 2 L σ) else (f_X11_state k 1 L σ))
  | k + 1, 1, L, σ => some ((3, 0), σ, (1, 6))
  | k + 1, 2, L, σ => ox (f_X11_wantRun k 0 lZ σ) (fun r1 => if ((L.1 1)) = (0 : Int32) then (f_X11_state k 3 L r1.2.1) else (if ((L.1 1)) = (1 : Int32) then (f_X11_state k 4 L r1.2.1) else (if ((L.1 1)) = (2 : Int32) then (f_X11_state k 5 L r1.2.1) else (if ((L.1 1)) = (3 : Int32) then (f_X11_state k 6 L r1.2.1) else (if ((L.1 1)) = (4 : Int32) then (f_X11_state k 7 L r1.2.1) else (if ((L.1 1)) = (5 : Int32) then (f_X11_state k 8 L r1.2.1) else (if ((L.1 1)) = (6 : Int32) then (f_X11_state k 9 L r1.2.1) else (if ((L.1 1)) = (7 : Int32) then (f_X11_state k 10 L r1.2.1) else (if ((L.1 1)) = (8 : Int32) then (f_X11_state k 11 L r1.2.1) else (f_X11_state k 12 L r1.2.1))))))))))
  | k + 1, 3, L, σ => some ((0, (σ.1 1903)), σ, (0, 0))
  | k + 1, 4, L, σ => some ((0, (σ.1 1915)), σ, (0, 0))
  | k + 1, 5, L, σ => some ((0, (σ.1 1906)), σ, (0, 0))
  | k + 1, 6, L, σ => some ((0, (σ.1 1904)), σ, (0, 0))
  | k + 1, 7, L, σ => some ((0, (σ.1 1908)), σ, (0, 0))
  | k + 1, 8, L, σ => some ((0, (σ.1 1912)), σ, (0, 0))
  | k + 1, 9, L, σ => some ((0, (((σ.1 1909)) + ((σ.1 1911)))), σ, (0, 0))
  | k + 1, 10, L, σ => some ((0, (σ.1 1914)), σ, (0, 0))
  | k + 1, 11, L, σ => some ((0, (σ.1 1907)), σ, (0, 0))
  | k + 1, 12, L, σ => some ((0, (σ.1 1905)), σ, (0, 0))
  | _ + 1, _ + 13, _, _ => none
def o_f_X11_state : List Cond := [.classLink RX11 194 "java/lang/IndexOutOfBoundsException", .initialized "java/lang/IndexOutOfBoundsException", .methodLink RX11 175 yX11_wantRun, .instanceMethod yX11_wantRun, .selects RX11 yX11_wantRun yX11_wantRun, .initialized RX11, .fieldLink RX11 65 "SetHouse" "machine" "LSetHouse$Machine;"]
theorem o_f_X11_state_good : o_f_X11_state.all goodWord = true := by decide +kernel
def p_f_X11_state : List Cond := o_f_X11_state ++ (((vx_at0 RX11 196 "java/lang/IndexOutOfBoundsException" ["java/lang/RuntimeException", "java/lang/Exception"]).filter goodWord) ++ ((.code yX11_wantRun cX11_wantRun 1 none :: p_f_X11_wantRun) ++ []))
theorem p_f_X11_state_good : p_f_X11_state.all goodWord = true := nb_all2 o_f_X11_state_good (nb_all2 (nb_fg _) (nb_all2 (nb_allc (by decide +kernel) p_f_X11_wantRun_good) rfl))
def w_f_X11_state : List Cond := .code yX11_state cX11_state 3 (some .int) :: (p_f_X11_state ++ fC)
theorem w_f_X11_state_good : w_f_X11_state.all goodWord = true := nb_allc (by decide +kernel) (nb_all2 p_f_X11_state_good fC_good)
theorem in_f_X11_state_X3 : ∀ w ∈ wsX30, w ∈ w_f_X11_state := fun _ h => List.mem_cons_of_mem _ (List.mem_append_right _ (List.mem_append_right _ (List.mem_append_right _ (List.mem_append_right _ (List.mem_append_left _ h)))))
theorem in_f_X11_state_X8 : ∀ w ∈ wsX80, w ∈ w_f_X11_state := fun _ h => List.mem_cons_of_mem _ (List.mem_append_right _ (List.mem_append_right _ (List.mem_append_right _ (List.mem_append_right _ (List.mem_append_right _ (List.mem_append_right _ (List.mem_append_right _ (List.mem_append_right _ (List.mem_append_left _ h)))))))))
theorem in_f_X11_state_X11 : ∀ w ∈ wsX110, w ∈ w_f_X11_state := fun _ h => List.mem_cons_of_mem _ (List.mem_append_right _ (List.mem_append_right _ (List.mem_append_right _ (List.mem_append_right _ (List.mem_append_right _ (List.mem_append_right _ (List.mem_append_right _ (List.mem_append_right _ (List.mem_append_right _ (List.mem_append_right _ (List.mem_append_right _ h)))))))))))
theorem hd_f_X11_state : yX11_state.cls = RX11 ∧ yX11_state.cls ≠ "java/lang/invoke/MethodHandle" ∧ yX11_state.cls ≠ "java/lang/invoke/VarHandle" ∧ (parseMethodDescriptor yX11_state.desc).map (fun d => d.parameters.length) = some 1 := by decide +kernel
theorem gg_f_X11_state_X11_wantRun : GoodIn w_f_X11_state w_f_X11_wantRun := goodIn_sub (fun w h => (List.mem_cons.mp h).elim (fun e => (List.mem_cons_of_mem _ (List.mem_append_left _ (List.mem_append_right _ (List.mem_append_right _ (List.mem_append_left _ (List.mem_cons.mpr (Or.inl e)))))))) (fun h => (List.mem_append.mp h).elim (fun h => (List.mem_cons_of_mem _ (List.mem_append_left _ (List.mem_append_right _ (List.mem_append_right _ (List.mem_append_left _ (List.mem_cons_of_mem _ h))))))) (fun h => List.mem_cons_of_mem _ (List.mem_append_right _ h)))) w_f_X11_wantRun_good
theorem g_f_X11_state_X11_wantRun_V175 : GoodIn w_f_X11_state (wsV RX11 175 RX11 yX11_wantRun w_f_X11_wantRun) := goodIn_app (nb_g4 (List.mem_cons_of_mem _ (List.mem_append_left _ (List.mem_append_left _ (List.mem_of_getElem? (i := 2) rfl)))) (List.mem_cons_of_mem _ (List.mem_append_left _ (List.mem_append_left _ (List.mem_of_getElem? (i := 3) rfl)))) (List.mem_cons_of_mem _ (List.mem_append_left _ (List.mem_append_left _ (List.mem_of_getElem? (i := 4) rfl)))) (List.mem_cons_of_mem _ (List.mem_append_left _ (List.mem_append_left _ (List.mem_of_getElem? (i := 5) rfl)))) (by decide +kernel)) gg_f_X11_state_X11_wantRun
set_option maxHeartbeats 40000000 in
set_option maxRecDepth 100000 in
theorem c_f_X11_state (l : Launch) (hl0 : l.stackTraces = false) (dC : Nat → ClassId) (dI : Nat → Nat → Nat) (cy : Nat → ClassId) (ek a : Nat → Nat) (k0 : Nat) (L0 : LV) (σ0 : CS) (r0 : RS) (h0 : f_X11_state k0 0 L0 σ0 = some r0) (z : Nat → Nat) (sz : Nat) : vx_Met l yX11_state w_f_X11_state ({ frames := 7, cells := r0.2.2.1, slots := r0.2.2.2, locals := 120 }) (va_Pc [.ref (a 75), .int (L0.1 1)] (nInF (dC, dI) cy ek sz (vC cy a z σ0))) (xI dC dI cy a (va_A (vC cy a z σ0) sz) [] z r0) (xX dC dI cy a (va_A (vC cy a z σ0) sz) [] z r0) r0.2.2.1 r0.2.2.2 (va_A (vC cy a z σ0) sz) := by
  refine vx_ofW (cc := cX11_state) (maxL := 3) (ret := (some .int)) (by decide) rfl ?_
  intro p e s m args below meth c s₁ B hml hno hv
  obtain ⟨rfl, ⟨⟨hsz, hP, hK, hD0, hG⟩, hE⟩, hT⟩ := hv
  have hx := B.exec
  have hb := B.bytes
  have hr := B.returns
  have hts := atoms_spec (ws := w_f_X11_state) B.pre
  have hown : s.vm.findClass RX11 = some m.cls := findClass_of_methodNamed B.named
  have hlocks := B.notSynchronized
  subst hsz
  have hD := hD0.self (sz := s.heap.size)
  generalize hAe : va_A (vC cy a z σ0) s.heap.size = A at hD hE hT ⊢
  have hA : ∀ q : Nat, s.heap.size ≤ q → A q := fun q h => by rw [← hAe]; exact Or.inr h
  have hS : va_S A s.heap s.heap [] := va_S.rf
  have hl := lv_entry ([.ref (a 75), .int (L0.1 1)]) (n := 3) (Nat.le_of_ble_eq_true rfl)
  rw [lg_entry_eq]
  generalize (lg_sl ([.ref (a 75), .int (L0.1 1)]) ++ List.replicate (3 - (lg_sl ([.ref (a 75), .int (L0.1 1)])).length) Slot.unset).toArray = ls at hl ⊢
  have hl : lv_has ls 3 [(0, .ref (a 75)), (1, .int (L0.1 1))] := hl
  generalize hmc : r0.2.2.1 = mc
  generalize hms : r0.2.2.2 = ms
  have blk : ∀ k : Nat, (bX p l e (headSpec w_f_X11_state ({ frames := 7, cells := mc, slots := ms, locals := 120 })).room s m #[.ref (a 75), .int (L0.1 1)] below meth c dC dI cy a A (fun r => vx_MQ below (xI dC dI cy a A [] z r) (xX dC dI cy a A [] z r) #[.ref (a 75), .int (L0.1 1)] s mc ms A) [] z mc ms 3 (f_X11_state k 0) (fun z L => [(0, .ref (a 75)), (1, .int (L.1 1))]) 0 (fun z L => [])) ∧ (bX p l e (headSpec w_f_X11_state ({ frames := 7, cells := mc, slots := ms, locals := 120 })).room s m #[.ref (a 75), .int (L0.1 1)] below meth c dC dI cy a A (fun r => vx_MQ below (xI dC dI cy a A [] z r) (xX dC dI cy a A [] z r) #[.ref (a 75), .int (L0.1 1)] s mc ms A) [] z mc ms 3 (f_X11_state k 1) (fun z L => []) 10 (fun z L => [])) ∧ (bX p l e (headSpec w_f_X11_state ({ frames := 7, cells := mc, slots := ms, locals := 120 })).room s m #[.ref (a 75), .int (L0.1 1)] below meth c dC dI cy a A (fun r => vx_MQ below (xI dC dI cy a A [] z r) (xX dC dI cy a A [] z r) #[.ref (a 75), .int (L0.1 1)] s mc ms A) [] z mc ms 3 (f_X11_state k 2) (fun z L => [(0, .ref (a 75)), (1, .int (L.1 1))]) 18 (fun z L => [])) ∧ (bX p l e (headSpec w_f_X11_state ({ frames := 7, cells := mc, slots := ms, locals := 120 })).room s m #[.ref (a 75), .int (L0.1 1)] below meth c dC dI cy a A (fun r => vx_MQ below (xI dC dI cy a A [] z r) (xX dC dI cy a A [] z r) #[.ref (a 75), .int (L0.1 1)] s mc ms A) [] z mc ms 3 (f_X11_state k 3) (fun z L => [(2, .ref (a 19))]) 80 (fun z L => [])) ∧ (bX p l e (headSpec w_f_X11_state ({ frames := 7, cells := mc, slots := ms, locals := 120 })).room s m #[.ref (a 75), .int (L0.1 1)] below meth c dC dI cy a A (fun r => vx_MQ below (xI dC dI cy a A [] z r) (xX dC dI cy a A [] z r) #[.ref (a 75), .int (L0.1 1)] s mc ms A) [] z mc ms 3 (f_X11_state k 4) (fun z L => [(2, .ref (a 19))]) 85 (fun z L => [])) ∧ (bX p l e (headSpec w_f_X11_state ({ frames := 7, cells := mc, slots := ms, locals := 120 })).room s m #[.ref (a 75), .int (L0.1 1)] below meth c dC dI cy a A (fun r => vx_MQ below (xI dC dI cy a A [] z r) (xX dC dI cy a A [] z r) #[.ref (a 75), .int (L0.1 1)] s mc ms A) [] z mc ms 3 (f_X11_state k 5) (fun z L => [(2, .ref (a 19))]) 90 (fun z L => [])) ∧ (bX p l e (headSpec w_f_X11_state ({ frames := 7, cells := mc, slots := ms, locals := 120 })).room s m #[.ref (a 75), .int (L0.1 1)] below meth c dC dI cy a A (fun r => vx_MQ below (xI dC dI cy a A [] z r) (xX dC dI cy a A [] z r) #[.ref (a 75), .int (L0.1 1)] s mc ms A) [] z mc ms 3 (f_X11_state k 6) (fun z L => [(2, .ref (a 19))]) 95 (fun z L => [])) ∧ (bX p l e (headSpec w_f_X11_state ({ frames := 7, cells := mc, slots := ms, locals := 120 })).room s m #[.ref (a 75), .int (L0.1 1)] below meth c dC dI cy a A (fun r => vx_MQ below (xI dC dI cy a A [] z r) (xX dC dI cy a A [] z r) #[.ref (a 75), .int (L0.1 1)] s mc ms A) [] z mc ms 3 (f_X11_state k 7) (fun z L => [(2, .ref (a 19))]) 100 (fun z L => [])) ∧ (bX p l e (headSpec w_f_X11_state ({ frames := 7, cells := mc, slots := ms, locals := 120 })).room s m #[.ref (a 75), .int (L0.1 1)] below meth c dC dI cy a A (fun r => vx_MQ below (xI dC dI cy a A [] z r) (xX dC dI cy a A [] z r) #[.ref (a 75), .int (L0.1 1)] s mc ms A) [] z mc ms 3 (f_X11_state k 8) (fun z L => [(2, .ref (a 19))]) 105 (fun z L => [])) ∧ (bX p l e (headSpec w_f_X11_state ({ frames := 7, cells := mc, slots := ms, locals := 120 })).room s m #[.ref (a 75), .int (L0.1 1)] below meth c dC dI cy a A (fun r => vx_MQ below (xI dC dI cy a A [] z r) (xX dC dI cy a A [] z r) #[.ref (a 75), .int (L0.1 1)] s mc ms A) [] z mc ms 3 (f_X11_state k 9) (fun z L => [(2, .ref (a 19))]) 110 (fun z L => [])) ∧ (bX p l e (headSpec w_f_X11_state ({ frames := 7, cells := mc, slots := ms, locals := 120 })).room s m #[.ref (a 75), .int (L0.1 1)] below meth c dC dI cy a A (fun r => vx_MQ below (xI dC dI cy a A [] z r) (xX dC dI cy a A [] z r) #[.ref (a 75), .int (L0.1 1)] s mc ms A) [] z mc ms 3 (f_X11_state k 10) (fun z L => [(2, .ref (a 19))]) 120 (fun z L => [])) ∧ (bX p l e (headSpec w_f_X11_state ({ frames := 7, cells := mc, slots := ms, locals := 120 })).room s m #[.ref (a 75), .int (L0.1 1)] below meth c dC dI cy a A (fun r => vx_MQ below (xI dC dI cy a A [] z r) (xX dC dI cy a A [] z r) #[.ref (a 75), .int (L0.1 1)] s mc ms A) [] z mc ms 3 (f_X11_state k 11) (fun z L => [(2, .ref (a 19))]) 125 (fun z L => [])) ∧ (bX p l e (headSpec w_f_X11_state ({ frames := 7, cells := mc, slots := ms, locals := 120 })).room s m #[.ref (a 75), .int (L0.1 1)] below meth c dC dI cy a A (fun r => vx_MQ below (xI dC dI cy a A [] z r) (xX dC dI cy a A [] z r) #[.ref (a 75), .int (L0.1 1)] s mc ms A) [] z mc ms 3 (f_X11_state k 12) (fun z L => [(2, .ref (a 19))]) 130 (fun z L => [])) := by
    intro k
    induction k with
    | zero => exact ⟨fun z c1 c2 L σ r h => (by cases h), fun z c1 c2 L σ r h => (by cases h), fun z c1 c2 L σ r h => (by cases h), fun z c1 c2 L σ r h => (by cases h), fun z c1 c2 L σ r h => (by cases h), fun z c1 c2 L σ r h => (by cases h), fun z c1 c2 L σ r h => (by cases h), fun z c1 c2 L σ r h => (by cases h), fun z c1 c2 L σ r h => (by cases h), fun z c1 c2 L σ r h => (by cases h), fun z c1 c2 L σ r h => (by cases h), fun z c1 c2 L σ r h => (by cases h), fun z c1 c2 L σ r h => (by cases h)⟩
    | succ k ih =>
      refine ⟨?_, ?_, ?_, ?_, ?_, ?_, ?_, ?_, ?_, ?_, ?_, ?_, ?_⟩
      · intro z cells slots L σ r h hzk hc hs H locs ls hP hD hS hl
        rw [f_X11_state] at h
        refine lv_iload_n hx hb dX11_state_0 rfl (lv_at hl 1 rfl) ?_
        refine lv_if_lt (tgt := 10) hx hb dX11_state_1 (by decide) (fun c1 => ?_) (fun c1 => ?_)
        · rw [if_pos c1] at h
          exact ih.2.1 z _ _ L σ _ h hzk hc hs H locs ls hP hD hS (lv_sub hl [] rfl)
        · rw [if_neg c1] at h
          refine lv_iload_n hx hb dX11_state_4 rfl (lv_at hl 1 rfl) ?_
          refine lv_bipush (v := 9) hx hb dX11_state_5 (by decide) ?_
          refine lv_icmp_le (tgt := 18) hx hb dX11_state_7 (by decide) (fun c2 => ?_) (fun c2 => ?_)
          · rw [if_pos c2] at h
            exact ih.2.2.1 z _ _ L σ _ h hzk hc hs H locs ls hP hD hS (lv_sub hl [0, 1] rfl)
          · rw [if_neg c2] at h
            exact ih.2.1 z _ _ L σ _ h hzk hc hs H locs ls hP hD hS (lv_sub hl [] rfl)
      · intro z cells slots L σ r h hzk hc hs H locs ls hP hD hS hl
        rw [f_X11_state] at h
        obtain rfl := Option.some.inj h
        exact vx_throw0 (cls := "java/lang/IndexOutOfBoundsException") (names := ["java/lang/RuntimeException", "java/lang/Exception"]) hx hb hl0 hown (by decide) (by decide) (hts _ (List.mem_cons_of_mem _ (List.mem_append_left _ (List.mem_append_left _ (List.mem_of_getElem? (i := 0) rfl))))) (hts _ (List.mem_cons_of_mem _ (List.mem_append_left _ (List.mem_append_left _ (List.mem_of_getElem? (i := 1) rfl))))) (vx_hat (B := [.castable "java/lang/IndexOutOfBoundsException" "java/lang/IndexOutOfBoundsException", .declares (Bundle.init0 "java/lang/RuntimeException"), .declares (Bundle.init0 "java/lang/Exception"), .declares (Bundle.init0 Bundle.tN)]) (fun w h => hts w (List.mem_cons_of_mem _ (List.mem_append_left _ (List.mem_append_right _ (List.mem_append_left _ h))))) (by decide +kernel) (vx_c (va_Nw.use (by decide +kernel) (hT.2.2.1 _ (List.mem_of_getElem? (i := 2) rfl))) (vx_c (va_Nw.use (by decide +kernel) (hT.2.2.1 _ (List.mem_of_getElem? (i := 4) rfl))) (vx_c (va_Nw.use (by decide +kernel) (hT.2.2.1 _ (List.mem_of_getElem? (i := 5) rfl))) (vx_c (va_Nw.use (by decide +kernel) (hT.2.2.1 _ (List.mem_of_getElem? (i := 6) rfl))) vx_n))))) (fun w h => List.all_eq_true.mp (by decide +kernel : (Cond.classLink RX11 194 "java/lang/IndexOutOfBoundsException" :: Cond.initialized "java/lang/IndexOutOfBoundsException" :: (vx_at0 RX11 196 "java/lang/IndexOutOfBoundsException" ["java/lang/RuntimeException", "java/lang/Exception"])).all vx_ot = true) w h) hT.1 hT.2.1 hS (hl.1.trans hml.symm) dX11_state_10 dX11_state_13 dX11_state_14 dX11_state_17 (fun x h => (hno x h).elim) (Nat.le_of_ble_eq_true rfl) (Nat.le_of_ble_eq_true rfl) (Nat.le_of_eq hc) (Nat.le_of_eq hs) hlocks (xt_x (n := 3) (by decide) hK hzk hP hD hS) hS.2.2 (Nat.le_of_eq hc) (Nat.le_of_eq hs)
      · intro z cells slots L σ r h hzk hc hs H locs ls hP hD hS hl
        rw [f_X11_state] at h
        refine lv_aload_n hx hb dX11_state_18 rfl (lv_at hl 0 rfl) ?_
        obtain ⟨r1, hc1, hle1, h9⟩ := ox_ex h
        clear h
        refine kx_v (vx_runV (As := []) (rest := []) ⟨hx, hb, hml, hown, hts⟩ (c_f_X11_wantRun l hl0 dC dI cy ek a k lZ σ r1 hc1 z H.size) (cwV 0 hts g_f_X11_state_X11_wantRun_V175 rfl rfl rfl hd_f_X11_wantRun ⟨Nat.le_of_ble_eq_true rfl, Nat.le_of_ble_eq_true rfl⟩) ⟨nb_blindF, va_recv hK hP (ci := 10) (q0 := 75) rfl rfl, (kx_pre hK hG hE hT hA hP hD hS)⟩ rfl rfl hl.1 rfl (lv_room (Nat.le_of_ble_eq_true rfl)) dX11_state_19 ⟨Nat.le_trans (Nat.add_le_add_left hle1.1 _) (Nat.le_of_eq hc), Nat.le_trans (Nat.add_le_add_left hle1.2 _) (Nat.le_of_eq hs)⟩) hK hA hzk hP hD hS (by decide) hno hlocks ?_
        rcases h9 with ⟨h00, y1, hny1, hy⟩ | ⟨h00, hy⟩
        · subst hy
          have h := hny1
          refine Or.inl ⟨h00, fun u H locs hz1 hzk hP hD hS => ?_⟩
          obtain rfl := (zk_nil hz1).symm
          replace hc := (Nat.add_assoc _ _ _).trans hc
          replace hs := (Nat.add_assoc _ _ _).trans hs
          refine lv_aload_n hx hb dX11_state_22 rfl (lv_at hl 0 rfl) ?_
          refine hg_75_5 hx hb hts in_f_X11_state_X11 hown hK hP (hts _ (List.mem_cons_of_mem _ (List.mem_append_left _ (List.mem_append_left _ (List.mem_of_getElem? (i := 6) rfl))))) dX11_state_23 ?_
          refine hg_18_5n hx hb hts in_f_X11_state_X3 hown hK hP (va_Nw.use rfl (hG.1 _ (List.mem_of_getElem? (i := 47) rfl))) dX11_state_26 ?_
          refine lv_astore_n (lv' := [(2, .ref (a 19)), (0, .ref (a 75)), (1, .int (L.1 1))]) hx hb dX11_state_29 rfl hl (by decide) rfl (fun ls hl => ?_)
          refine lv_iload_n hx hb dX11_state_30 rfl (lv_at hl 2 rfl) ?_
          by_cases q2 : ((L.1 1)) = (0 : Int32)
          · rw [if_pos q2] at h
            refine lv_tableIn (off := 49) (tgt := 80) hx hb dX11_state_31 (by rw [q2]; decide) (by rw [q2]; decide) (by rw [q2]; decide) (by decide) ?_
            exact ih.2.2.2.1 z _ _ L r1.2.1 _ h hzk hc hs H locs ls hP hD hS (lv_sub hl [0] rfl)
          · rw [if_neg q2] at h
            by_cases q3 : ((L.1 1)) = (1 : Int32)
            · rw [if_pos q3] at h
              refine lv_tableIn (off := 54) (tgt := 85) hx hb dX11_state_31 (by rw [q3]; decide) (by rw [q3]; decide) (by rw [q3]; decide) (by decide) ?_
              exact ih.2.2.2.2.1 z _ _ L r1.2.1 _ h hzk hc hs H locs ls hP hD hS (lv_sub hl [0] rfl)
            · rw [if_neg q3] at h
              by_cases q4 : ((L.1 1)) = (2 : Int32)
              · rw [if_pos q4] at h
                refine lv_tableIn (off := 59) (tgt := 90) hx hb dX11_state_31 (by rw [q4]; decide) (by rw [q4]; decide) (by rw [q4]; decide) (by decide) ?_
                exact ih.2.2.2.2.2.1 z _ _ L r1.2.1 _ h hzk hc hs H locs ls hP hD hS (lv_sub hl [0] rfl)
              · rw [if_neg q4] at h
                by_cases q5 : ((L.1 1)) = (3 : Int32)
                · rw [if_pos q5] at h
                  refine lv_tableIn (off := 64) (tgt := 95) hx hb dX11_state_31 (by rw [q5]; decide) (by rw [q5]; decide) (by rw [q5]; decide) (by decide) ?_
                  exact ih.2.2.2.2.2.2.1 z _ _ L r1.2.1 _ h hzk hc hs H locs ls hP hD hS (lv_sub hl [0] rfl)
                · rw [if_neg q5] at h
                  by_cases q6 : ((L.1 1)) = (4 : Int32)
                  · rw [if_pos q6] at h
                    refine lv_tableIn (off := 69) (tgt := 100) hx hb dX11_state_31 (by rw [q6]; decide) (by rw [q6]; decide) (by rw [q6]; decide) (by decide) ?_
                    exact ih.2.2.2.2.2.2.2.1 z _ _ L r1.2.1 _ h hzk hc hs H locs ls hP hD hS (lv_sub hl [0] rfl)
                  · rw [if_neg q6] at h
                    by_cases q7 : ((L.1 1)) = (5 : Int32)
                    · rw [if_pos q7] at h
                      refine lv_tableIn (off := 74) (tgt := 105) hx hb dX11_state_31 (by rw [q7]; decide) (by rw [q7]; decide) (by rw [q7]; decide) (by decide) ?_
                      exact ih.2.2.2.2.2.2.2.2.1 z _ _ L r1.2.1 _ h hzk hc hs H locs ls hP hD hS (lv_sub hl [0] rfl)
                    · rw [if_neg q7] at h
                      by_cases q8 : ((L.1 1)) = (6 : Int32)
                      · rw [if_pos q8] at h
                        refine lv_tableIn (off := 79) (tgt := 110) hx hb dX11_state_31 (by rw [q8]; decide) (by rw [q8]; decide) (by rw [q8]; decide) (by decide) ?_
                        exact ih.2.2.2.2.2.2.2.2.2.1 z _ _ L r1.2.1 _ h hzk hc hs H locs ls hP hD hS (lv_sub hl [0] rfl)
                      · rw [if_neg q8] at h
                        by_cases q9 : ((L.1 1)) = (7 : Int32)
                        · rw [if_pos q9] at h
                          refine lv_tableIn (off := 89) (tgt := 120) hx hb dX11_state_31 (by rw [q9]; decide) (by rw [q9]; decide) (by rw [q9]; decide) (by decide) ?_
                          exact ih.2.2.2.2.2.2.2.2.2.2.1 z _ _ L r1.2.1 _ h hzk hc hs H locs ls hP hD hS (lv_sub hl [0] rfl)
                        · rw [if_neg q9] at h
                          by_cases q10 : ((L.1 1)) = (8 : Int32)
                          · rw [if_pos q10] at h
                            refine lv_tableIn (off := 94) (tgt := 125) hx hb dX11_state_31 (by rw [q10]; decide) (by rw [q10]; decide) (by rw [q10]; decide) (by decide) ?_
                            exact ih.2.2.2.2.2.2.2.2.2.2.2.1 z _ _ L r1.2.1 _ h hzk hc hs H locs ls hP hD hS (lv_sub hl [0] rfl)
                          · rw [if_neg q10] at h
                            have nq2 : ¬ ((L.1 1)).toInt = 0 := nb_ti q2 rfl
                            have nq3 : ¬ ((L.1 1)).toInt = 1 := nb_ti q3 rfl
                            have nq4 : ¬ ((L.1 1)).toInt = 2 := nb_ti q4 rfl
                            have nq5 : ¬ ((L.1 1)).toInt = 3 := nb_ti q5 rfl
                            have nq6 : ¬ ((L.1 1)).toInt = 4 := nb_ti q6 rfl
                            have nq7 : ¬ ((L.1 1)).toInt = 5 := nb_ti q7 rfl
                            have nq8 : ¬ ((L.1 1)).toInt = 6 := nb_ti q8 rfl
                            have nq9 : ¬ ((L.1 1)).toInt = 7 := nb_ti q9 rfl
                            have nq10 : ¬ ((L.1 1)).toInt = 8 := nb_ti q10 rfl
                            refine lv_tableOut (tgt := 130) hx hb dX11_state_31 (by omega) (by decide) ?_
                            exact ih.2.2.2.2.2.2.2.2.2.2.2.2 z _ _ L r1.2.1 _ h hzk hc hs H locs ls hP hD hS (lv_sub hl [0] rfl)
        · subst hy
          exact Or.inr ⟨h00, rfl, hc, hs⟩
      · intro z cells slots L σ r h hzk hc hs H locs ls hP hD hS hl
        rw [f_X11_state] at h
        refine lv_aload_n hx hb dX11_state_80 rfl (lv_at hl 0 rfl) ?_
        refine hg_19_3n hx hb hts in_f_X11_state_X8 hown hK hP (va_Nw.use rfl (hG.1 _ (List.mem_of_getElem? (i := 14) rfl))) dX11_state_81 ?_
        obtain rfl := Option.some.inj h
        subst hc
        subst hs
        exact xr_i hx hb hr hK hzk hP hD hS hlocks dX11_state_84
      · intro z cells slots L σ r h hzk hc hs H locs ls hP hD hS hl
        rw [f_X11_state] at h
        refine lv_aload_n hx hb dX11_state_85 rfl (lv_at hl 0 rfl) ?_
        refine hg_19_15n hx hb hts in_f_X11_state_X8 hown hK hP (va_Nw.use rfl (hG.1 _ (List.mem_of_getElem? (i := 39) rfl))) dX11_state_86 ?_
        obtain rfl := Option.some.inj h
        subst hc
        subst hs
        exact xr_i hx hb hr hK hzk hP hD hS hlocks dX11_state_89
      · intro z cells slots L σ r h hzk hc hs H locs ls hP hD hS hl
        rw [f_X11_state] at h
        refine lv_aload_n hx hb dX11_state_90 rfl (lv_at hl 0 rfl) ?_
        refine hg_19_6n hx hb hts in_f_X11_state_X8 hown hK hP (va_Nw.use rfl (hG.1 _ (List.mem_of_getElem? (i := 20) rfl))) dX11_state_91 ?_
        obtain rfl := Option.some.inj h
        subst hc
        subst hs
        exact xr_i hx hb hr hK hzk hP hD hS hlocks dX11_state_94
      · intro z cells slots L σ r h hzk hc hs H locs ls hP hD hS hl
        rw [f_X11_state] at h
        refine lv_aload_n hx hb dX11_state_95 rfl (lv_at hl 0 rfl) ?_
        refine hg_19_4n hx hb hts in_f_X11_state_X8 hown hK hP (va_Nw.use rfl (hG.1 _ (List.mem_of_getElem? (i := 16) rfl))) dX11_state_96 ?_
        obtain rfl := Option.some.inj h
        subst hc
        subst hs
        exact xr_i hx hb hr hK hzk hP hD hS hlocks dX11_state_99
      · intro z cells slots L σ r h hzk hc hs H locs ls hP hD hS hl
        rw [f_X11_state] at h
        refine lv_aload_n hx hb dX11_state_100 rfl (lv_at hl 0 rfl) ?_
        refine hg_19_8n hx hb hts in_f_X11_state_X8 hown hK hP (va_Nw.use rfl (hG.1 _ (List.mem_of_getElem? (i := 24) rfl))) dX11_state_101 ?_
        obtain rfl := Option.some.inj h
        subst hc
        subst hs
        exact xr_i hx hb hr hK hzk hP hD hS hlocks dX11_state_104
      · intro z cells slots L σ r h hzk hc hs H locs ls hP hD hS hl
        rw [f_X11_state] at h
        refine lv_aload_n hx hb dX11_state_105 rfl (lv_at hl 0 rfl) ?_
        refine hg_19_12n hx hb hts in_f_X11_state_X8 hown hK hP (va_Nw.use rfl (hG.1 _ (List.mem_of_getElem? (i := 33) rfl))) dX11_state_106 ?_
        obtain rfl := Option.some.inj h
        subst hc
        subst hs
        exact xr_i hx hb hr hK hzk hP hD hS hlocks dX11_state_109
      · intro z cells slots L σ r h hzk hc hs H locs ls hP hD hS hl
        rw [f_X11_state] at h
        refine lv_aload_n hx hb dX11_state_110 rfl (lv_at hl 0 rfl) ?_
        refine hg_19_9n hx hb hts in_f_X11_state_X8 hown hK hP (va_Nw.use rfl (hG.1 _ (List.mem_of_getElem? (i := 27) rfl))) dX11_state_111 ?_
        refine lv_aload_n hx hb dX11_state_114 rfl (lv_at hl 0 rfl) ?_
        refine hg_19_11n hx hb hts in_f_X11_state_X8 hown hK hP (va_Nw.use rfl (hG.1 _ (List.mem_of_getElem? (i := 31) rfl))) dX11_state_115 ?_
        refine lv_iadd hx hb dX11_state_118 ?_
        obtain rfl := Option.some.inj h
        subst hc
        subst hs
        exact xr_i hx hb hr hK hzk hP hD hS hlocks dX11_state_119
      · intro z cells slots L σ r h hzk hc hs H locs ls hP hD hS hl
        rw [f_X11_state] at h
        refine lv_aload_n hx hb dX11_state_120 rfl (lv_at hl 0 rfl) ?_
        refine hg_19_14n hx hb hts in_f_X11_state_X8 hown hK hP (va_Nw.use rfl (hG.1 _ (List.mem_of_getElem? (i := 37) rfl))) dX11_state_121 ?_
        obtain rfl := Option.some.inj h
        subst hc
        subst hs
        exact xr_i hx hb hr hK hzk hP hD hS hlocks dX11_state_124
      · intro z cells slots L σ r h hzk hc hs H locs ls hP hD hS hl
        rw [f_X11_state] at h
        refine lv_aload_n hx hb dX11_state_125 rfl (lv_at hl 0 rfl) ?_
        refine hg_19_7n hx hb hts in_f_X11_state_X8 hown hK hP (va_Nw.use rfl (hG.1 _ (List.mem_of_getElem? (i := 22) rfl))) dX11_state_126 ?_
        obtain rfl := Option.some.inj h
        subst hc
        subst hs
        exact xr_i hx hb hr hK hzk hP hD hS hlocks dX11_state_129
      · intro z cells slots L σ r h hzk hc hs H locs ls hP hD hS hl
        rw [f_X11_state] at h
        refine lv_aload_n hx hb dX11_state_130 rfl (lv_at hl 0 rfl) ?_
        refine hg_19_5n hx hb hts in_f_X11_state_X8 hown hK hP (va_Nw.use rfl (hG.1 _ (List.mem_of_getElem? (i := 18) rfl))) dX11_state_131 ?_
        obtain rfl := Option.some.inj h
        subst hc
        subst hs
        exact xr_i hx hb hr hK hzk hP hD hS hlocks dX11_state_134
  exact (blk k0).1 z 0 0 L0 σ0 r0 h0 (zk_rf _ _) ((Nat.zero_add _).trans hmc) ((Nat.zero_add _).trans hms) s.heap [] ls hP hD hS hl
/-! X11_step -/
def f_X11_step : Nat → Nat → LV → CS → Option RS
  | 0, _, _, _ => none
  | k + 1, 0, L, σ => ox (f_X11_wantRun k 0 lZ σ) (fun r1 => if ((L.1 1)) < 0 then (f_X11_step k 1 L r1.2.1) else (if ((L.1 1)) ≤ 20000 then (f_X11_step k 2 L r1.2.1) else (f_X11_step k 1 L r1.2.1)))
  | k + 1, 1, L, σ => some ((1, 0), σ, (1, 6))
  | k + 1, 2, L, σ => ox (f_X3_advance k 0 (lI lZ 1 ((L.1 1))) σ) (fun r1 => some ((0, (r1.2.1.1 1907)), r1.2.1, (0, 0)))
  | _ + 1, _ + 3, _, _ => none
def o_f_X11_step : List Cond := [.methodLink RX11 175 yX11_wantRun, .instanceMethod yX11_wantRun, .selects RX11 yX11_wantRun yX11_wantRun, .initialized RX11, .classLink RX11 127 "java/lang/IllegalArgumentException", .initialized "java/lang/IllegalArgumentException", .fieldLink RX11 65 "SetHouse" "machine" "LSetHouse$Machine;", .methodLink RX11 172 yX3_advance, .instanceMethod yX3_advance, .selects RX3 yX3_advance yX3_advance, .initialized RX3]
theorem o_f_X11_step_good : o_f_X11_step.all goodWord = true := by decide +kernel
def p_f_X11_step : List Cond := o_f_X11_step ++ ((.code yX11_wantRun cX11_wantRun 1 none :: p_f_X11_wantRun) ++ (((vx_at0 RX11 129 "java/lang/IllegalArgumentException" ["java/lang/RuntimeException", "java/lang/Exception"]).filter goodWord) ++ ((.code yX3_advance cX3_advance 2 none :: p_f_X3_advance) ++ [])))
theorem p_f_X11_step_good : p_f_X11_step.all goodWord = true := nb_all2 o_f_X11_step_good (nb_all2 (nb_allc (by decide +kernel) p_f_X11_wantRun_good) (nb_all2 (nb_fg _) (nb_all2 (nb_allc (by decide +kernel) p_f_X3_advance_good) rfl)))
def w_f_X11_step : List Cond := .code yX11_step cX11_step 2 (some .int) :: (p_f_X11_step ++ fC)
theorem w_f_X11_step_good : w_f_X11_step.all goodWord = true := nb_allc (by decide +kernel) (nb_all2 p_f_X11_step_good fC_good)
theorem in_f_X11_step_X3 : ∀ w ∈ wsX30, w ∈ w_f_X11_step := fun _ h => List.mem_cons_of_mem _ (List.mem_append_right _ (List.mem_append_right _ (List.mem_append_right _ (List.mem_append_right _ (List.mem_append_left _ h)))))
theorem in_f_X11_step_X8 : ∀ w ∈ wsX80, w ∈ w_f_X11_step := fun _ h => List.mem_cons_of_mem _ (List.mem_append_right _ (List.mem_append_right _ (List.mem_append_right _ (List.mem_append_right _ (List.mem_append_right _ (List.mem_append_right _ (List.mem_append_right _ (List.mem_append_right _ (List.mem_append_left _ h)))))))))
theorem in_f_X11_step_X11 : ∀ w ∈ wsX110, w ∈ w_f_X11_step := fun _ h => List.mem_cons_of_mem _ (List.mem_append_right _ (List.mem_append_right _ (List.mem_append_right _ (List.mem_append_right _ (List.mem_append_right _ (List.mem_append_right _ (List.mem_append_right _ (List.mem_append_right _ (List.mem_append_right _ (List.mem_append_right _ (List.mem_append_right _ h)))))))))))
theorem hd_f_X11_step : yX11_step.cls = RX11 ∧ yX11_step.cls ≠ "java/lang/invoke/MethodHandle" ∧ yX11_step.cls ≠ "java/lang/invoke/VarHandle" ∧ (parseMethodDescriptor yX11_step.desc).map (fun d => d.parameters.length) = some 1 := by decide +kernel
theorem gg_f_X11_step_X11_wantRun : GoodIn w_f_X11_step w_f_X11_wantRun := goodIn_sub (fun w h => (List.mem_cons.mp h).elim (fun e => (List.mem_cons_of_mem _ (List.mem_append_left _ (List.mem_append_right _ (List.mem_append_left _ (List.mem_cons.mpr (Or.inl e))))))) (fun h => (List.mem_append.mp h).elim (fun h => (List.mem_cons_of_mem _ (List.mem_append_left _ (List.mem_append_right _ (List.mem_append_left _ (List.mem_cons_of_mem _ h)))))) (fun h => List.mem_cons_of_mem _ (List.mem_append_right _ h)))) w_f_X11_wantRun_good
theorem g_f_X11_step_X11_wantRun_V175 : GoodIn w_f_X11_step (wsV RX11 175 RX11 yX11_wantRun w_f_X11_wantRun) := goodIn_app (nb_g4 (List.mem_cons_of_mem _ (List.mem_append_left _ (List.mem_append_left _ (List.mem_of_getElem? (i := 0) rfl)))) (List.mem_cons_of_mem _ (List.mem_append_left _ (List.mem_append_left _ (List.mem_of_getElem? (i := 1) rfl)))) (List.mem_cons_of_mem _ (List.mem_append_left _ (List.mem_append_left _ (List.mem_of_getElem? (i := 2) rfl)))) (List.mem_cons_of_mem _ (List.mem_append_left _ (List.mem_append_left _ (List.mem_of_getElem? (i := 3) rfl)))) (by decide +kernel)) gg_f_X11_step_X11_wantRun
theorem gg_f_X11_step_X3_advance : GoodIn w_f_X11_step w_f_X3_advance := goodIn_sub (fun w h => (List.mem_cons.mp h).elim (fun e => (List.mem_cons_of_mem _ (List.mem_append_left _ (List.mem_append_right _ (List.mem_append_right _ (List.mem_append_right _ (List.mem_append_left _ (List.mem_cons.mpr (Or.inl e))))))))) (fun h => (List.mem_append.mp h).elim (fun h => (List.mem_cons_of_mem _ (List.mem_append_left _ (List.mem_append_right _ (List.mem_append_right _ (List.mem_append_right _ (List.mem_append_left _ (List.mem_cons_of_mem _ h)))))))) (fun h => List.mem_cons_of_mem _ (List.mem_append_right _ h)))) w_f_X3_advance_good
theorem g_f_X11_step_X3_advance_V172 : GoodIn w_f_X11_step (wsV RX11 172 RX3 yX3_advance w_f_X3_advance) := goodIn_app (nb_g4 (List.mem_cons_of_mem _ (List.mem_append_left _ (List.mem_append_left _ (List.mem_of_getElem? (i := 7) rfl)))) (List.mem_cons_of_mem _ (List.mem_append_left _ (List.mem_append_left _ (List.mem_of_getElem? (i := 8) rfl)))) (List.mem_cons_of_mem _ (List.mem_append_left _ (List.mem_append_left _ (List.mem_of_getElem? (i := 9) rfl)))) (List.mem_cons_of_mem _ (List.mem_append_left _ (List.mem_append_left _ (List.mem_of_getElem? (i := 10) rfl)))) (by decide +kernel)) gg_f_X11_step_X3_advance
set_option maxHeartbeats 40000000 in
set_option maxRecDepth 100000 in
theorem c_f_X11_step (l : Launch) (hl0 : l.stackTraces = false) (dC : Nat → ClassId) (dI : Nat → Nat → Nat) (cy : Nat → ClassId) (ek a : Nat → Nat) (k0 : Nat) (L0 : LV) (σ0 : CS) (r0 : RS) (h0 : f_X11_step k0 0 L0 σ0 = some r0) (z : Nat → Nat) (sz : Nat) : vx_Met l yX11_step w_f_X11_step ({ frames := 90, cells := r0.2.2.1, slots := r0.2.2.2, locals := 2222 }) (va_Pc [.ref (a 75), .int (L0.1 1)] (nInF (dC, dI) cy ek sz (vC cy a z σ0))) (xI dC dI cy a (va_A (vC cy a z σ0) sz) [1, 2, 3, 20, 21, 22, 26] z r0) (xX dC dI cy a (va_A (vC cy a z σ0) sz) [1, 2, 3, 20, 21, 22, 26] z r0) r0.2.2.1 r0.2.2.2 (va_A (vC cy a z σ0) sz) := by
  refine vx_ofW (cc := cX11_step) (maxL := 2) (ret := (some .int)) (by decide) rfl ?_
  intro p e s m args below meth c s₁ B hml hno hv
  obtain ⟨rfl, ⟨⟨hsz, hP, hK, hD0, hG⟩, hE⟩, hT⟩ := hv
  have hx := B.exec
  have hb := B.bytes
  have hr := B.returns
  have hts := atoms_spec (ws := w_f_X11_step) B.pre
  have hown : s.vm.findClass RX11 = some m.cls := findClass_of_methodNamed B.named
  have hlocks := B.notSynchronized
  subst hsz
  have hD := hD0.self (sz := s.heap.size)
  generalize hAe : va_A (vC cy a z σ0) s.heap.size = A at hD hE hT ⊢
  have hA : ∀ q : Nat, s.heap.size ≤ q → A q := fun q h => by rw [← hAe]; exact Or.inr h
  have hS : va_S A s.heap s.heap [] := va_S.rf
  have hl := lv_entry ([.ref (a 75), .int (L0.1 1)]) (n := 2) (Nat.le_of_ble_eq_true rfl)
  rw [lg_entry_eq]
  generalize (lg_sl ([.ref (a 75), .int (L0.1 1)]) ++ List.replicate (2 - (lg_sl ([.ref (a 75), .int (L0.1 1)])).length) Slot.unset).toArray = ls at hl ⊢
  have hl : lv_has ls 2 [(0, .ref (a 75)), (1, .int (L0.1 1))] := hl
  generalize hmc : r0.2.2.1 = mc
  generalize hms : r0.2.2.2 = ms
  have blk : ∀ k : Nat, (bX p l e (headSpec w_f_X11_step ({ frames := 90, cells := mc, slots := ms, locals := 2222 })).room s m #[.ref (a 75), .int (L0.1 1)] below meth c dC dI cy a A (fun r => vx_MQ below (xI dC dI cy a A [1, 2, 3, 20, 21, 22, 26] z r) (xX dC dI cy a A [1, 2, 3, 20, 21, 22, 26] z r) #[.ref (a 75), .int (L0.1 1)] s mc ms A) [1, 2, 3, 20, 21, 22, 26] z mc ms 2 (f_X11_step k 0) (fun z L => [(0, .ref (a 75)), (1, .int (L.1 1))]) 0 (fun z L => [])) ∧ (bX p l e (headSpec w_f_X11_step ({ frames := 90, cells := mc, slots := ms, locals := 2222 })).room s m #[.ref (a 75), .int (L0.1 1)] below meth c dC dI cy a A (fun r => vx_MQ below (xI dC dI cy a A [1, 2, 3, 20, 21, 22, 26] z r) (xX dC dI cy a A [1, 2, 3, 20, 21, 22, 26] z r) #[.ref (a 75), .int (L0.1 1)] s mc ms A) [1, 2, 3, 20, 21, 22, 26] z mc ms 2 (f_X11_step k 1) (fun z L => []) 15 (fun z L => [])) ∧ (bX p l e (headSpec w_f_X11_step ({ frames := 90, cells := mc, slots := ms, locals := 2222 })).room s m #[.ref (a 75), .int (L0.1 1)] below meth c dC dI cy a A (fun r => vx_MQ below (xI dC dI cy a A [1, 2, 3, 20, 21, 22, 26] z r) (xX dC dI cy a A [1, 2, 3, 20, 21, 22, 26] z r) #[.ref (a 75), .int (L0.1 1)] s mc ms A) [1, 2, 3, 20, 21, 22, 26] z mc ms 2 (f_X11_step k 2) (fun z L => [(0, .ref (a 75)), (1, .int (L.1 1))]) 23 (fun z L => [])) := by
    intro k
    induction k with
    | zero => exact ⟨fun z c1 c2 L σ r h => (by cases h), fun z c1 c2 L σ r h => (by cases h), fun z c1 c2 L σ r h => (by cases h)⟩
    | succ k ih =>
      refine ⟨?_, ?_, ?_⟩
      · intro z cells slots L σ r h hzk hc hs H locs ls hP hD hS hl
        rw [f_X11_step] at h
        refine lv_aload_n hx hb dX11_step_0 rfl (lv_at hl 0 rfl) ?_
        obtain ⟨r1, hc1, hle1, h9⟩ := ox_ex h
        clear h
        refine kx_v (vx_runV (As := []) (rest := []) ⟨hx, hb, hml, hown, hts⟩ (c_f_X11_wantRun l hl0 dC dI cy ek a k lZ σ r1 hc1 z H.size) (cwV 0 hts g_f_X11_step_X11_wantRun_V175 rfl rfl rfl hd_f_X11_wantRun ⟨Nat.le_of_ble_eq_true rfl, Nat.le_of_ble_eq_true rfl⟩) ⟨nb_blindF, va_recv hK hP (ci := 10) (q0 := 75) rfl rfl, (kx_pre hK hG hE hT hA hP hD hS)⟩ rfl rfl hl.1 rfl (lv_room (Nat.le_of_ble_eq_true rfl)) dX11_step_1 ⟨Nat.le_trans (Nat.add_le_add_left hle1.1 _) (Nat.le_of_eq hc), Nat.le_trans (Nat.add_le_add_left hle1.2 _) (Nat.le_of_eq hs)⟩) hK hA hzk hP hD hS (by decide) hno hlocks ?_
        rcases h9 with ⟨h00, y1, hny1, hy⟩ | ⟨h00, hy⟩
        · subst hy
          have h := hny1
          refine Or.inl ⟨h00, fun u H locs hz1 hzk hP hD hS => ?_⟩
          obtain rfl := (zk_nil hz1).symm
          replace hc := (Nat.add_assoc _ _ _).trans hc
          replace hs := (Nat.add_assoc _ _ _).trans hs
          refine lv_iload_n hx hb dX11_step_4 rfl (lv_at hl 1 rfl) ?_
          refine lv_if_lt (tgt := 15) hx hb dX11_step_5 (by decide) (fun c2 => ?_) (fun c2 => ?_)
          · rw [if_pos c2] at h
            exact ih.2.1 z _ _ L r1.2.1 _ h hzk hc hs H locs ls hP hD hS (lv_sub hl [] rfl)
          · rw [if_neg c2] at h
            refine lv_iload_n hx hb dX11_step_8 rfl (lv_at hl 1 rfl) ?_
            refine lv_sipush (v := 20000) hx hb dX11_step_9 (by decide) ?_
            refine lv_icmp_le (tgt := 23) hx hb dX11_step_12 (by decide) (fun c3 => ?_) (fun c3 => ?_)
            · rw [if_pos c3] at h
              exact ih.2.2 z _ _ L r1.2.1 _ h hzk hc hs H locs ls hP hD hS (lv_sub hl [0, 1] rfl)
            · rw [if_neg c3] at h
              exact ih.2.1 z _ _ L r1.2.1 _ h hzk hc hs H locs ls hP hD hS (lv_sub hl [] rfl)
        · subst hy
          exact Or.inr ⟨h00, rfl, hc, hs⟩
      · intro z cells slots L σ r h hzk hc hs H locs ls hP hD hS hl
        rw [f_X11_step] at h
        obtain rfl := Option.some.inj h
        exact vx_throw0 (cls := "java/lang/IllegalArgumentException") (names := ["java/lang/RuntimeException", "java/lang/Exception"]) hx hb hl0 hown (by decide) (by decide) (hts _ (List.mem_cons_of_mem _ (List.mem_append_left _ (List.mem_append_left _ (List.mem_of_getElem? (i := 4) rfl))))) (hts _ (List.mem_cons_of_mem _ (List.mem_append_left _ (List.mem_append_left _ (List.mem_of_getElem? (i := 5) rfl))))) (vx_hat (B := [.castable "java/lang/IllegalArgumentException" "java/lang/IllegalArgumentException", .declares (Bundle.init0 "java/lang/RuntimeException"), .declares (Bundle.init0 "java/lang/Exception"), .declares (Bundle.init0 Bundle.tN)]) (fun w h => hts w (List.mem_cons_of_mem _ (List.mem_append_left _ (List.mem_append_right _ (List.mem_append_right _ (List.mem_append_left _ h)))))) (by decide +kernel) (vx_c (va_Nw.use (by decide +kernel) (hT.2.2.1 _ (List.mem_of_getElem? (i := 1) rfl))) (vx_c (va_Nw.use (by decide +kernel) (hT.2.2.1 _ (List.mem_of_getElem? (i := 4) rfl))) (vx_c (va_Nw.use (by decide +kernel) (hT.2.2.1 _ (List.mem_of_getElem? (i := 5) rfl))) (vx_c (va_Nw.use (by decide +kernel) (hT.2.2.1 _ (List.mem_of_getElem? (i := 6) rfl))) vx_n))))) (fun w h => List.all_eq_true.mp (by decide +kernel : (Cond.classLink RX11 127 "java/lang/IllegalArgumentException" :: Cond.initialized "java/lang/IllegalArgumentException" :: (vx_at0 RX11 129 "java/lang/IllegalArgumentException" ["java/lang/RuntimeException", "java/lang/Exception"])).all vx_ot = true) w h) hT.1 hT.2.1 hS (hl.1.trans hml.symm) dX11_step_15 dX11_step_18 dX11_step_19 dX11_step_22 (fun x h => (hno x h).elim) (Nat.le_of_ble_eq_true rfl) (Nat.le_of_ble_eq_true rfl) (Nat.le_of_eq hc) (Nat.le_of_eq hs) hlocks (xt_x (n := 1) (by decide) hK hzk hP hD hS) hS.2.2 (Nat.le_of_eq hc) (Nat.le_of_eq hs)
      · intro z cells slots L σ r h hzk hc hs H locs ls hP hD hS hl
        rw [f_X11_step] at h
        refine lv_aload_n hx hb dX11_step_23 rfl (lv_at hl 0 rfl) ?_
        refine hg_75_5 hx hb hts in_f_X11_step_X11 hown hK hP (hts _ (List.mem_cons_of_mem _ (List.mem_append_left _ (List.mem_append_left _ (List.mem_of_getElem? (i := 6) rfl))))) dX11_step_24 ?_
        refine lv_iload_n hx hb dX11_step_27 rfl (lv_at hl 1 rfl) ?_
        obtain ⟨r1, hc1, hle1, h9⟩ := ox_ex h
        clear h
        refine kx_v (vx_runV (As := [.int (L.1 1)]) (rest := []) ⟨hx, hb, hml, hown, hts⟩ (c_f_X3_advance l hl0 dC dI cy ek a k (lI lZ 1 ((L.1 1))) σ r1 hc1 z H.size) (cwV 1 hts g_f_X11_step_X3_advance_V172 rfl rfl rfl hd_f_X3_advance ⟨Nat.le_of_ble_eq_true rfl, Nat.le_of_ble_eq_true rfl⟩) ⟨nb_blindF, va_recv hK hP (ci := 3) (q0 := 18) rfl rfl, (kx_pre hK hG hE hT hA hP hD hS)⟩ rfl rfl hl.1 rfl (lv_room (Nat.le_of_ble_eq_true rfl)) dX11_step_28 ⟨Nat.le_trans (Nat.add_le_add_left hle1.1 _) (Nat.le_of_eq hc), Nat.le_trans (Nat.add_le_add_left hle1.2 _) (Nat.le_of_eq hs)⟩) hK hA hzk hP hD hS (by decide) hno hlocks ?_
        rcases h9 with ⟨h00, y1, hny1, hy⟩ | ⟨h00, hy⟩
        · subst hy
          have h := hny1
          refine Or.inl ⟨h00, fun z H locs hz1 hzk hP hD hS => ?_⟩
          replace hc := (Nat.add_assoc _ _ _).trans hc
          replace hs := (Nat.add_assoc _ _ _).trans hs
          refine lv_aload_n hx hb dX11_step_31 rfl (lv_at hl 0 rfl) ?_
          refine hg_75_5 hx hb hts in_f_X11_step_X11 hown hK hP (hts _ (List.mem_cons_of_mem _ (List.mem_append_left _ (List.mem_append_left _ (List.mem_of_getElem? (i := 6) rfl))))) dX11_step_32 ?_
          refine hg_18_5n hx hb hts in_f_X11_step_X3 hown hK hP (va_Nw.use rfl (hG.1 _ (List.mem_of_getElem? (i := 47) rfl))) dX11_step_35 ?_
          refine hg_19_7n hx hb hts in_f_X11_step_X8 hown hK hP (va_Nw.use rfl (hG.1 _ (List.mem_of_getElem? (i := 22) rfl))) dX11_step_38 ?_
          obtain rfl := Option.some.inj h
          subst hc
          subst hs
          exact xr_i hx hb hr hK hzk hP hD hS hlocks dX11_step_41
        · subst hy
          exact Or.inr ⟨h00, rfl, hc, hs⟩
  exact (blk k0).1 z 0 0 L0 σ0 r0 h0 (zk_rf _ _) ((Nat.zero_add _).trans hmc) ((Nat.zero_add _).trans hms) s.heap [] ls hP hD hS hl
/-! X11_value -/
def f_X11_value : Nat → Nat → LV → CS → Option RS
  | 0, _, _, _ => none
  | k + 1, 0, L, σ => ox (f_X11_wantRun k 0 lZ σ) (fun r1 => ox (f_X2_rewind k 0 lZ r1.2.1) (fun r2 => ox (f_X2_advance k 0 lZ r2.2.1) (fun r3 => if ((r3.2.1.1 3702)) = 2 then (if ((r3.2.1.1 3703)) = 0 then (if ((r3.2.1.1 3704)) = ((r3.2.1.1 3701)) then (f_X11_value k 2 (lI L 100 1) r3.2.1) else (f_X11_value k 1 L r3.2.1)) else (f_X11_value k 1 L r3.2.1)) else (f_X11_value k 1 L r3.2.1))))
  | k + 1, 1, L, σ => f_X11_value k 2 (lI L 100 0) σ
  | k + 1, 2, L, σ => if ((L.1 100)) = 0 then (f_X11_value k 3 L σ) else (op (y_X7_found__P k 0 (lJ (lJ (lB lZ 0 ((sCur σ))) 1 ((σ.2.1 3705))) 3 ((σ.2.1 3706))) σ) (fun r2 => f_X11_value k 4 (lI L 100 r2.1) r2.2))
  | k + 1, 3, L, σ => f_X11_value k 4 (lI L 100 ((-1))) σ
  | k + 1, 4, L, σ => if ((L.1 100)) = ((-1)) then (f_X11_value k 5 L σ) else (if ¬ (((L.1 100)) < 0 ∨ 256 ≤ ((L.1 100)).toNatClampNeg) then (if ((σ.2.2.1 (pR7 (((sCur σ)))) ((L.1 100)).toNatClampNeg)) = 0 then (f_X11_value k 6 (lI L 2 ((L.1 100))) σ) else (f_X11_value k 5 L σ)) else none)
  | k + 1, 5, L, σ => some ((1, 0), σ, (1, 6))
  | k + 1, 6, L, σ => if ¬ (((L.1 2)) < 0 ∨ 256 ≤ ((L.1 2)).toNatClampNeg) then (op (y_X3_global k 0 (lI lZ 1 (((uI σ 3701 0).2.2.1 (pR9 (((sCur (uI σ 3701 0))))) ((L.1 2)).toNatClampNeg))) (uI σ 3701 0)) (fun r2 => ox (f_X11_showValue k 0 (lI lZ 1 r2.1) r2.2) (fun r3 => some ((0, r3.1.2), r3.2.1, (0, 0))))) else none
  | _ + 1, _ + 7, _, _ => none
def o_f_X11_value : List Cond := [.methodLink RX11 175 yX11_wantRun, .instanceMethod yX11_wantRun, .selects RX11 yX11_wantRun yX11_wantRun, .initialized RX11, .fieldLink RX11 72 "SetHouse" "lex" "LSetHouse$Lexer;", .methodLink RX11 257 yX2_rewind, .instanceMethod yX2_rewind, .selects RX2 yX2_rewind yX2_rewind, .initialized RX2, .methodLink RX11 260 yX2_advance, .instanceMethod yX2_advance, .selects RX2 yX2_advance yX2_advance, .fieldLink RX11 88 "SetHouse" "current" "LSetHouse$Program;", .methodLink RX11 278 yX7_found, .instanceMethod yX7_found, .selects RX7 yX7_found yX7_found, .initialized RX7, .classLink RX11 127 "java/lang/IllegalArgumentException", .initialized "java/lang/IllegalArgumentException", .fieldLink RX11 65 "SetHouse" "machine" "LSetHouse$Machine;", .methodLink RX11 288 yX3_global, .instanceMethod yX3_global, .selects RX3 yX3_global yX3_global, .initialized RX3, .methodLink RX11 291 yX11_showValue, .instanceMethod yX11_showValue, .selects RX11 yX11_showValue yX11_showValue]
theorem o_f_X11_value_good : o_f_X11_value.all goodWord = true := by decide +kernel
def p_f_X11_value : List Cond := o_f_X11_value ++ ((.code yX11_wantRun cX11_wantRun 1 none :: p_f_X11_wantRun) ++ ((.code yX2_rewind cX2_rewind 1 none :: p_f_X2_rewind) ++ ((.code yX2_advance cX2_advance 7 none :: p_f_X2_advance) ++ ((.code yX7_found cX7_found 6 (some .int) :: p_y_X7_found__P) ++ (((vx_at0 RX11 129 "java/lang/IllegalArgumentException" ["java/lang/RuntimeException", "java/lang/Exception"]).filter goodWord) ++ ((.code yX3_global cX3_global 2 (some .int) :: p_y_X3_global) ++ ((.code yX11_showValue cX11_showValue 2 (some .int) :: p_f_X11_showValue) ++ [])))))))
theorem p_f_X11_value_good : p_f_X11_value.all goodWord = true := nb_all2 o_f_X11_value_good (nb_all2 (nb_allc (by decide +kernel) p_f_X11_wantRun_good) (nb_all2 (nb_allc (by decide +kernel) p_f_X2_rewind_good) (nb_all2 (nb_allc (by decide +kernel) p_f_X2_advance_good) (nb_all2 (nb_allc (by decide +kernel) p_y_X7_found__P_good) (nb_all2 (nb_fg _) (nb_all2 (nb_allc (by decide +kernel) p_y_X3_global_good) (nb_all2 (nb_allc (by decide +kernel) p_f_X11_showValue_good) rfl)))))))
def w_f_X11_value : List Cond := .code yX11_value cX11_value 3 (some .int) :: (p_f_X11_value ++ fC)
theorem w_f_X11_value_good : w_f_X11_value.all goodWord = true := nb_allc (by decide +kernel) (nb_all2 p_f_X11_value_good fC_good)
theorem in_f_X11_value_X2 : ∀ w ∈ wsX20, w ∈ w_f_X11_value := fun _ h => List.mem_cons_of_mem _ (List.mem_append_right _ (List.mem_append_right _ (List.mem_append_right _ (List.mem_append_left _ h))))
theorem in_f_X11_value_X7 : ∀ w ∈ wsX70, w ∈ w_f_X11_value := fun _ h => List.mem_cons_of_mem _ (List.mem_append_right _ (List.mem_append_right _ (List.mem_append_right _ (List.mem_append_right _ (List.mem_append_right _ (List.mem_append_right _ (List.mem_append_right _ (List.mem_append_left _ h))))))))
theorem in_f_X11_value_X11 : ∀ w ∈ wsX110, w ∈ w_f_X11_value := fun _ h => List.mem_cons_of_mem _ (List.mem_append_right _ (List.mem_append_right _ (List.mem_append_right _ (List.mem_append_right _ (List.mem_append_right _ (List.mem_append_right _ (List.mem_append_right _ (List.mem_append_right _ (List.mem_append_right _ (List.mem_append_right _ (List.mem_append_right _ h)))))))))))
theorem hd_f_X11_value : yX11_value.cls = RX11 ∧ yX11_value.cls ≠ "java/lang/invoke/MethodHandle" ∧ yX11_value.cls ≠ "java/lang/invoke/VarHandle" ∧ (parseMethodDescriptor yX11_value.desc).map (fun d => d.parameters.length) = some 0 := by decide +kernel
theorem gg_f_X11_value_X11_showValue : GoodIn w_f_X11_value w_f_X11_showValue := goodIn_sub (fun w h => (List.mem_cons.mp h).elim (fun e => (List.mem_cons_of_mem _ (List.mem_append_left _ (List.mem_append_right _ (List.mem_append_right _ (List.mem_append_right _ (List.mem_append_right _ (List.mem_append_right _ (List.mem_append_right _ (List.mem_append_right _ (List.mem_append_left _ (List.mem_cons.mpr (Or.inl e))))))))))))) (fun h => (List.mem_append.mp h).elim (fun h => (List.mem_cons_of_mem _ (List.mem_append_left _ (List.mem_append_right _ (List.mem_append_right _ (List.mem_append_right _ (List.mem_append_right _ (List.mem_append_right _ (List.mem_append_right _ (List.mem_append_right _ (List.mem_append_left _ (List.mem_cons_of_mem _ h)))))))))))) (fun h => List.mem_cons_of_mem _ (List.mem_append_right _ h)))) w_f_X11_showValue_good
theorem g_f_X11_value_X11_showValue_V291 : GoodIn w_f_X11_value (wsV RX11 291 RX11 yX11_showValue w_f_X11_showValue) := goodIn_app (nb_g4 (List.mem_cons_of_mem _ (List.mem_append_left _ (List.mem_append_left _ (List.mem_of_getElem? (i := 24) rfl)))) (List.mem_cons_of_mem _ (List.mem_append_left _ (List.mem_append_left _ (List.mem_of_getElem? (i := 25) rfl)))) (List.mem_cons_of_mem _ (List.mem_append_left _ (List.mem_append_left _ (List.mem_of_getElem? (i := 26) rfl)))) (List.mem_cons_of_mem _ (List.mem_append_left _ (List.mem_append_left _ (List.mem_of_getElem? (i := 3) rfl)))) (by decide +kernel)) gg_f_X11_value_X11_showValue
theorem gg_f_X11_value_X11_wantRun : GoodIn w_f_X11_value w_f_X11_wantRun := goodIn_sub (fun w h => (List.mem_cons.mp h).elim (fun e => (List.mem_cons_of_mem _ (List.mem_append_left _ (List.mem_append_right _ (List.mem_append_left _ (List.mem_cons.mpr (Or.inl e))))))) (fun h => (List.mem_append.mp h).elim (fun h => (List.mem_cons_of_mem _ (List.mem_append_left _ (List.mem_append_right _ (List.mem_append_left _ (List.mem_cons_of_mem _ h)))))) (fun h => List.mem_cons_of_mem _ (List.mem_append_right _ h)))) w_f_X11_wantRun_good
theorem g_f_X11_value_X11_wantRun_V175 : GoodIn w_f_X11_value (wsV RX11 175 RX11 yX11_wantRun w_f_X11_wantRun) := goodIn_app (nb_g4 (List.mem_cons_of_mem _ (List.mem_append_left _ (List.mem_append_left _ (List.mem_of_getElem? (i := 0) rfl)))) (List.mem_cons_of_mem _ (List.mem_append_left _ (List.mem_append_left _ (List.mem_of_getElem? (i := 1) rfl)))) (List.mem_cons_of_mem _ (List.mem_append_left _ (List.mem_append_left _ (List.mem_of_getElem? (i := 2) rfl)))) (List.mem_cons_of_mem _ (List.mem_append_left _ (List.mem_append_left _ (List.mem_of_getElem? (i := 3) rfl)))) (by decide +kernel)) gg_f_X11_value_X11_wantRun
theorem gg_f_X11_value_X2_advance : GoodIn w_f_X11_value w_f_X2_advance := goodIn_sub (fun w h => (List.mem_cons.mp h).elim (fun e => (List.mem_cons_of_mem _ (List.mem_append_left _ (List.mem_append_right _ (List.mem_append_right _ (List.mem_append_right _ (List.mem_append_left _ (List.mem_cons.mpr (Or.inl e))))))))) (fun h => (List.mem_append.mp h).elim (fun h => (List.mem_cons_of_mem _ (List.mem_append_left _ (List.mem_append_right _ (List.mem_append_right _ (List.mem_append_right _ (List.mem_append_left _ (List.mem_cons_of_mem _ h)))))))) (fun h => List.mem_cons_of_mem _ (List.mem_append_right _ h)))) w_f_X2_advance_good
theorem g_f_X11_value_X2_advance_V260 : GoodIn w_f_X11_value (wsV RX11 260 RX2 yX2_advance w_f_X2_advance) := goodIn_app (nb_g4 (List.mem_cons_of_mem _ (List.mem_append_left _ (List.mem_append_left _ (List.mem_of_getElem? (i := 9) rfl)))) (List.mem_cons_of_mem _ (List.mem_append_left _ (List.mem_append_left _ (List.mem_of_getElem? (i := 10) rfl)))) (List.mem_cons_of_mem _ (List.mem_append_left _ (List.mem_append_left _ (List.mem_of_getElem? (i := 11) rfl)))) (List.mem_cons_of_mem _ (List.mem_append_left _ (List.mem_append_left _ (List.mem_of_getElem? (i := 8) rfl)))) (by decide +kernel)) gg_f_X11_value_X2_advance
theorem gg_f_X11_value_X2_rewind : GoodIn w_f_X11_value w_f_X2_rewind := goodIn_sub (fun w h => (List.mem_cons.mp h).elim (fun e => (List.mem_cons_of_mem _ (List.mem_append_left _ (List.mem_append_right _ (List.mem_append_right _ (List.mem_append_left _ (List.mem_cons.mpr (Or.inl e)))))))) (fun h => (List.mem_append.mp h).elim (fun h => (List.mem_cons_of_mem _ (List.mem_append_left _ (List.mem_append_right _ (List.mem_append_right _ (List.mem_append_left _ (List.mem_cons_of_mem _ h))))))) (fun h => List.mem_cons_of_mem _ (List.mem_append_right _ h)))) w_f_X2_rewind_good
theorem g_f_X11_value_X2_rewind_V257 : GoodIn w_f_X11_value (wsV RX11 257 RX2 yX2_rewind w_f_X2_rewind) := goodIn_app (nb_g4 (List.mem_cons_of_mem _ (List.mem_append_left _ (List.mem_append_left _ (List.mem_of_getElem? (i := 5) rfl)))) (List.mem_cons_of_mem _ (List.mem_append_left _ (List.mem_append_left _ (List.mem_of_getElem? (i := 6) rfl)))) (List.mem_cons_of_mem _ (List.mem_append_left _ (List.mem_append_left _ (List.mem_of_getElem? (i := 7) rfl)))) (List.mem_cons_of_mem _ (List.mem_append_left _ (List.mem_append_left _ (List.mem_of_getElem? (i := 8) rfl)))) (by decide +kernel)) gg_f_X11_value_X2_rewind
theorem gg_f_X11_value_X3_global : GoodIn w_f_X11_value w_y_X3_global := goodIn_sub (fun w h => (List.mem_cons.mp h).elim (fun e => (List.mem_cons_of_mem _ (List.mem_append_left _ (List.mem_append_right _ (List.mem_append_right _ (List.mem_append_right _ (List.mem_append_right _ (List.mem_append_right _ (List.mem_append_right _ (List.mem_append_left _ (List.mem_cons.mpr (Or.inl e)))))))))))) (fun h => (List.mem_append.mp h).elim (fun h => (List.mem_cons_of_mem _ (List.mem_append_left _ (List.mem_append_right _ (List.mem_append_right _ (List.mem_append_right _ (List.mem_append_right _ (List.mem_append_right _ (List.mem_append_right _ (List.mem_append_left _ (List.mem_cons_of_mem _ h))))))))))) (fun h => List.mem_cons_of_mem _ (List.mem_append_right _ h)))) w_y_X3_global_good
theorem g_y_X11_value_X3_global_V288 : GoodIn w_f_X11_value (wsV RX11 288 RX3 yX3_global w_y_X3_global) := goodIn_app (nb_g4 (List.mem_cons_of_mem _ (List.mem_append_left _ (List.mem_append_left _ (List.mem_of_getElem? (i := 20) rfl)))) (List.mem_cons_of_mem _ (List.mem_append_left _ (List.mem_append_left _ (List.mem_of_getElem? (i := 21) rfl)))) (List.mem_cons_of_mem _ (List.mem_append_left _ (List.mem_append_left _ (List.mem_of_getElem? (i := 22) rfl)))) (List.mem_cons_of_mem _ (List.mem_append_left _ (List.mem_append_left _ (List.mem_of_getElem? (i := 23) rfl)))) (by decide +kernel)) gg_f_X11_value_X3_global
theorem gg_f_X11_value_X7_found__P : GoodIn w_f_X11_value w_y_X7_found__P := goodIn_sub (fun w h => (List.mem_cons.mp h).elim (fun e => (List.mem_cons_of_mem _ (List.mem_append_left _ (List.mem_append_right _ (List.mem_append_right _ (List.mem_append_right _ (List.mem_append_right _ (List.mem_append_left _ (List.mem_cons.mpr (Or.inl e)))))))))) (fun h => (List.mem_append.mp h).elim (fun h => (List.mem_cons_of_mem _ (List.mem_append_left _ (List.mem_append_right _ (List.mem_append_right _ (List.mem_append_right _ (List.mem_append_right _ (List.mem_append_left _ (List.mem_cons_of_mem _ h))))))))) (fun h => List.mem_cons_of_mem _ (List.mem_append_right _ h)))) w_y_X7_found__P_good
theorem g_y_X11_value_X7_found__P_V278 : GoodIn w_f_X11_value (wsV RX11 278 RX7 yX7_found w_y_X7_found__P) := goodIn_app (nb_g4 (List.mem_cons_of_mem _ (List.mem_append_left _ (List.mem_append_left _ (List.mem_of_getElem? (i := 13) rfl)))) (List.mem_cons_of_mem _ (List.mem_append_left _ (List.mem_append_left _ (List.mem_of_getElem? (i := 14) rfl)))) (List.mem_cons_of_mem _ (List.mem_append_left _ (List.mem_append_left _ (List.mem_of_getElem? (i := 15) rfl)))) (List.mem_cons_of_mem _ (List.mem_append_left _ (List.mem_append_left _ (List.mem_of_getElem? (i := 16) rfl)))) (by decide +kernel)) gg_f_X11_value_X7_found__P
set_option maxHeartbeats 40000000 in
set_option maxRecDepth 100000 in
theorem c_f_X11_value (l : Launch) (hl0 : l.stackTraces = false) (dC : Nat → ClassId) (dI : Nat → Nat → Nat) (cy : Nat → ClassId) (ek a : Nat → Nat) (k0 : Nat) (L0 : LV) (σ0 : CS) (r0 : RS) (h0 : f_X11_value k0 0 L0 σ0 = some r0) (z : Nat → Nat) (sz : Nat) : vx_Met l yX11_value w_f_X11_value ({ frames := 88, cells := r0.2.2.1, slots := r0.2.2.2, locals := 2173 }) (va_Pc [.ref (a 75)] (nInF (dC, dI) cy ek sz (vC cy a z σ0))) (xI dC dI cy a (va_A (vC cy a z σ0) sz) [38, 66] z r0) (xX dC dI cy a (va_A (vC cy a z σ0) sz) [38, 66] z r0) r0.2.2.1 r0.2.2.2 (va_A (vC cy a z σ0) sz) := by
  refine vx_ofW (cc := cX11_value) (maxL := 3) (ret := (some .int)) (by decide) rfl ?_
  intro p e s m args below meth c s₁ B hml hno hv
  obtain ⟨rfl, ⟨⟨hsz, hP, hK, hD0, hG⟩, hE⟩, hT⟩ := hv
  have hx := B.exec
  have hb := B.bytes
  have hr := B.returns
  have hts := atoms_spec (ws := w_f_X11_value) B.pre
  have hown : s.vm.findClass RX11 = some m.cls := findClass_of_methodNamed B.named
  have hlocks := B.notSynchronized
  subst hsz
  have hD := hD0.self (sz := s.heap.size)
  generalize hAe : va_A (vC cy a z σ0) s.heap.size = A at hD hE hT ⊢
  have hA : ∀ q : Nat, s.heap.size ≤ q → A q := fun q h => by rw [← hAe]; exact Or.inr h
  have hS : va_S A s.heap s.heap [] := va_S.rf
  have hl := lv_entry ([.ref (a 75)]) (n := 3) (Nat.le_of_ble_eq_true rfl)
  rw [lg_entry_eq]
  generalize (lg_sl ([.ref (a 75)]) ++ List.replicate (3 - (lg_sl ([.ref (a 75)])).length) Slot.unset).toArray = ls at hl ⊢
  have hl : lv_has ls 3 [(0, .ref (a 75))] := hl
  generalize hmc : r0.2.2.1 = mc
  generalize hms : r0.2.2.2 = ms
  have blk : ∀ k : Nat, (bX p l e (headSpec w_f_X11_value ({ frames := 88, cells := mc, slots := ms, locals := 2173 })).room s m #[.ref (a 75)] below meth c dC dI cy a A (fun r => vx_MQ below (xI dC dI cy a A [38, 66] z r) (xX dC dI cy a A [38, 66] z r) #[.ref (a 75)] s mc ms A) [38, 66] z mc ms 3 (f_X11_value k 0) (fun z L => [(0, .ref (a 75))]) 0 (fun z L => [])) ∧ (bX p l e (headSpec w_f_X11_value ({ frames := 88, cells := mc, slots := ms, locals := 2173 })).room s m #[.ref (a 75)] below meth c dC dI cy a A (fun r => vx_MQ below (xI dC dI cy a A [38, 66] z r) (xX dC dI cy a A [38, 66] z r) #[.ref (a 75)] s mc ms A) [38, 66] z mc ms 3 (f_X11_value k 1) (fun z L => [(0, .ref (a 75))]) 60 (fun z L => [])) ∧ (bX p l e (headSpec w_f_X11_value ({ frames := 88, cells := mc, slots := ms, locals := 2173 })).room s m #[.ref (a 75)] below meth c dC dI cy a A (fun r => vx_MQ below (xI dC dI cy a A [38, 66] z r) (xX dC dI cy a A [38, 66] z r) #[.ref (a 75)] s mc ms A) [38, 66] z mc ms 3 (f_X11_value k 2) (fun z L => [(0, .ref (a 75))]) 61 (fun z L => [.int (L.1 100)])) ∧ (bX p l e (headSpec w_f_X11_value ({ frames := 88, cells := mc, slots := ms, locals := 2173 })).room s m #[.ref (a 75)] below meth c dC dI cy a A (fun r => vx_MQ below (xI dC dI cy a A [38, 66] z r) (xX dC dI cy a A [38, 66] z r) #[.ref (a 75)] s mc ms A) [38, 66] z mc ms 3 (f_X11_value k 3) (fun z L => [(0, .ref (a 75))]) 90 (fun z L => [])) ∧ (bX p l e (headSpec w_f_X11_value ({ frames := 88, cells := mc, slots := ms, locals := 2173 })).room s m #[.ref (a 75)] below meth c dC dI cy a A (fun r => vx_MQ below (xI dC dI cy a A [38, 66] z r) (xX dC dI cy a A [38, 66] z r) #[.ref (a 75)] s mc ms A) [38, 66] z mc ms 3 (f_X11_value k 4) (fun z L => [(0, .ref (a 75))]) 91 (fun z L => [.int (L.1 100)])) ∧ (bX p l e (headSpec w_f_X11_value ({ frames := 88, cells := mc, slots := ms, locals := 2173 })).room s m #[.ref (a 75)] below meth c dC dI cy a A (fun r => vx_MQ below (xI dC dI cy a A [38, 66] z r) (xX dC dI cy a A [38, 66] z r) #[.ref (a 75)] s mc ms A) [38, 66] z mc ms 3 (f_X11_value k 5) (fun z L => []) 109 (fun z L => [])) ∧ (bX p l e (headSpec w_f_X11_value ({ frames := 88, cells := mc, slots := ms, locals := 2173 })).room s m #[.ref (a 75)] below meth c dC dI cy a A (fun r => vx_MQ below (xI dC dI cy a A [38, 66] z r) (xX dC dI cy a A [38, 66] z r) #[.ref (a 75)] s mc ms A) [38, 66] z mc ms 3 (f_X11_value k 6) (fun z L => [(0, .ref (a 75)), (2, .int (L.1 2))]) 117 (fun z L => [])) := by
    intro k
    induction k with
    | zero => exact ⟨fun z c1 c2 L σ r h => (by cases h), fun z c1 c2 L σ r h => (by cases h), fun z c1 c2 L σ r h => (by cases h), fun z c1 c2 L σ r h => (by cases h), fun z c1 c2 L σ r h => (by cases h), fun z c1 c2 L σ r h => (by cases h), fun z c1 c2 L σ r h => (by cases h)⟩
    | succ k ih =>
      refine ⟨?_, ?_, ?_, ?_, ?_, ?_, ?_⟩
      · intro z cells slots L σ r h hzk hc hs H locs ls hP hD hS hl
        rw [f_X11_value] at h
        refine lv_aload_n hx hb dX11_value_0 rfl (lv_at hl 0 rfl) ?_
        obtain ⟨r1, hc1, hle1, h9⟩ := ox_ex h
        clear h
        refine kx_v (vx_runV (As := []) (rest := []) ⟨hx, hb, hml, hown, hts⟩ (c_f_X11_wantRun l hl0 dC dI cy ek a k lZ σ r1 hc1 z H.size) (cwV 0 hts g_f_X11_value_X11_wantRun_V175 rfl rfl rfl hd_f_X11_wantRun ⟨Nat.le_of_ble_eq_true rfl, Nat.le_of_ble_eq_true rfl⟩) ⟨nb_blindF, va_recv hK hP (ci := 10) (q0 := 75) rfl rfl, (kx_pre hK hG hE hT hA hP hD hS)⟩ rfl rfl hl.1 rfl (lv_room (Nat.le_of_ble_eq_true rfl)) dX11_value_1 ⟨Nat.le_trans (Nat.add_le_add_left hle1.1 _) (Nat.le_of_eq hc), Nat.le_trans (Nat.add_le_add_left hle1.2 _) (Nat.le_of_eq hs)⟩) hK hA hzk hP hD hS (by decide) hno hlocks ?_
        rcases h9 with ⟨h00, y1, hny1, hy⟩ | ⟨h00, hy⟩
        · subst hy
          have h := hny1
          refine Or.inl ⟨h00, fun u H locs hz1 hzk hP hD hS => ?_⟩
          obtain rfl := (zk_nil hz1).symm
          replace hc := (Nat.add_assoc _ _ _).trans hc
          replace hs := (Nat.add_assoc _ _ _).trans hs
          refine lv_aload_n hx hb dX11_value_4 rfl (lv_at hl 0 rfl) ?_
          refine hg_75_6 hx hb hts in_f_X11_value_X11 hown hK hP (hts _ (List.mem_cons_of_mem _ (List.mem_append_left _ (List.mem_append_left _ (List.mem_of_getElem? (i := 4) rfl))))) dX11_value_5 ?_
          obtain ⟨r2, hc2, hle2, h9⟩ := ox_ex h
          clear h
          refine kx_v (r := y1) (vx_runV (As := []) (rest := []) ⟨hx, hb, hml, hown, hts⟩ (c_f_X2_rewind l hl0 dC dI cy ek a k lZ r1.2.1 r2 hc2 z H.size) (cwV 0 hts g_f_X11_value_X2_rewind_V257 rfl rfl rfl hd_f_X2_rewind ⟨Nat.le_of_ble_eq_true rfl, Nat.le_of_ble_eq_true rfl⟩) ⟨nb_blindF, va_recv hK hP (ci := 2) (q0 := 37) rfl rfl, (kx_pre hK hG hE hT hA hP hD hS)⟩ rfl rfl hl.1 rfl (lv_room (Nat.le_of_ble_eq_true rfl)) dX11_value_8 ⟨Nat.le_trans (Nat.add_le_add_left hle2.1 _) (Nat.le_of_eq hc), Nat.le_trans (Nat.add_le_add_left hle2.2 _) (Nat.le_of_eq hs)⟩) hK hA hzk hP hD hS (by decide) hno hlocks ?_
          rcases h9 with ⟨h00, y2, hny2, hy⟩ | ⟨h00, hy⟩
          · subst hy
            have h := hny2
            refine Or.inl ⟨h00, fun z H locs hz2 hzk hP hD hS => ?_⟩
            replace hc := (Nat.add_assoc _ _ _).trans hc
            replace hs := (Nat.add_assoc _ _ _).trans hs
            refine lv_aload_n hx hb dX11_value_11 rfl (lv_at hl 0 rfl) ?_
            refine hg_75_6 hx hb hts in_f_X11_value_X11 hown hK hP (hts _ (List.mem_cons_of_mem _ (List.mem_append_left _ (List.mem_append_left _ (List.mem_of_getElem? (i := 4) rfl))))) dX11_value_12 ?_
            obtain ⟨r3, hc3, hle3, h9⟩ := ox_ex h
            clear h
            refine kx_v (r := y2) (vx_runV (As := []) (rest := []) ⟨hx, hb, hml, hown, hts⟩ (c_f_X2_advance l hl0 dC dI cy ek a k lZ r2.2.1 r3 hc3 z H.size) (cwV 0 hts g_f_X11_value_X2_advance_V260 rfl rfl rfl hd_f_X2_advance ⟨Nat.le_of_ble_eq_true rfl, Nat.le_of_ble_eq_true rfl⟩) ⟨nb_blindF, va_recv hK hP (ci := 2) (q0 := 37) rfl rfl, (kx_pre hK hG hE hT hA hP hD hS)⟩ rfl rfl hl.1 rfl (lv_room (Nat.le_of_ble_eq_true rfl)) dX11_value_15 ⟨Nat.le_trans (Nat.add_le_add_left hle3.1 _) (Nat.le_of_eq hc), Nat.le_trans (Nat.add_le_add_left hle3.2 _) (Nat.le_of_eq hs)⟩) hK hA hzk hP hD hS (by decide) hno hlocks ?_
            rcases h9 with ⟨h00, y3, hny3, hy⟩ | ⟨h00, hy⟩
            · subst hy
              have h := hny3
              refine Or.inl ⟨h00, fun u H locs hz3 hzk hP hD hS => ?_⟩
              obtain rfl := (zk_nil hz3).symm
              replace hc := (Nat.add_assoc _ _ _).trans hc
              replace hs := (Nat.add_assoc _ _ _).trans hs
              refine lv_aload_n hx hb dX11_value_18 rfl (lv_at hl 0 rfl) ?_
              refine hg_75_6 hx hb hts in_f_X11_value_X11 hown hK hP (hts _ (List.mem_cons_of_mem _ (List.mem_append_left _ (List.mem_append_left _ (List.mem_of_getElem? (i := 4) rfl))))) dX11_value_19 ?_
              refine hg_37_2n hx hb hts in_f_X11_value_X2 hown hK hP (va_Nw.use rfl (hG.1 _ (List.mem_of_getElem? (i := 53) rfl))) dX11_value_22 ?_
              refine lv_iconst (v := 2) hx hb dX11_value_25 (by decide) ?_
              refine lv_icmp_ne (tgt := 60) hx hb dX11_value_26 (by decide) (fun c4 => ?_) (fun c4 => ?_)
              · rw [if_neg c4] at h
                exact ih.2.1 z _ _ L r3.2.1 _ h hzk hc hs H locs ls hP hD hS (lv_sub hl [0] rfl)
              · rw [if_pos c4] at h
                refine lv_aload_n hx hb dX11_value_29 rfl (lv_at hl 0 rfl) ?_
                refine hg_75_6 hx hb hts in_f_X11_value_X11 hown hK hP (hts _ (List.mem_cons_of_mem _ (List.mem_append_left _ (List.mem_append_left _ (List.mem_of_getElem? (i := 4) rfl))))) dX11_value_30 ?_
                refine hg_37_3n hx hb hts in_f_X11_value_X2 hown hK hP (va_Nw.use rfl (hG.1 _ (List.mem_of_getElem? (i := 55) rfl))) dX11_value_33 ?_
                refine lv_if_ne (tgt := 60) hx hb dX11_value_36 (by decide) (fun c5 => ?_) (fun c5 => ?_)
                · rw [if_neg c5] at h
                  exact ih.2.1 z _ _ L r3.2.1 _ h hzk hc hs H locs ls hP hD hS (lv_sub hl [0] rfl)
                · rw [if_pos c5] at h
                  refine lv_aload_n hx hb dX11_value_39 rfl (lv_at hl 0 rfl) ?_
                  refine hg_75_6 hx hb hts in_f_X11_value_X11 hown hK hP (hts _ (List.mem_cons_of_mem _ (List.mem_append_left _ (List.mem_append_left _ (List.mem_of_getElem? (i := 4) rfl))))) dX11_value_40 ?_
                  refine hg_37_4n hx hb hts in_f_X11_value_X2 hown hK hP (va_Nw.use rfl (hG.1 _ (List.mem_of_getElem? (i := 56) rfl))) dX11_value_43 ?_
                  refine lv_aload_n hx hb dX11_value_46 rfl (lv_at hl 0 rfl) ?_
                  refine hg_75_6 hx hb hts in_f_X11_value_X11 hown hK hP (hts _ (List.mem_cons_of_mem _ (List.mem_append_left _ (List.mem_append_left _ (List.mem_of_getElem? (i := 4) rfl))))) dX11_value_47 ?_
                  refine hg_37_1n hx hb hts in_f_X11_value_X2 hown hK hP (va_Nw.use rfl (hG.1 _ (List.mem_of_getElem? (i := 51) rfl))) dX11_value_50 ?_
                  refine lv_icmp_ne (tgt := 60) hx hb dX11_value_53 (by decide) (fun c6 => ?_) (fun c6 => ?_)
                  · rw [if_neg c6] at h
                    exact ih.2.1 z _ _ L r3.2.1 _ h hzk hc hs H locs ls hP hD hS (lv_sub hl [0] rfl)
                  · rw [if_pos c6] at h
                    refine lv_iconst (v := 1) hx hb dX11_value_56 (by decide) ?_
                    refine lv_goto (tgt := 61) hx hb dX11_value_57 (by decide) ?_
                    exact ih.2.2.1 z _ _ (lI L 100 1) r3.2.1 _ h hzk hc hs H locs ls hP hD hS (lv_sub hl [0] rfl)
            · subst hy
              exact Or.inr ⟨h00, rfl, hc, hs⟩
          · subst hy
            exact Or.inr ⟨h00, rfl, hc, hs⟩
        · subst hy
          exact Or.inr ⟨h00, rfl, hc, hs⟩
      · intro z cells slots L σ r h hzk hc hs H locs ls hP hD hS hl
        rw [f_X11_value] at h
        refine lv_iconst (v := 0) hx hb dX11_value_60 (by decide) ?_
        exact ih.2.2.1 z _ _ (lI L 100 0) σ _ h hzk hc hs H locs ls hP hD hS (lv_sub hl [0] rfl)
      · intro z cells slots L σ r h hzk hc hs H locs ls hP hD hS hl
        rw [f_X11_value] at h
        refine lv_istore_n (lv' := [(1, .int (L.1 100)), (0, .ref (a 75))]) hx hb dX11_value_61 rfl hl (by decide) rfl (fun ls hl => ?_)
        refine lv_iload_n hx hb dX11_value_62 rfl (lv_at hl 0 rfl) ?_
        refine lv_if_eq (tgt := 90) hx hb dX11_value_63 (by decide) (fun c1 => ?_) (fun c1 => ?_)
        · rw [if_pos c1] at h
          exact ih.2.2.2.1 z _ _ L σ _ h hzk hc hs H locs ls hP hD hS (lv_sub hl [1] rfl)
        · rw [if_neg c1] at h
          refine lv_aload_n hx hb dX11_value_66 rfl (lv_at hl 1 rfl) ?_
          refine hg_75_8 hx hb hts in_f_X11_value_X11 hown hK hP (hts _ (List.mem_cons_of_mem _ (List.mem_append_left _ (List.mem_append_left _ (List.mem_of_getElem? (i := 12) rfl))))) dX11_value_67 ?_
          refine lv_aload_n hx hb dX11_value_70 rfl (lv_at hl 1 rfl) ?_
          refine hg_75_6 hx hb hts in_f_X11_value_X11 hown hK hP (hts _ (List.mem_cons_of_mem _ (List.mem_append_left _ (List.mem_append_left _ (List.mem_of_getElem? (i := 4) rfl))))) dX11_value_71 ?_
          refine hg_37_5n hx hb hts in_f_X11_value_X2 hown hK hP (va_Nw.use rfl (hG.1 _ (List.mem_of_getElem? (i := 59) rfl))) dX11_value_74 ?_
          refine lv_aload_n hx hb dX11_value_77 rfl (lv_at hl 1 rfl) ?_
          refine hg_75_6 hx hb hts in_f_X11_value_X11 hown hK hP (hts _ (List.mem_cons_of_mem _ (List.mem_append_left _ (List.mem_append_left _ (List.mem_of_getElem? (i := 4) rfl))))) dX11_value_78 ?_
          refine hg_37_6n hx hb hts in_f_X11_value_X2 hown hK hP (va_Nw.use rfl (hG.1 _ (List.mem_of_getElem? (i := 61) rfl))) dX11_value_81 ?_
          obtain ⟨r2, hc2, h⟩ := op_ex h
          refine kc_i (va_runV (As := [.long (σ.2.1 3705), .long (σ.2.1 3706)]) (rest := []) ⟨hx, hb, hml, hown, hts⟩ (c_y_X7_found__P l dC dI cy a z k (lJ (lJ (lB lZ 0 ((sCur σ))) 1 ((σ.2.1 3705))) 3 ((σ.2.1 3706))) σ r2 hc2 H.size) (cwV 2 hts g_y_X11_value_X7_found__P_V278 rfl rfl rfl hd_y_X7_found__P ⟨Nat.le_of_ble_eq_true rfl, Nat.le_of_ble_eq_true rfl⟩) ⟨nb_blind, recvP ((sCur σ)) hK hP, (kb_pre hK hG hP hD)⟩ rfl rfl hl.1 rfl (lv_room (Nat.le_of_ble_eq_true rfl)) dX11_value_84 ⟨(Nat.le_trans (Nat.le_add_right _ _) (Nat.le_of_eq hc)), (Nat.le_trans (Nat.le_add_right _ _) (Nat.le_of_eq hs))⟩) hA hP hD hS (fun H locs hP hD hS => ?_)
          refine lv_goto (tgt := 91) hx hb dX11_value_87 (by decide) ?_
          exact ih.2.2.2.2.1 z _ _ (lI L 100 r2.1) r2.2 _ h hzk hc hs H locs ls hP hD hS (lv_sub hl [1] rfl)
      · intro z cells slots L σ r h hzk hc hs H locs ls hP hD hS hl
        rw [f_X11_value] at h
        refine lv_iconst (v := (-1)) hx hb dX11_value_90 (by decide) ?_
        exact ih.2.2.2.2.1 z _ _ (lI L 100 ((-1))) σ _ h hzk hc hs H locs ls hP hD hS (lv_sub hl [0] rfl)
      · intro z cells slots L σ r h hzk hc hs H locs ls hP hD hS hl
        rw [f_X11_value] at h
        refine lv_istore_n (lv' := [(2, .int (L.1 100)), (0, .ref (a 75))]) hx hb dX11_value_91 rfl hl (by decide) rfl (fun ls hl => ?_)
        refine lv_iload_n hx hb dX11_value_92 rfl (lv_at hl 0 rfl) ?_
        refine lv_iconst (v := (-1)) hx hb dX11_value_93 (by decide) ?_
        refine lv_icmp_eq (tgt := 109) hx hb dX11_value_94 (by decide) (fun c1 => ?_) (fun c1 => ?_)
        · rw [if_pos c1] at h
          exact ih.2.2.2.2.2.1 z _ _ L σ _ h hzk hc hs H locs ls hP hD hS (lv_sub hl [] rfl)
        · rw [if_neg c1] at h
          refine lv_aload_n hx hb dX11_value_97 rfl (lv_at hl 1 rfl) ?_
          refine hg_75_8 hx hb hts in_f_X11_value_X11 hown hK hP (hts _ (List.mem_cons_of_mem _ (List.mem_append_left _ (List.mem_append_left _ (List.mem_of_getElem? (i := 12) rfl))))) dX11_value_98 ?_
          refine hg_P_7n ((sCur σ)) hx hb hts in_f_X11_value_X7 hown hK hP (va_Nw.use rfl (hG.1 _ (List.mem_of_getElem? (i := 76) rfl))) dX11_value_101 ?_
          refine lv_iload_n hx hb dX11_value_104 rfl (lv_at hl 0 rfl) ?_
          obtain ⟨q2, h⟩ := kr_ite1 h
          refine hl_P7 (((sCur σ))) hx hb hK hP q2 dX11_value_105 ?_
          refine lv_if_eq (tgt := 117) hx hb dX11_value_106 (by decide) (fun c3 => ?_) (fun c3 => ?_)
          · rw [if_pos c3] at h
            exact ih.2.2.2.2.2.2 z _ _ (lI L 2 ((L.1 100))) σ _ h hzk hc hs H locs ls hP hD hS (lv_sub hl [1, 0] rfl)
          · rw [if_neg c3] at h
            exact ih.2.2.2.2.2.1 z _ _ L σ _ h hzk hc hs H locs ls hP hD hS (lv_sub hl [] rfl)
      · intro z cells slots L σ r h hzk hc hs H locs ls hP hD hS hl
        rw [f_X11_value] at h
        obtain rfl := Option.some.inj h
        exact vx_throw0 (cls := "java/lang/IllegalArgumentException") (names := ["java/lang/RuntimeException", "java/lang/Exception"]) hx hb hl0 hown (by decide) (by decide) (hts _ (List.mem_cons_of_mem _ (List.mem_append_left _ (List.mem_append_left _ (List.mem_of_getElem? (i := 17) rfl))))) (hts _ (List.mem_cons_of_mem _ (List.mem_append_left _ (List.mem_append_left _ (List.mem_of_getElem? (i := 18) rfl))))) (vx_hat (B := [.castable "java/lang/IllegalArgumentException" "java/lang/IllegalArgumentException", .declares (Bundle.init0 "java/lang/RuntimeException"), .declares (Bundle.init0 "java/lang/Exception"), .declares (Bundle.init0 Bundle.tN)]) (fun w h => hts w (List.mem_cons_of_mem _ (List.mem_append_left _ (List.mem_append_right _ (List.mem_append_right _ (List.mem_append_right _ (List.mem_append_right _ (List.mem_append_right _ (List.mem_append_left _ h))))))))) (by decide +kernel) (vx_c (va_Nw.use (by decide +kernel) (hT.2.2.1 _ (List.mem_of_getElem? (i := 1) rfl))) (vx_c (va_Nw.use (by decide +kernel) (hT.2.2.1 _ (List.mem_of_getElem? (i := 4) rfl))) (vx_c (va_Nw.use (by decide +kernel) (hT.2.2.1 _ (List.mem_of_getElem? (i := 5) rfl))) (vx_c (va_Nw.use (by decide +kernel) (hT.2.2.1 _ (List.mem_of_getElem? (i := 6) rfl))) vx_n))))) (fun w h => List.all_eq_true.mp (by decide +kernel : (Cond.classLink RX11 127 "java/lang/IllegalArgumentException" :: Cond.initialized "java/lang/IllegalArgumentException" :: (vx_at0 RX11 129 "java/lang/IllegalArgumentException" ["java/lang/RuntimeException", "java/lang/Exception"])).all vx_ot = true) w h) hT.1 hT.2.1 hS (hl.1.trans hml.symm) dX11_value_109 dX11_value_112 dX11_value_113 dX11_value_116 (fun x h => (hno x h).elim) (Nat.le_of_ble_eq_true rfl) (Nat.le_of_ble_eq_true rfl) (Nat.le_of_eq hc) (Nat.le_of_eq hs) hlocks (xt_x (n := 1) (by decide) hK hzk hP hD hS) hS.2.2 (Nat.le_of_eq hc) (Nat.le_of_eq hs)
      · intro z cells slots L σ r h hzk hc hs H locs ls hP hD hS hl
        rw [f_X11_value] at h
        refine lv_aload_n hx hb dX11_value_117 rfl (lv_at hl 0 rfl) ?_
        refine hg_75_6 hx hb hts in_f_X11_value_X11 hown hK hP (hts _ (List.mem_cons_of_mem _ (List.mem_append_left _ (List.mem_append_left _ (List.mem_of_getElem? (i := 4) rfl))))) dX11_value_118 ?_
        refine lv_iconst (v := 0) hx hb dX11_value_121 (by decide) ?_
        refine hp_37_1n hx hb hts in_f_X11_value_X2 hown hK hP hD hS (va_Nw.use rfl (hG.1 _ (List.mem_of_getElem? (i := 51) rfl))) dX11_value_122 (fun H locs hP hD hS => ?_)
        refine lv_aload_n hx hb dX11_value_125 rfl (lv_at hl 0 rfl) ?_
        refine lv_aload_n hx hb dX11_value_126 rfl (lv_at hl 0 rfl) ?_
        refine hg_75_5 hx hb hts in_f_X11_value_X11 hown hK hP (hts _ (List.mem_cons_of_mem _ (List.mem_append_left _ (List.mem_append_left _ (List.mem_of_getElem? (i := 19) rfl))))) dX11_value_127 ?_
        refine lv_aload_n hx hb dX11_value_130 rfl (lv_at hl 0 rfl) ?_
        refine hg_75_8 hx hb hts in_f_X11_value_X11 hown hK hP (hts _ (List.mem_cons_of_mem _ (List.mem_append_left _ (List.mem_append_left _ (List.mem_of_getElem? (i := 12) rfl))))) dX11_value_131 ?_
        refine hg_P_9n ((sCur (uI σ 3701 0))) hx hb hts in_f_X11_value_X7 hown hK hP (va_Nw.use rfl (hG.1 _ (List.mem_of_getElem? (i := 79) rfl))) dX11_value_134 ?_
        refine lv_iload_n hx hb dX11_value_137 rfl (lv_at hl 1 rfl) ?_
        obtain ⟨q1, h⟩ := kr_ite1 h
        refine hl_P9 (((sCur (uI σ 3701 0)))) hx hb hK hP q1 dX11_value_138 ?_
        obtain ⟨r2, hc2, h⟩ := op_ex h
        refine kc_i (va_runV (As := [.int ((uI σ 3701 0).2.2.1 (pR9 (((sCur (uI σ 3701 0))))) ((L.1 2)).toNatClampNeg)]) (rest := [.ref (a 75)]) ⟨hx, hb, hml, hown, hts⟩ (c_y_X3_global l dC dI cy a z k (lI lZ 1 (((uI σ 3701 0).2.2.1 (pR9 (((sCur (uI σ 3701 0))))) ((L.1 2)).toNatClampNeg))) (uI σ 3701 0) r2 hc2 H.size) (cwV 1 hts g_y_X11_value_X3_global_V288 rfl rfl rfl hd_y_X3_global ⟨Nat.le_of_ble_eq_true rfl, Nat.le_of_ble_eq_true rfl⟩) ⟨nb_blind, va_recv hK hP (ci := 3) (q0 := 18) rfl rfl, (kb_pre hK hG hP hD)⟩ rfl rfl hl.1 rfl (lv_room (Nat.le_of_ble_eq_true rfl)) dX11_value_139 ⟨(Nat.le_trans (Nat.le_add_right _ _) (Nat.le_of_eq hc)), (Nat.le_trans (Nat.le_add_right _ _) (Nat.le_of_eq hs))⟩) hA hP hD hS (fun H locs hP hD hS => ?_)
        obtain ⟨r3, hc3, hle3, h9⟩ := ox_ex h
        clear h
        refine kx_i (vx_runV (As := [.int r2.1]) (rest := []) ⟨hx, hb, hml, hown, hts⟩ (c_f_X11_showValue l hl0 dC dI cy ek a k (lI lZ 1 r2.1) r2.2 r3 hc3 z H.size) (cwV 1 hts g_f_X11_value_X11_showValue_V291 rfl rfl rfl hd_f_X11_showValue ⟨Nat.le_of_ble_eq_true rfl, Nat.le_of_ble_eq_true rfl⟩) ⟨nb_blindF, va_recv hK hP (ci := 10) (q0 := 75) rfl rfl, (kx_pre hK hG hE hT hA hP hD hS)⟩ rfl rfl hl.1 rfl (lv_room (Nat.le_of_ble_eq_true rfl)) dX11_value_142 ⟨Nat.le_trans (Nat.add_le_add_left hle3.1 _) (Nat.le_of_eq hc), Nat.le_trans (Nat.add_le_add_left hle3.2 _) (Nat.le_of_eq hs)⟩) hK hA hzk hP hD hS (by decide) hno hlocks ?_
        rcases h9 with ⟨h00, y3, hny3, hy⟩ | ⟨h00, hy⟩
        · subst hy
          have h := hny3
          refine Or.inl ⟨h00, fun z H locs hz3 hzk hP hD hS => ?_⟩
          replace hc := (Nat.add_assoc _ _ _).trans hc
          replace hs := (Nat.add_assoc _ _ _).trans hs
          obtain rfl := Option.some.inj h
          subst hc
          subst hs
          exact xr_i hx hb hr hK hzk hP hD hS hlocks dX11_value_145
        · subst hy
          exact Or.inr ⟨h00, rfl, hc, hs⟩
  exact (blk k0).1 z 0 0 L0 σ0 r0 h0 (zk_rf _ _) ((Nat.zero_add _).trans hmc) ((Nat.zero_add _).trans hms) s.heap [] ls hP hD hS hl

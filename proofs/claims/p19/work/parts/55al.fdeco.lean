/-! X6_printPlain -/
def f_X6_printPlain : Nat → Nat → LV → CS → Option RS
  | 0, _, _, _ => none
  | k + 1, 0, L, σ => op (y_X1_kind k 0 (lI lZ 1 ((L.1 1))) (uI σ 1203 0)) (fun r1 => if r1.1 = 4 then (op (y_X6_writeBytes k 0 (lI lZ 1 ((L.1 1))) r1.2) (fun r3 => f_X6_printPlain k 2 L r3.2)) else (f_X6_printPlain k 1 L r1.2))
  | k + 1, 1, L, σ => ox (f_X6_write k 0 (lI lZ 1 ((L.1 1))) σ) (fun r1 => f_X6_printPlain k 2 L r1.2.1)
  | k + 1, 2, L, σ => some ((0, 0), σ, (0, 0))
  | _ + 1, _ + 3, _, _ => none
def o_f_X6_printPlain : List Cond := [.fieldLink RX6 23 "SetHouse$Printer" "length" "I", .fieldLink RX6 15 "SetHouse$Printer" "heap" "LSetHouse$Heap;", .methodLink RX6 31 yX1_kind, .instanceMethod yX1_kind, .selects RX1 yX1_kind yX1_kind, .initialized RX1, .methodLink RX6 37 yX6_writeBytes, .instanceMethod yX6_writeBytes, .selects RX6 yX6_writeBytes yX6_writeBytes, .initialized RX6, .methodLink RX6 27 yX6_write, .instanceMethod yX6_write, .selects RX6 yX6_write yX6_write]
theorem o_f_X6_printPlain_good : o_f_X6_printPlain.all goodWord = true := by decide +kernel
def p_f_X6_printPlain : List Cond := o_f_X6_printPlain ++ ((.code yX1_kind cX1_kind 2 (some .int) :: p_y_X1_kind) ++ ((.code yX6_writeBytes cX6_writeBytes 3 none :: p_y_X6_writeBytes) ++ ((.code yX6_write cX6_write 2 none :: p_f_F1) ++ [])))
theorem p_f_X6_printPlain_good : p_f_X6_printPlain.all goodWord = true := nb_all2 o_f_X6_printPlain_good (nb_all2 (nb_allc (by decide +kernel) p_y_X1_kind_good) (nb_all2 (nb_allc (by decide +kernel) p_y_X6_writeBytes_good) (nb_all2 (nb_allc (by decide +kernel) p_f_F1_good) rfl)))
def w_f_X6_printPlain : List Cond := .code yX6_printPlain cX6_printPlain 2 none :: (p_f_X6_printPlain ++ fC)
theorem w_f_X6_printPlain_good : w_f_X6_printPlain.all goodWord = true := nb_allc (by decide +kernel) (nb_all2 p_f_X6_printPlain_good fC_good)
theorem in_f_X6_printPlain_X6 : ∀ w ∈ wsX60, w ∈ w_f_X6_printPlain := fun _ h => List.mem_cons_of_mem _ (List.mem_append_right _ (List.mem_append_right _ (List.mem_append_right _ (List.mem_append_right _ (List.mem_append_right _ (List.mem_append_right _ (List.mem_append_left _ h)))))))
theorem hd_f_X6_printPlain : yX6_printPlain.cls = RX6 ∧ yX6_printPlain.cls ≠ "java/lang/invoke/MethodHandle" ∧ yX6_printPlain.cls ≠ "java/lang/invoke/VarHandle" ∧ (parseMethodDescriptor yX6_printPlain.desc).map (fun d => d.parameters.length) = some 1 := by decide +kernel
theorem gg_f_X6_printPlain_X6_write : GoodIn w_f_X6_printPlain w_f_X6_write := goodIn_sub (fun w h => (List.mem_cons.mp h).elim (fun e => (List.mem_cons_of_mem _ (List.mem_append_left _ (List.mem_append_right _ (List.mem_append_right _ (List.mem_append_right _ (List.mem_append_left _ (List.mem_cons.mpr (Or.inl e))))))))) (fun h => (List.mem_append.mp h).elim (fun h => (List.mem_cons_of_mem _ (List.mem_append_left _ (List.mem_append_right _ (List.mem_append_right _ (List.mem_append_right _ (List.mem_append_left _ (List.mem_cons_of_mem _ h)))))))) (fun h => List.mem_cons_of_mem _ (List.mem_append_right _ h)))) w_f_X6_write_good
theorem g_f_X6_printPlain_X6_write_V27 : GoodIn w_f_X6_printPlain (wsV RX6 27 RX6 yX6_write w_f_X6_write) := goodIn_app (nb_g4 (List.mem_cons_of_mem _ (List.mem_append_left _ (List.mem_append_left _ (List.mem_of_getElem? (i := 10) rfl)))) (List.mem_cons_of_mem _ (List.mem_append_left _ (List.mem_append_left _ (List.mem_of_getElem? (i := 11) rfl)))) (List.mem_cons_of_mem _ (List.mem_append_left _ (List.mem_append_left _ (List.mem_of_getElem? (i := 12) rfl)))) (List.mem_cons_of_mem _ (List.mem_append_left _ (List.mem_append_left _ (List.mem_of_getElem? (i := 9) rfl)))) (by decide +kernel)) gg_f_X6_printPlain_X6_write
theorem gg_f_X6_printPlain_X1_kind : GoodIn w_f_X6_printPlain w_y_X1_kind := goodIn_sub (fun w h => (List.mem_cons.mp h).elim (fun e => (List.mem_cons_of_mem _ (List.mem_append_left _ (List.mem_append_right _ (List.mem_append_left _ (List.mem_cons.mpr (Or.inl e))))))) (fun h => (List.mem_append.mp h).elim (fun h => (List.mem_cons_of_mem _ (List.mem_append_left _ (List.mem_append_right _ (List.mem_append_left _ (List.mem_cons_of_mem _ h)))))) (fun h => List.mem_cons_of_mem _ (List.mem_append_right _ h)))) w_y_X1_kind_good
theorem g_y_X6_printPlain_X1_kind_V31 : GoodIn w_f_X6_printPlain (wsV RX6 31 RX1 yX1_kind w_y_X1_kind) := goodIn_app (nb_g4 (List.mem_cons_of_mem _ (List.mem_append_left _ (List.mem_append_left _ (List.mem_of_getElem? (i := 2) rfl)))) (List.mem_cons_of_mem _ (List.mem_append_left _ (List.mem_append_left _ (List.mem_of_getElem? (i := 3) rfl)))) (List.mem_cons_of_mem _ (List.mem_append_left _ (List.mem_append_left _ (List.mem_of_getElem? (i := 4) rfl)))) (List.mem_cons_of_mem _ (List.mem_append_left _ (List.mem_append_left _ (List.mem_of_getElem? (i := 5) rfl)))) (by decide +kernel)) gg_f_X6_printPlain_X1_kind
theorem gg_f_X6_printPlain_X6_writeBytes : GoodIn w_f_X6_printPlain w_y_X6_writeBytes := goodIn_sub (fun w h => (List.mem_cons.mp h).elim (fun e => (List.mem_cons_of_mem _ (List.mem_append_left _ (List.mem_append_right _ (List.mem_append_right _ (List.mem_append_left _ (List.mem_cons.mpr (Or.inl e)))))))) (fun h => (List.mem_append.mp h).elim (fun h => (List.mem_cons_of_mem _ (List.mem_append_left _ (List.mem_append_right _ (List.mem_append_right _ (List.mem_append_left _ (List.mem_cons_of_mem _ h))))))) (fun h => List.mem_cons_of_mem _ (List.mem_append_right _ h)))) w_y_X6_writeBytes_good
theorem g_y_X6_printPlain_X6_writeBytes_V37 : GoodIn w_f_X6_printPlain (wsV RX6 37 RX6 yX6_writeBytes w_y_X6_writeBytes) := goodIn_app (nb_g4 (List.mem_cons_of_mem _ (List.mem_append_left _ (List.mem_append_left _ (List.mem_of_getElem? (i := 6) rfl)))) (List.mem_cons_of_mem _ (List.mem_append_left _ (List.mem_append_left _ (List.mem_of_getElem? (i := 7) rfl)))) (List.mem_cons_of_mem _ (List.mem_append_left _ (List.mem_append_left _ (List.mem_of_getElem? (i := 8) rfl)))) (List.mem_cons_of_mem _ (List.mem_append_left _ (List.mem_append_left _ (List.mem_of_getElem? (i := 9) rfl)))) (by decide +kernel)) gg_f_X6_printPlain_X6_writeBytes
set_option maxHeartbeats 40000000 in
set_option maxRecDepth 100000 in
theorem c_f_X6_printPlain (l : Launch) (hl0 : l.stackTraces = false) (dC : Nat → ClassId) (dI : Nat → Nat → Nat) (cy : Nat → ClassId) (ek a : Nat → Nat) (k0 : Nat) (L0 : LV) (σ0 : CS) (r0 : RS) (h0 : f_X6_printPlain k0 0 L0 σ0 = some r0) (z : Nat → Nat) (sz : Nat) : vx_Met l yX6_printPlain w_f_X6_printPlain ({ frames := 86, cells := r0.2.2.1, slots := r0.2.2.2, locals := 2131 }) (va_Pc [.ref (a 12), .int (L0.1 1)] (nInF (dC, dI) cy ek sz (vC cy a z σ0))) (xV dC dI cy a (va_A (vC cy a z σ0) sz) [] z r0) (xX dC dI cy a (va_A (vC cy a z σ0) sz) [] z r0) r0.2.2.1 r0.2.2.2 (va_A (vC cy a z σ0) sz) := by
  refine vx_ofW (cc := cX6_printPlain) (maxL := 2) (ret := none) (by decide) rfl ?_
  intro p e s m args below meth c s₁ B hml hno hv
  obtain ⟨rfl, ⟨⟨hsz, hP, hK, hD0, hG⟩, hE⟩, hT⟩ := hv
  have hx := B.exec
  have hb := B.bytes
  have hr := B.returns
  have hts := atoms_spec (ws := w_f_X6_printPlain) B.pre
  have hown : s.vm.findClass RX6 = some m.cls := findClass_of_methodNamed B.named
  have hlocks := B.notSynchronized
  subst hsz
  have hD := hD0.self (sz := s.heap.size)
  generalize hAe : va_A (vC cy a z σ0) s.heap.size = A at hD hE hT ⊢
  have hA : ∀ q : Nat, s.heap.size ≤ q → A q := fun q h => by rw [← hAe]; exact Or.inr h
  have hS : va_S A s.heap s.heap [] := va_S.rf
  have hl := lv_entry ([.ref (a 12), .int (L0.1 1)]) (n := 2) (Nat.le_of_ble_eq_true rfl)
  rw [lg_entry_eq]
  generalize (lg_sl ([.ref (a 12), .int (L0.1 1)]) ++ List.replicate (2 - (lg_sl ([.ref (a 12), .int (L0.1 1)])).length) Slot.unset).toArray = ls at hl ⊢
  have hl : lv_has ls 2 [(0, .ref (a 12)), (1, .int (L0.1 1))] := hl
  generalize hmc : r0.2.2.1 = mc
  generalize hms : r0.2.2.2 = ms
  have blk : ∀ k : Nat, (bX p l e (headSpec w_f_X6_printPlain ({ frames := 86, cells := mc, slots := ms, locals := 2131 })).room s m #[.ref (a 12), .int (L0.1 1)] below meth c dC dI cy a A (fun r => vx_MQ below (xV dC dI cy a A [] z r) (xX dC dI cy a A [] z r) #[.ref (a 12), .int (L0.1 1)] s mc ms A) [] z mc ms 2 (f_X6_printPlain k 0) (fun z L => [(0, .ref (a 12)), (1, .int (L.1 1))]) 0 (fun z L => [])) ∧ (bX p l e (headSpec w_f_X6_printPlain ({ frames := 86, cells := mc, slots := ms, locals := 2131 })).room s m #[.ref (a 12), .int (L0.1 1)] below meth c dC dI cy a A (fun r => vx_MQ below (xV dC dI cy a A [] z r) (xX dC dI cy a A [] z r) #[.ref (a 12), .int (L0.1 1)] s mc ms A) [] z mc ms 2 (f_X6_printPlain k 1) (fun z L => [(0, .ref (a 12)), (1, .int (L.1 1))]) 25 (fun z L => [])) ∧ (bX p l e (headSpec w_f_X6_printPlain ({ frames := 86, cells := mc, slots := ms, locals := 2131 })).room s m #[.ref (a 12), .int (L0.1 1)] below meth c dC dI cy a A (fun r => vx_MQ below (xV dC dI cy a A [] z r) (xX dC dI cy a A [] z r) #[.ref (a 12), .int (L0.1 1)] s mc ms A) [] z mc ms 2 (f_X6_printPlain k 2) (fun z L => []) 30 (fun z L => [])) := by
    intro k
    induction k with
    | zero => exact ⟨fun z c1 c2 L σ r h => (by cases h), fun z c1 c2 L σ r h => (by cases h), fun z c1 c2 L σ r h => (by cases h)⟩
    | succ k ih =>
      refine ⟨?_, ?_, ?_⟩
      · intro z cells slots L σ r h hzk hc hs H locs ls hP hD hS hl
        rw [f_X6_printPlain] at h
        refine lv_aload_n hx hb dX6_printPlain_0 rfl (lv_at hl 0 rfl) ?_
        refine lv_iconst (v := 0) hx hb dX6_printPlain_1 (by decide) ?_
        refine hp_12_3 hx hb hts in_f_X6_printPlain_X6 hown hK hP hD hS (hts _ (List.mem_cons_of_mem _ (List.mem_append_left _ (List.mem_append_left _ (List.mem_of_getElem? (i := 0) rfl))))) dX6_printPlain_2 (fun H locs hP hD hS => ?_)
        refine lv_aload_n hx hb dX6_printPlain_5 rfl (lv_at hl 0 rfl) ?_
        refine hg_12_0 hx hb hts in_f_X6_printPlain_X6 hown hK hP (hts _ (List.mem_cons_of_mem _ (List.mem_append_left _ (List.mem_append_left _ (List.mem_of_getElem? (i := 1) rfl))))) dX6_printPlain_6 ?_
        refine lv_iload_n hx hb dX6_printPlain_9 rfl (lv_at hl 1 rfl) ?_
        obtain ⟨r1, hc1, h⟩ := op_ex h
        refine kc_i (va_runV (As := [.int (L.1 1)]) (rest := []) ⟨hx, hb, hml, hown, hts⟩ (c_y_X1_kind l dC dI cy a z k (lI lZ 1 ((L.1 1))) (uI σ 1203 0) r1 hc1 H.size) (cwV 1 hts g_y_X6_printPlain_X1_kind_V31 rfl rfl rfl hd_y_X1_kind ⟨Nat.le_of_ble_eq_true rfl, Nat.le_of_ble_eq_true rfl⟩) ⟨nb_blind, va_recv hK hP (ci := 1) (q0 := 0) rfl rfl, (kb_pre hK hG hP hD)⟩ rfl rfl hl.1 rfl (lv_room (Nat.le_of_ble_eq_true rfl)) dX6_printPlain_10 ⟨(Nat.le_trans (Nat.le_add_right _ _) (Nat.le_of_eq hc)), (Nat.le_trans (Nat.le_add_right _ _) (Nat.le_of_eq hs))⟩) hA hP hD hS (fun H locs hP hD hS => ?_)
        refine lv_iconst (v := 4) hx hb dX6_printPlain_13 (by decide) ?_
        refine lv_icmp_ne (tgt := 25) hx hb dX6_printPlain_14 (by decide) (fun c2 => ?_) (fun c2 => ?_)
        · rw [if_neg c2] at h
          exact ih.2.1 z _ _ L r1.2 _ h hzk hc hs H locs ls hP hD hS (lv_sub hl [0, 1] rfl)
        · rw [if_pos c2] at h
          refine lv_aload_n hx hb dX6_printPlain_17 rfl (lv_at hl 0 rfl) ?_
          refine lv_iload_n hx hb dX6_printPlain_18 rfl (lv_at hl 1 rfl) ?_
          obtain ⟨r3, hc3, h⟩ := op_ex h
          refine kc_v (va_runV (As := [.int (L.1 1)]) (rest := []) ⟨hx, hb, hml, hown, hts⟩ (c_y_X6_writeBytes l dC dI cy a z k (lI lZ 1 ((L.1 1))) r1.2 r3 hc3 H.size) (cwV 1 hts g_y_X6_printPlain_X6_writeBytes_V37 rfl rfl rfl hd_y_X6_writeBytes ⟨Nat.le_of_ble_eq_true rfl, Nat.le_of_ble_eq_true rfl⟩) ⟨nb_blind, va_recv hK hP (ci := 5) (q0 := 12) rfl rfl, (kb_pre hK hG hP hD)⟩ rfl rfl hl.1 rfl (lv_room (Nat.le_of_ble_eq_true rfl)) dX6_printPlain_19 ⟨(Nat.le_trans (Nat.le_add_right _ _) (Nat.le_of_eq hc)), (Nat.le_trans (Nat.le_add_right _ _) (Nat.le_of_eq hs))⟩) hA hP hD hS (fun H locs hP hD hS => ?_)
          refine lv_goto (tgt := 30) hx hb dX6_printPlain_22 (by decide) ?_
          exact ih.2.2 z _ _ L r3.2 _ h hzk hc hs H locs ls hP hD hS (lv_sub hl [] rfl)
      · intro z cells slots L σ r h hzk hc hs H locs ls hP hD hS hl
        rw [f_X6_printPlain] at h
        refine lv_aload_n hx hb dX6_printPlain_25 rfl (lv_at hl 0 rfl) ?_
        refine lv_iload_n hx hb dX6_printPlain_26 rfl (lv_at hl 1 rfl) ?_
        obtain ⟨r1, hc1, hle1, h9⟩ := ox_ex h
        clear h
        refine kx_v (vx_runV (As := [.int (L.1 1)]) (rest := []) ⟨hx, hb, hml, hown, hts⟩ (c_f_X6_write l hl0 dC dI cy ek a k (lI lZ 1 ((L.1 1))) σ r1 hc1 z H.size) (cwV 1 hts g_f_X6_printPlain_X6_write_V27 rfl rfl rfl hd_f_X6_write ⟨Nat.le_of_ble_eq_true rfl, Nat.le_of_ble_eq_true rfl⟩) ⟨nb_blindF, va_recv hK hP (ci := 5) (q0 := 12) rfl rfl, (kx_pre hK hG hE hT hA hP hD hS)⟩ rfl rfl hl.1 rfl (lv_room (Nat.le_of_ble_eq_true rfl)) dX6_printPlain_27 ⟨Nat.le_trans (Nat.add_le_add_left hle1.1 _) (Nat.le_of_eq hc), Nat.le_trans (Nat.add_le_add_left hle1.2 _) (Nat.le_of_eq hs)⟩) hK hA hzk hP hD hS (by decide) hno hlocks ?_
        rcases h9 with ⟨h00, y1, hny1, hy⟩ | ⟨h00, hy⟩
        · subst hy
          have h := hny1
          refine Or.inl ⟨h00, fun u H locs hz1 hzk hP hD hS => ?_⟩
          obtain rfl := (zk_nil hz1).symm
          replace hc := (Nat.add_assoc _ _ _).trans hc
          replace hs := (Nat.add_assoc _ _ _).trans hs
          exact ih.2.2 z _ _ L r1.2.1 _ h hzk hc hs H locs ls hP hD hS (lv_sub hl [] rfl)
        · subst hy
          exact Or.inr ⟨h00, rfl, hc, hs⟩
      · intro z cells slots L σ r h hzk hc hs H locs ls hP hD hS hl
        rw [f_X6_printPlain] at h
        obtain rfl := Option.some.inj h
        subst hc
        subst hs
        exact xr_v hx hb hr hK hzk hP hD hS hlocks dX6_printPlain_30
  exact (blk k0).1 z 0 0 L0 σ0 r0 h0 (zk_rf _ _) ((Nat.zero_add _).trans hmc) ((Nat.zero_add _).trans hms) s.heap [] ls hP hD hS hl
/-! X3_putOut -/
def f_X3_putOut : Nat → Nat → LV → CS → Option RS
  | 0, _, _, _ => none
  | k + 1, 0, L, σ => if ((if ((60000 - ((σ.1 1915)))) < ((σ.1 1203)) then ((60000 - ((σ.1 1915)))) else ((σ.1 1203)))) ≤ 0 then (f_X3_putOut k 1 L σ) else (if ¬ (60000 : Int32) < 0 ∧ (60000 : Int32).toNatClampNeg < 134217728 ∧ (sN σ 22) < 2147483648 then (if nI (sN σ 22) < ((((σ.1 1915)) + ((if ((60000 - ((σ.1 1915)))) < ((σ.1 1203)) then ((60000 - ((σ.1 1915)))) else ((σ.1 1203)))))) ∧ (sN σ 22) < (60000 : Int32).toNatClampNeg then (if ∀ i, i < (sN σ 22) → fits .byte (.int (σ.2.2.1 22 i)) = true then (adR (1, (60000 : Int32).toNatClampNeg) (f_X3_putOut k 2 (lI L 1 ((if ((60000 - ((σ.1 1915)))) < ((σ.1 1203)) then ((60000 - ((σ.1 1915)))) else ((σ.1 1203))))) (uZ σ 22 (60000 : Int32).toNatClampNeg))) else none) else (f_X3_putOut k 2 (lI L 1 ((if ((60000 - ((σ.1 1915)))) < ((σ.1 1203)) then ((60000 - ((σ.1 1915)))) else ((σ.1 1203))))) σ)) else none)
  | k + 1, 1, L, σ => op (y_X3_countOut k 0 (lI lZ 1 ((σ.1 1203))) σ) (fun r1 => some ((0, 0), r1.2, (0, 0)))
  | k + 1, 2, L, σ => if ¬ (0 : Int32) < 0 ∧ ¬ ((σ.1 1915)) < 0 ∧ ¬ ((L.1 1)) < 0 ∧ (0 : Int32).toNatClampNeg + ((L.1 1)).toNatClampNeg ≤ 10400 ∧ ((σ.1 1915)).toNatClampNeg + ((L.1 1)).toNatClampNeg ≤ (sN σ 22) then (if ∀ i, i < ((L.1 1)).toNatClampNeg → fits .byte (.int (σ.2.2.1 13 ((0 : Int32).toNatClampNeg + i))) = true then (f_X3_putOut k 1 L (uF σ 22 (va_cpy (σ.2.2.1 13) (σ.2.2.1 22) (0 : Int32).toNatClampNeg ((σ.1 1915)).toNatClampNeg ((L.1 1)).toNatClampNeg))) else none) else none
  | _ + 1, _ + 3, _, _ => none
def o_f_X3_putOut : List Cond := [.fieldLink RX3 51 "SetHouse$Machine" "printer" "LSetHouse$Printer;", .constant RX3 300 (60000), .fieldLink RX3 14 "SetHouse$Machine" "run" "LSetHouse$Run;", .fieldLink RX3 25 "SetHouse$Machine" "output" "[B", .initialized RX11, .static yX11_widenedBytes, .methodLink RX3 418 Lib.Math.min.name, .static Lib.Math.min.name, .initialized "java/lang/Math", .code Lib.Math.min.name Lib.Math.min.code 2 (some .int), .methodLink RX3 402 yX3_countOut, .instanceMethod yX3_countOut, .selects RX3 yX3_countOut yX3_countOut, .initialized RX3, .methodLink RX3 176 arraycopyName, .native arraycopyName, .static arraycopyName, .initialized "java/lang/System"]
theorem o_f_X3_putOut_good : o_f_X3_putOut.all goodWord = true := by decide +kernel
def p_f_X3_putOut : List Cond := o_f_X3_putOut ++ ((.code yX11_widenedBytes cX11_widenedBytes 3 (some (.array .byte)) :: p_f_X11_widenedBytes) ++ ((.code yX3_countOut cX3_countOut 2 none :: p_y_X3_countOut) ++ []))
theorem p_f_X3_putOut_good : p_f_X3_putOut.all goodWord = true := nb_all2 o_f_X3_putOut_good (nb_all2 (nb_allc (by decide +kernel) p_f_X11_widenedBytes_good) (nb_all2 (nb_allc (by decide +kernel) p_y_X3_countOut_good) rfl))
def w_f_X3_putOut : List Cond := .code yX3_putOut cX3_putOut 2 none :: (p_f_X3_putOut ++ fC)
theorem w_f_X3_putOut_good : w_f_X3_putOut.all goodWord = true := nb_allc (by decide +kernel) (nb_all2 p_f_X3_putOut_good fC_good)
theorem in_f_X3_putOut_X3 : ∀ w ∈ wsX30, w ∈ w_f_X3_putOut := fun _ h => List.mem_cons_of_mem _ (List.mem_append_right _ (List.mem_append_right _ (List.mem_append_right _ (List.mem_append_right _ (List.mem_append_left _ h)))))
theorem in_f_X3_putOut_X6 : ∀ w ∈ wsX60, w ∈ w_f_X3_putOut := fun _ h => List.mem_cons_of_mem _ (List.mem_append_right _ (List.mem_append_right _ (List.mem_append_right _ (List.mem_append_right _ (List.mem_append_right _ (List.mem_append_right _ (List.mem_append_left _ h)))))))
theorem in_f_X3_putOut_X8 : ∀ w ∈ wsX80, w ∈ w_f_X3_putOut := fun _ h => List.mem_cons_of_mem _ (List.mem_append_right _ (List.mem_append_right _ (List.mem_append_right _ (List.mem_append_right _ (List.mem_append_right _ (List.mem_append_right _ (List.mem_append_right _ (List.mem_append_right _ (List.mem_append_left _ h)))))))))
theorem hd_f_X3_putOut : yX3_putOut.cls = RX3 ∧ yX3_putOut.cls ≠ "java/lang/invoke/MethodHandle" ∧ yX3_putOut.cls ≠ "java/lang/invoke/VarHandle" ∧ (parseMethodDescriptor yX3_putOut.desc).map (fun d => d.parameters.length) = some 0 := by decide +kernel
theorem gg_f_X3_putOut_X11_widenedBytes : GoodIn w_f_X3_putOut w_f_X11_widenedBytes := goodIn_sub (fun w h => (List.mem_cons.mp h).elim (fun e => (List.mem_cons_of_mem _ (List.mem_append_left _ (List.mem_append_right _ (List.mem_append_left _ (List.mem_cons.mpr (Or.inl e))))))) (fun h => (List.mem_append.mp h).elim (fun h => (List.mem_cons_of_mem _ (List.mem_append_left _ (List.mem_append_right _ (List.mem_append_left _ (List.mem_cons_of_mem _ h)))))) (fun h => List.mem_cons_of_mem _ (List.mem_append_right _ h)))) w_f_X11_widenedBytes_good
theorem g_f_X3_putOut_X11_widenedBytes_SN423 : GoodIn w_f_X3_putOut w_f_X11_widenedBytes := gg_f_X3_putOut_X11_widenedBytes
theorem gg_f_X3_putOut_X3_countOut : GoodIn w_f_X3_putOut w_y_X3_countOut := goodIn_sub (fun w h => (List.mem_cons.mp h).elim (fun e => (List.mem_cons_of_mem _ (List.mem_append_left _ (List.mem_append_right _ (List.mem_append_right _ (List.mem_append_left _ (List.mem_cons.mpr (Or.inl e)))))))) (fun h => (List.mem_append.mp h).elim (fun h => (List.mem_cons_of_mem _ (List.mem_append_left _ (List.mem_append_right _ (List.mem_append_right _ (List.mem_append_left _ (List.mem_cons_of_mem _ h))))))) (fun h => List.mem_cons_of_mem _ (List.mem_append_right _ h)))) w_y_X3_countOut_good
theorem g_y_X3_putOut_X3_countOut_V402 : GoodIn w_f_X3_putOut (wsV RX3 402 RX3 yX3_countOut w_y_X3_countOut) := goodIn_app (nb_g4 (List.mem_cons_of_mem _ (List.mem_append_left _ (List.mem_append_left _ (List.mem_of_getElem? (i := 10) rfl)))) (List.mem_cons_of_mem _ (List.mem_append_left _ (List.mem_append_left _ (List.mem_of_getElem? (i := 11) rfl)))) (List.mem_cons_of_mem _ (List.mem_append_left _ (List.mem_append_left _ (List.mem_of_getElem? (i := 12) rfl)))) (List.mem_cons_of_mem _ (List.mem_append_left _ (List.mem_append_left _ (List.mem_of_getElem? (i := 13) rfl)))) (by decide +kernel)) gg_f_X3_putOut_X3_countOut
set_option maxHeartbeats 40000000 in
set_option maxRecDepth 100000 in
theorem c_f_X3_putOut (l : Launch) (hl0 : l.stackTraces = false) (dC : Nat → ClassId) (dI : Nat → Nat → Nat) (cy : Nat → ClassId) (ek a : Nat → Nat) (k0 : Nat) (L0 : LV) (σ0 : CS) (r0 : RS) (h0 : f_X3_putOut k0 0 L0 σ0 = some r0) (z : Nat → Nat) (sz : Nat) : vx_Met l yX3_putOut w_f_X3_putOut ({ frames := 3, cells := r0.2.2.1, slots := r0.2.2.2, locals := 114 }) (va_Pc [.ref (a 18)] (nInF (dC, dI) cy ek sz (vC cy a z σ0))) (xV dC dI cy a (va_A (vC cy a z σ0) sz) [22] z r0) (xX dC dI cy a (va_A (vC cy a z σ0) sz) [22] z r0) r0.2.2.1 r0.2.2.2 (va_A (vC cy a z σ0) sz) := by
  refine vx_ofW (cc := cX3_putOut) (maxL := 2) (ret := none) (by decide) rfl ?_
  intro p e s m args below meth c s₁ B hml hno hv
  obtain ⟨rfl, ⟨⟨hsz, hP, hK, hD0, hG⟩, hE⟩, hT⟩ := hv
  have hx := B.exec
  have hb := B.bytes
  have hr := B.returns
  have hts := atoms_spec (ws := w_f_X3_putOut) B.pre
  have hown : s.vm.findClass RX3 = some m.cls := findClass_of_methodNamed B.named
  have hlocks := B.notSynchronized
  subst hsz
  have hD := hD0.self (sz := s.heap.size)
  generalize hAe : va_A (vC cy a z σ0) s.heap.size = A at hD hE hT ⊢
  have hA : ∀ q : Nat, s.heap.size ≤ q → A q := fun q h => by rw [← hAe]; exact Or.inr h
  have hS : va_S A s.heap s.heap [] := va_S.rf
  have hl := lv_entry ([.ref (a 18)]) (n := 2) (Nat.le_of_ble_eq_true rfl)
  rw [lg_entry_eq]
  generalize (lg_sl ([.ref (a 18)]) ++ List.replicate (2 - (lg_sl ([.ref (a 18)])).length) Slot.unset).toArray = ls at hl ⊢
  have hl : lv_has ls 2 [(0, .ref (a 18))] := hl
  generalize hmc : r0.2.2.1 = mc
  generalize hms : r0.2.2.2 = ms
  have blk : ∀ k : Nat, (bX p l e (headSpec w_f_X3_putOut ({ frames := 3, cells := mc, slots := ms, locals := 114 })).room s m #[.ref (a 18)] below meth c dC dI cy a A (fun r => vx_MQ below (xV dC dI cy a A [22] z r) (xX dC dI cy a A [22] z r) #[.ref (a 18)] s mc ms A) [22] z mc ms 2 (f_X3_putOut k 0) (fun z L => [(0, .ref (a 18))]) 0 (fun z L => [])) ∧ (bX p l e (headSpec w_f_X3_putOut ({ frames := 3, cells := mc, slots := ms, locals := 114 })).room s m #[.ref (a 18)] below meth c dC dI cy a A (fun r => vx_MQ below (xV dC dI cy a A [22] z r) (xX dC dI cy a A [22] z r) #[.ref (a 18)] s mc ms A) [22] z mc ms 2 (f_X3_putOut k 1) (fun z L => [(0, .ref (a 18))]) 72 (fun z L => [])) ∧ (bX p l e (headSpec w_f_X3_putOut ({ frames := 3, cells := mc, slots := ms, locals := 114 })).room s m #[.ref (a 18)] below meth c dC dI cy a A (fun r => vx_MQ below (xV dC dI cy a A [22] z r) (xX dC dI cy a A [22] z r) #[.ref (a 18)] s mc ms A) [22] z mc ms 2 (f_X3_putOut k 2) (fun z L => [(0, .ref (a 18)), (1, .int (L.1 1))]) 49 (fun z L => [])) := by
    intro k
    induction k with
    | zero => exact ⟨fun z c1 c2 L σ r h => (by cases h), fun z c1 c2 L σ r h => (by cases h), fun z c1 c2 L σ r h => (by cases h)⟩
    | succ k ih =>
      refine ⟨?_, ?_, ?_⟩
      · intro z cells slots L σ r h hzk hc hs H locs ls hP hD hS hl
        rw [f_X3_putOut] at h
        refine lv_aload_n hx hb dX3_putOut_0 rfl (lv_at hl 0 rfl) ?_
        refine hg_18_3 hx hb hts in_f_X3_putOut_X3 hown hK hP (hts _ (List.mem_cons_of_mem _ (List.mem_append_left _ (List.mem_append_left _ (List.mem_of_getElem? (i := 0) rfl))))) dX3_putOut_1 ?_
        refine hg_12_3n hx hb hts in_f_X3_putOut_X6 hown hK hP (va_Nw.use rfl (hG.1 _ (List.mem_of_getElem? (i := 6) rfl))) dX3_putOut_4 ?_
        refine lv_ldcw (v := 60000) hx hb hown (hts _ (List.mem_cons_of_mem _ (List.mem_append_left _ (List.mem_append_left _ (List.mem_of_getElem? (i := 1) rfl))))) dX3_putOut_7 ?_
        refine lv_aload_n hx hb dX3_putOut_10 rfl (lv_at hl 0 rfl) ?_
        refine hg_18_5 hx hb hts in_f_X3_putOut_X3 hown hK hP (hts _ (List.mem_cons_of_mem _ (List.mem_append_left _ (List.mem_append_left _ (List.mem_of_getElem? (i := 2) rfl))))) dX3_putOut_11 ?_
        refine hg_19_15n hx hb hts in_f_X3_putOut_X8 hown hK hP (va_Nw.use rfl (hG.1 _ (List.mem_of_getElem? (i := 38) rfl))) dX3_putOut_14 ?_
        refine lv_isub hx hb dX3_putOut_17 ?_
        refine va_mmin (x := ((σ.1 1203))) (y := ((60000 - ((σ.1 1915))))) hx hb (hml.trans hl.1.symm) hown (hts _ (List.mem_cons_of_mem _ (List.mem_append_left _ (List.mem_append_left _ (List.mem_of_getElem? (i := 6) rfl))))) (hts _ (List.mem_cons_of_mem _ (List.mem_append_left _ (List.mem_append_left _ (List.mem_of_getElem? (i := 7) rfl))))) (hts _ (List.mem_cons_of_mem _ (List.mem_append_left _ (List.mem_append_left _ (List.mem_of_getElem? (i := 8) rfl))))) (hts _ (List.mem_cons_of_mem _ (List.mem_append_left _ (List.mem_append_left _ (List.mem_of_getElem? (i := 9) rfl))))) (Nat.le_of_ble_eq_true rfl) (Nat.le_of_ble_eq_true rfl)  (Nat.le_trans (Nat.le_add_right _ _) (Nat.le_of_eq hc)) (Nat.le_trans (Nat.le_add_right _ _) (Nat.le_of_eq hs)) dX3_putOut_18 ?_
        refine lv_istore_n (lv' := [(1, .int (if ((60000 - ((σ.1 1915)))) < ((σ.1 1203)) then ((60000 - ((σ.1 1915)))) else ((σ.1 1203)))), (0, .ref (a 18))]) hx hb dX3_putOut_21 rfl hl (by decide) rfl (fun ls hl => ?_)
        refine lv_iload_n hx hb dX3_putOut_22 rfl (lv_at hl 0 rfl) ?_
        refine lv_if_le (tgt := 72) hx hb dX3_putOut_23 (by decide) (fun c1 => ?_) (fun c1 => ?_)
        · rw [if_pos c1] at h
          exact ih.2.1 z _ _ L σ _ h hzk hc hs H locs ls hP hD hS (lv_sub hl [1] rfl)
        · rw [if_neg c1] at h
          refine lv_aload_n hx hb dX3_putOut_26 rfl (lv_at hl 1 rfl) ?_
          refine lv_aload_n hx hb dX3_putOut_27 rfl (lv_at hl 1 rfl) ?_
          refine hg_18_9 hx hb hts in_f_X3_putOut_X3 hown hK hP (hts _ (List.mem_cons_of_mem _ (List.mem_append_left _ (List.mem_append_left _ (List.mem_of_getElem? (i := 3) rfl))))) dX3_putOut_28 ?_
          refine lv_aload_n hx hb dX3_putOut_31 rfl (lv_at hl 1 rfl) ?_
          refine hg_18_5 hx hb hts in_f_X3_putOut_X3 hown hK hP (hts _ (List.mem_cons_of_mem _ (List.mem_append_left _ (List.mem_append_left _ (List.mem_of_getElem? (i := 2) rfl))))) dX3_putOut_32 ?_
          refine hg_19_15n hx hb hts in_f_X3_putOut_X8 hown hK hP (va_Nw.use rfl (hG.1 _ (List.mem_of_getElem? (i := 38) rfl))) dX3_putOut_35 ?_
          refine lv_iload_n hx hb dX3_putOut_38 rfl (lv_at hl 0 rfl) ?_
          refine lv_iadd hx hb dX3_putOut_39 ?_
          refine lv_ldcw (v := 60000) hx hb hown (hts _ (List.mem_cons_of_mem _ (List.mem_append_left _ (List.mem_append_left _ (List.mem_of_getElem? (i := 1) rfl))))) dX3_putOut_40 ?_
          obtain ⟨q2, h⟩ := kr_ite1 h
          by_cases q3 : nI (sN σ 22) < ((((σ.1 1915)) + ((if ((60000 - ((σ.1 1915)))) < ((σ.1 1203)) then ((60000 - ((σ.1 1915)))) else ((σ.1 1203)))))) ∧ (sN σ 22) < (60000 : Int32).toNatClampNeg
          · rw [if_pos q3] at h
            obtain ⟨q4, h⟩ := kr_ite1 h
            obtain ⟨y4, hny4, hy⟩ := adR_ex h
            subst hy
            have h := hny4
            refine hw_22_new ⟨hx, hb, hml, hown, hts⟩ ⟨va_cnB 3 hts g_f_X3_putOut_X11_widenedBytes_SN423 rfl rfl rfl (hG.1 _ (List.mem_of_getElem? (i := 108) rfl)) (hts _ (List.mem_cons_of_mem _ (List.mem_append_left _ (List.mem_append_left _ (List.mem_of_getElem? (i := 4) rfl))))) (by decide +kernel) ⟨Nat.le_of_ble_eq_true rfl, Nat.le_of_ble_eq_true rfl⟩, (hts _ (List.mem_cons_of_mem _ (List.mem_append_left _ (List.mem_append_left _ (List.mem_of_getElem? (i := 5) rfl))))), trivial⟩ in_f_X3_putOut_X3 hK hG hA hP hD hS q2 q3 q4 hl.1 (Nat.le_of_ble_eq_true rfl) dX3_putOut_43 (hts _ (List.mem_cons_of_mem _ (List.mem_append_left _ (List.mem_append_left _ (List.mem_of_getElem? (i := 3) rfl))))) dX3_putOut_46 (Nat.le_trans (Nat.add_le_add_left (Nat.le_add_right _ _) _) (Nat.le_of_eq hc)) (Nat.le_trans (Nat.add_le_add_left (Nat.le_add_right _ _) _) (Nat.le_of_eq hs)) (fun z H locs hz4 hP hD hS => ?_)
            have hzk := zk_tr hzk hz4 (by decide)
            replace hc := (Nat.add_assoc _ _ _).trans hc
            replace hs := (Nat.add_assoc _ _ _).trans hs
            exact ih.2.2 z _ _ (lI L 1 ((if ((60000 - ((σ.1 1915)))) < ((σ.1 1203)) then ((60000 - ((σ.1 1915)))) else ((σ.1 1203))))) (uZ σ 22 (60000 : Int32).toNatClampNeg) _ h hzk hc hs H locs ls hP hD hS (lv_sub hl [1, 0] rfl)
          · rw [if_neg q3] at h
            refine hw_22_same ⟨hx, hb, hml, hown, hts⟩ ⟨va_cnB 3 hts g_f_X3_putOut_X11_widenedBytes_SN423 rfl rfl rfl (hG.1 _ (List.mem_of_getElem? (i := 108) rfl)) (hts _ (List.mem_cons_of_mem _ (List.mem_append_left _ (List.mem_append_left _ (List.mem_of_getElem? (i := 4) rfl))))) (by decide +kernel) ⟨Nat.le_of_ble_eq_true rfl, Nat.le_of_ble_eq_true rfl⟩, (hts _ (List.mem_cons_of_mem _ (List.mem_append_left _ (List.mem_append_left _ (List.mem_of_getElem? (i := 5) rfl))))), trivial⟩ in_f_X3_putOut_X3 hK hG hA hP hD hS q2 q3 hl.1 (Nat.le_of_ble_eq_true rfl) dX3_putOut_43 (hts _ (List.mem_cons_of_mem _ (List.mem_append_left _ (List.mem_append_left _ (List.mem_of_getElem? (i := 3) rfl))))) dX3_putOut_46 (Nat.le_trans (Nat.le_add_right _ _) (Nat.le_of_eq hc)) (Nat.le_trans (Nat.le_add_right _ _) (Nat.le_of_eq hs)) (fun H locs hP hD hS => ?_)
            exact ih.2.2 z _ _ (lI L 1 ((if ((60000 - ((σ.1 1915)))) < ((σ.1 1203)) then ((60000 - ((σ.1 1915)))) else ((σ.1 1203))))) σ _ h hzk hc hs H locs ls hP hD hS (lv_sub hl [1, 0] rfl)
      · intro z cells slots L σ r h hzk hc hs H locs ls hP hD hS hl
        rw [f_X3_putOut] at h
        refine lv_aload_n hx hb dX3_putOut_72 rfl (lv_at hl 0 rfl) ?_
        refine lv_aload_n hx hb dX3_putOut_73 rfl (lv_at hl 0 rfl) ?_
        refine hg_18_3 hx hb hts in_f_X3_putOut_X3 hown hK hP (hts _ (List.mem_cons_of_mem _ (List.mem_append_left _ (List.mem_append_left _ (List.mem_of_getElem? (i := 0) rfl))))) dX3_putOut_74 ?_
        refine hg_12_3n hx hb hts in_f_X3_putOut_X6 hown hK hP (va_Nw.use rfl (hG.1 _ (List.mem_of_getElem? (i := 6) rfl))) dX3_putOut_77 ?_
        obtain ⟨r1, hc1, h⟩ := op_ex h
        refine kc_v (va_runV (As := [.int (σ.1 1203)]) (rest := []) ⟨hx, hb, hml, hown, hts⟩ (c_y_X3_countOut l dC dI cy a z k (lI lZ 1 ((σ.1 1203))) σ r1 hc1 H.size) (cwV 1 hts g_y_X3_putOut_X3_countOut_V402 rfl rfl rfl hd_y_X3_countOut ⟨Nat.le_of_ble_eq_true rfl, Nat.le_of_ble_eq_true rfl⟩) ⟨nb_blind, va_recv hK hP (ci := 3) (q0 := 18) rfl rfl, (kb_pre hK hG hP hD)⟩ rfl rfl hl.1 rfl (lv_room (Nat.le_of_ble_eq_true rfl)) dX3_putOut_80 ⟨(Nat.le_trans (Nat.le_add_right _ _) (Nat.le_of_eq hc)), (Nat.le_trans (Nat.le_add_right _ _) (Nat.le_of_eq hs))⟩) hA hP hD hS (fun H locs hP hD hS => ?_)
        obtain rfl := Option.some.inj h
        subst hc
        subst hs
        exact xr_v hx hb hr hK hzk hP hD hS hlocks dX3_putOut_83
      · intro z cells slots L σ r h hzk hc hs H locs ls hP hD hS hl
        rw [f_X3_putOut] at h
        refine lv_aload_n hx hb dX3_putOut_49 rfl (lv_at hl 0 rfl) ?_
        refine hg_18_3 hx hb hts in_f_X3_putOut_X3 hown hK hP (hts _ (List.mem_cons_of_mem _ (List.mem_append_left _ (List.mem_append_left _ (List.mem_of_getElem? (i := 0) rfl))))) dX3_putOut_50 ?_
        refine hg_12_2n hx hb hts in_f_X3_putOut_X6 hown hK hP (va_Nw.use rfl (hG.1 _ (List.mem_of_getElem? (i := 4) rfl))) dX3_putOut_53 ?_
        refine lv_iconst (v := 0) hx hb dX3_putOut_56 (by decide) ?_
        refine lv_aload_n hx hb dX3_putOut_57 rfl (lv_at hl 0 rfl) ?_
        refine hg_18_9 hx hb hts in_f_X3_putOut_X3 hown hK hP (hts _ (List.mem_cons_of_mem _ (List.mem_append_left _ (List.mem_append_left _ (List.mem_of_getElem? (i := 3) rfl))))) dX3_putOut_58 ?_
        refine lv_aload_n hx hb dX3_putOut_61 rfl (lv_at hl 0 rfl) ?_
        refine hg_18_5 hx hb hts in_f_X3_putOut_X3 hown hK hP (hts _ (List.mem_cons_of_mem _ (List.mem_append_left _ (List.mem_append_left _ (List.mem_of_getElem? (i := 2) rfl))))) dX3_putOut_62 ?_
        refine hg_19_15n hx hb hts in_f_X3_putOut_X8 hown hK hP (va_Nw.use rfl (hG.1 _ (List.mem_of_getElem? (i := 38) rfl))) dX3_putOut_65 ?_
        refine lv_iload_n hx hb dX3_putOut_68 rfl (lv_at hl 1 rfl) ?_
        obtain ⟨q1, h⟩ := kr_ite1 h
        obtain ⟨q2, h⟩ := kr_ite1 h
        refine hcp_13_22 hx hb (hml.trans hl.1.symm) hown (hts _ (List.mem_cons_of_mem _ (List.mem_append_left _ (List.mem_append_left _ (List.mem_of_getElem? (i := 14) rfl))))) (hts _ (List.mem_cons_of_mem _ (List.mem_append_left _ (List.mem_append_left _ (List.mem_of_getElem? (i := 15) rfl))))) (hts _ (List.mem_cons_of_mem _ (List.mem_append_left _ (List.mem_append_left _ (List.mem_of_getElem? (i := 16) rfl))))) (hts _ (List.mem_cons_of_mem _ (List.mem_append_left _ (List.mem_append_left _ (List.mem_of_getElem? (i := 17) rfl))))) hK hP hD hS q1 q2 (Nat.le_of_ble_eq_true rfl) (Nat.le_of_ble_eq_true rfl) dX3_putOut_69 (fun H locs hP hD hS => ?_)
        exact ih.2.1 z _ _ L (uF σ 22 (va_cpy (σ.2.2.1 13) (σ.2.2.1 22) (0 : Int32).toNatClampNeg ((σ.1 1915)).toNatClampNeg ((L.1 1)).toNatClampNeg)) _ h hzk hc hs H locs ls hP hD hS (lv_sub hl [0] rfl)
  exact (blk k0).1 z 0 0 L0 σ0 r0 h0 (zk_rf _ _) ((Nat.zero_add _).trans hmc) ((Nat.zero_add _).trans hms) s.heap [] ls hP hD hS hl
/-! X3_print -/
def f_X3_print : Nat → Nat → LV → CS → Option RS
  | 0, _, _, _ => none
  | k + 1, 0, L, σ => f_X3_print k 1 (lI L 2 ((((σ.1 1902)) - ((L.1 1))))) σ
  | k + 1, 1, L, σ => if ((σ.1 1902)) ≤ ((L.1 2)) then (f_X3_print k 2 L σ) else (if ((L.1 2)) ≤ ((((σ.1 1902)) - ((L.1 1)))) then (f_X3_print k 3 L σ) else (if ¬ (((L.1 2)) < 0 ∨ (sN σ 20) ≤ ((L.1 2)).toNatClampNeg) then (if ¬ (((((L.1 2)) - 1)) < 0 ∨ (sN σ 20) ≤ ((((L.1 2)) - 1)).toNatClampNeg) then (if ((σ.2.2.1 20 ((L.1 2)).toNatClampNeg)) = ((σ.2.2.1 20 ((((L.1 2)) - 1)).toNatClampNeg)) then (f_X3_print k 4 (lI L 100 1) σ) else (f_X3_print k 3 L σ)) else none) else none))
  | k + 1, 2, L, σ => some ((0, 0), (uI σ 1902 ((((σ.1 1902)) - ((L.1 1))))), (0, 0))
  | k + 1, 3, L, σ => f_X3_print k 4 (lI L 100 0) σ
  | k + 1, 4, L, σ => if ((σ.1 1915)) < 60000 then (f_X3_print k 5 (lI L 3 ((L.1 100))) σ) else (if ¬ (((L.1 2)) < 0 ∨ (sN σ 20) ≤ ((L.1 2)).toNatClampNeg) then (op (y_X1_kind k 0 (lI lZ 1 ((σ.2.2.1 20 ((L.1 2)).toNatClampNeg))) σ) (fun r3 => if r3.1 = 4 then (if ¬ (((L.1 2)) < 0 ∨ (sN r3.2 20) ≤ ((L.1 2)).toNatClampNeg) then (op (y_X1_length k 0 (lI lZ 1 ((r3.2.2.2.1 20 ((L.1 2)).toNatClampNeg))) r3.2) (fun r6 => op (y_X3_countOut k 0 (lI lZ 1 ((r6.1 + 1))) r6.2) (fun r7 => f_X3_print k 6 L r7.2))) else none) else (f_X3_print k 5 (lI L 3 ((L.1 100))) r3.2))) else none)
  | k + 1, 5, L, σ => if ((σ.1 1915)) < 60000 then (f_X3_print k 7 L σ) else (if ((L.1 3)) = 0 then (f_X3_print k 7 L σ) else (op (y_X3_countOut k 0 (lI lZ 1 ((σ.1 1203))) σ) (fun r3 => f_X3_print k 6 L r3.2)))
  | k + 1, 6, L, σ => f_X3_print k 1 (lI L 2 ((((L.1 2)) + 1))) σ
  | k + 1, 7, L, σ => if ¬ (((L.1 2)) < 0 ∨ (sN σ 20) ≤ ((L.1 2)).toNatClampNeg) then (ox (f_X6_printPlain k 0 (lI lZ 1 ((σ.2.2.1 20 ((L.1 2)).toNatClampNeg))) σ) (fun r2 => if ((((r2.2.1.1 1902)) - 1)) ≤ ((L.1 2)) then (f_X3_print k 8 L r2.2.1) else (f_X3_print k 9 (lI L 100 32) r2.2.1))) else none
  | k + 1, 8, L, σ => f_X3_print k 9 (lI L 100 10) σ
  | k + 1, 9, L, σ => op (y_X6_put k 0 (lI lZ 1 ((L.1 100))) σ) (fun r1 => ox (f_X3_putOut k 0 lZ r1.2) (fun r2 => f_X3_print k 6 L r2.2.1))
  | _ + 1, _ + 10, _, _ => none
def o_f_X3_print : List Cond := [.fieldLink RX3 14 "SetHouse$Machine" "run" "LSetHouse$Run;", .fieldLink RX3 18 "SetHouse$Machine" "stack" "[I", .constant RX3 300 (60000), .fieldLink RX3 39 "SetHouse$Machine" "heap" "LSetHouse$Heap;", .methodLink RX3 396 yX1_kind, .instanceMethod yX1_kind, .selects RX1 yX1_kind yX1_kind, .initialized RX1, .methodLink RX3 399 yX1_length, .instanceMethod yX1_length, .selects RX1 yX1_length yX1_length, .methodLink RX3 402 yX3_countOut, .instanceMethod yX3_countOut, .selects RX3 yX3_countOut yX3_countOut, .initialized RX3, .fieldLink RX3 51 "SetHouse$Machine" "printer" "LSetHouse$Printer;", .methodLink RX3 409 yX6_printPlain, .instanceMethod yX6_printPlain, .selects RX6 yX6_printPlain yX6_printPlain, .initialized RX6, .methodLink RX3 412 yX6_put, .instanceMethod yX6_put, .selects RX6 yX6_put yX6_put, .methodLink RX3 415 yX3_putOut, .instanceMethod yX3_putOut, .selects RX3 yX3_putOut yX3_putOut]
theorem o_f_X3_print_good : o_f_X3_print.all goodWord = true := by decide +kernel
def p_f_X3_print : List Cond := o_f_X3_print ++ ((.code yX1_kind cX1_kind 2 (some .int) :: p_y_X1_kind) ++ ((.code yX1_length cX1_length 2 (some .int) :: p_y_X1_length) ++ ((.code yX3_countOut cX3_countOut 2 none :: p_y_X3_countOut) ++ ((.code yX6_printPlain cX6_printPlain 2 none :: p_f_X6_printPlain) ++ ((.code yX6_put cX6_put 2 none :: p_y_X6_put) ++ ((.code yX3_putOut cX3_putOut 2 none :: p_f_X3_putOut) ++ []))))))
theorem p_f_X3_print_good : p_f_X3_print.all goodWord = true := nb_all2 o_f_X3_print_good (nb_all2 (nb_allc (by decide +kernel) p_y_X1_kind_good) (nb_all2 (nb_allc (by decide +kernel) p_y_X1_length_good) (nb_all2 (nb_allc (by decide +kernel) p_y_X3_countOut_good) (nb_all2 (nb_allc (by decide +kernel) p_f_X6_printPlain_good) (nb_all2 (nb_allc (by decide +kernel) p_y_X6_put_good) (nb_all2 (nb_allc (by decide +kernel) p_f_X3_putOut_good) rfl))))))
def w_f_X3_print : List Cond := .code yX3_print cX3_print 4 none :: (p_f_X3_print ++ fC)
theorem w_f_X3_print_good : w_f_X3_print.all goodWord = true := nb_allc (by decide +kernel) (nb_all2 p_f_X3_print_good fC_good)
theorem in_f_X3_print_X3 : ∀ w ∈ wsX30, w ∈ w_f_X3_print := fun _ h => List.mem_cons_of_mem _ (List.mem_append_right _ (List.mem_append_right _ (List.mem_append_right _ (List.mem_append_right _ (List.mem_append_left _ h)))))
theorem in_f_X3_print_X6 : ∀ w ∈ wsX60, w ∈ w_f_X3_print := fun _ h => List.mem_cons_of_mem _ (List.mem_append_right _ (List.mem_append_right _ (List.mem_append_right _ (List.mem_append_right _ (List.mem_append_right _ (List.mem_append_right _ (List.mem_append_left _ h)))))))
theorem in_f_X3_print_X8 : ∀ w ∈ wsX80, w ∈ w_f_X3_print := fun _ h => List.mem_cons_of_mem _ (List.mem_append_right _ (List.mem_append_right _ (List.mem_append_right _ (List.mem_append_right _ (List.mem_append_right _ (List.mem_append_right _ (List.mem_append_right _ (List.mem_append_right _ (List.mem_append_left _ h)))))))))
theorem hd_f_X3_print : yX3_print.cls = RX3 ∧ yX3_print.cls ≠ "java/lang/invoke/MethodHandle" ∧ yX3_print.cls ≠ "java/lang/invoke/VarHandle" ∧ (parseMethodDescriptor yX3_print.desc).map (fun d => d.parameters.length) = some 1 := by decide +kernel
theorem gg_f_X3_print_X3_putOut : GoodIn w_f_X3_print w_f_X3_putOut := goodIn_sub (fun w h => (List.mem_cons.mp h).elim (fun e => (List.mem_cons_of_mem _ (List.mem_append_left _ (List.mem_append_right _ (List.mem_append_right _ (List.mem_append_right _ (List.mem_append_right _ (List.mem_append_right _ (List.mem_append_right _ (List.mem_append_left _ (List.mem_cons.mpr (Or.inl e)))))))))))) (fun h => (List.mem_append.mp h).elim (fun h => (List.mem_cons_of_mem _ (List.mem_append_left _ (List.mem_append_right _ (List.mem_append_right _ (List.mem_append_right _ (List.mem_append_right _ (List.mem_append_right _ (List.mem_append_right _ (List.mem_append_left _ (List.mem_cons_of_mem _ h))))))))))) (fun h => List.mem_cons_of_mem _ (List.mem_append_right _ h)))) w_f_X3_putOut_good
theorem g_f_X3_print_X3_putOut_V415 : GoodIn w_f_X3_print (wsV RX3 415 RX3 yX3_putOut w_f_X3_putOut) := goodIn_app (nb_g4 (List.mem_cons_of_mem _ (List.mem_append_left _ (List.mem_append_left _ (List.mem_of_getElem? (i := 23) rfl)))) (List.mem_cons_of_mem _ (List.mem_append_left _ (List.mem_append_left _ (List.mem_of_getElem? (i := 24) rfl)))) (List.mem_cons_of_mem _ (List.mem_append_left _ (List.mem_append_left _ (List.mem_of_getElem? (i := 25) rfl)))) (List.mem_cons_of_mem _ (List.mem_append_left _ (List.mem_append_left _ (List.mem_of_getElem? (i := 14) rfl)))) (by decide +kernel)) gg_f_X3_print_X3_putOut
theorem gg_f_X3_print_X6_printPlain : GoodIn w_f_X3_print w_f_X6_printPlain := goodIn_sub (fun w h => (List.mem_cons.mp h).elim (fun e => (List.mem_cons_of_mem _ (List.mem_append_left _ (List.mem_append_right _ (List.mem_append_right _ (List.mem_append_right _ (List.mem_append_right _ (List.mem_append_left _ (List.mem_cons.mpr (Or.inl e)))))))))) (fun h => (List.mem_append.mp h).elim (fun h => (List.mem_cons_of_mem _ (List.mem_append_left _ (List.mem_append_right _ (List.mem_append_right _ (List.mem_append_right _ (List.mem_append_right _ (List.mem_append_left _ (List.mem_cons_of_mem _ h))))))))) (fun h => List.mem_cons_of_mem _ (List.mem_append_right _ h)))) w_f_X6_printPlain_good
theorem g_f_X3_print_X6_printPlain_V409 : GoodIn w_f_X3_print (wsV RX3 409 RX6 yX6_printPlain w_f_X6_printPlain) := goodIn_app (nb_g4 (List.mem_cons_of_mem _ (List.mem_append_left _ (List.mem_append_left _ (List.mem_of_getElem? (i := 16) rfl)))) (List.mem_cons_of_mem _ (List.mem_append_left _ (List.mem_append_left _ (List.mem_of_getElem? (i := 17) rfl)))) (List.mem_cons_of_mem _ (List.mem_append_left _ (List.mem_append_left _ (List.mem_of_getElem? (i := 18) rfl)))) (List.mem_cons_of_mem _ (List.mem_append_left _ (List.mem_append_left _ (List.mem_of_getElem? (i := 19) rfl)))) (by decide +kernel)) gg_f_X3_print_X6_printPlain
theorem gg_f_X3_print_X1_kind : GoodIn w_f_X3_print w_y_X1_kind := goodIn_sub (fun w h => (List.mem_cons.mp h).elim (fun e => (List.mem_cons_of_mem _ (List.mem_append_left _ (List.mem_append_right _ (List.mem_append_left _ (List.mem_cons.mpr (Or.inl e))))))) (fun h => (List.mem_append.mp h).elim (fun h => (List.mem_cons_of_mem _ (List.mem_append_left _ (List.mem_append_right _ (List.mem_append_left _ (List.mem_cons_of_mem _ h)))))) (fun h => List.mem_cons_of_mem _ (List.mem_append_right _ h)))) w_y_X1_kind_good
theorem g_y_X3_print_X1_kind_V396 : GoodIn w_f_X3_print (wsV RX3 396 RX1 yX1_kind w_y_X1_kind) := goodIn_app (nb_g4 (List.mem_cons_of_mem _ (List.mem_append_left _ (List.mem_append_left _ (List.mem_of_getElem? (i := 4) rfl)))) (List.mem_cons_of_mem _ (List.mem_append_left _ (List.mem_append_left _ (List.mem_of_getElem? (i := 5) rfl)))) (List.mem_cons_of_mem _ (List.mem_append_left _ (List.mem_append_left _ (List.mem_of_getElem? (i := 6) rfl)))) (List.mem_cons_of_mem _ (List.mem_append_left _ (List.mem_append_left _ (List.mem_of_getElem? (i := 7) rfl)))) (by decide +kernel)) gg_f_X3_print_X1_kind
theorem gg_f_X3_print_X1_length : GoodIn w_f_X3_print w_y_X1_length := goodIn_sub (fun w h => (List.mem_cons.mp h).elim (fun e => (List.mem_cons_of_mem _ (List.mem_append_left _ (List.mem_append_right _ (List.mem_append_right _ (List.mem_append_left _ (List.mem_cons.mpr (Or.inl e)))))))) (fun h => (List.mem_append.mp h).elim (fun h => (List.mem_cons_of_mem _ (List.mem_append_left _ (List.mem_append_right _ (List.mem_append_right _ (List.mem_append_left _ (List.mem_cons_of_mem _ h))))))) (fun h => List.mem_cons_of_mem _ (List.mem_append_right _ h)))) w_y_X1_length_good
theorem g_y_X3_print_X1_length_V399 : GoodIn w_f_X3_print (wsV RX3 399 RX1 yX1_length w_y_X1_length) := goodIn_app (nb_g4 (List.mem_cons_of_mem _ (List.mem_append_left _ (List.mem_append_left _ (List.mem_of_getElem? (i := 8) rfl)))) (List.mem_cons_of_mem _ (List.mem_append_left _ (List.mem_append_left _ (List.mem_of_getElem? (i := 9) rfl)))) (List.mem_cons_of_mem _ (List.mem_append_left _ (List.mem_append_left _ (List.mem_of_getElem? (i := 10) rfl)))) (List.mem_cons_of_mem _ (List.mem_append_left _ (List.mem_append_left _ (List.mem_of_getElem? (i := 7) rfl)))) (by decide +kernel)) gg_f_X3_print_X1_length
theorem gg_f_X3_print_X3_countOut : GoodIn w_f_X3_print w_y_X3_countOut := goodIn_sub (fun w h => (List.mem_cons.mp h).elim (fun e => (List.mem_cons_of_mem _ (List.mem_append_left _ (List.mem_append_right _ (List.mem_append_right _ (List.mem_append_right _ (List.mem_append_left _ (List.mem_cons.mpr (Or.inl e))))))))) (fun h => (List.mem_append.mp h).elim (fun h => (List.mem_cons_of_mem _ (List.mem_append_left _ (List.mem_append_right _ (List.mem_append_right _ (List.mem_append_right _ (List.mem_append_left _ (List.mem_cons_of_mem _ h)))))))) (fun h => List.mem_cons_of_mem _ (List.mem_append_right _ h)))) w_y_X3_countOut_good
theorem g_y_X3_print_X3_countOut_V402 : GoodIn w_f_X3_print (wsV RX3 402 RX3 yX3_countOut w_y_X3_countOut) := goodIn_app (nb_g4 (List.mem_cons_of_mem _ (List.mem_append_left _ (List.mem_append_left _ (List.mem_of_getElem? (i := 11) rfl)))) (List.mem_cons_of_mem _ (List.mem_append_left _ (List.mem_append_left _ (List.mem_of_getElem? (i := 12) rfl)))) (List.mem_cons_of_mem _ (List.mem_append_left _ (List.mem_append_left _ (List.mem_of_getElem? (i := 13) rfl)))) (List.mem_cons_of_mem _ (List.mem_append_left _ (List.mem_append_left _ (List.mem_of_getElem? (i := 14) rfl)))) (by decide +kernel)) gg_f_X3_print_X3_countOut
theorem gg_f_X3_print_X6_put : GoodIn w_f_X3_print w_y_X6_put := goodIn_sub (fun w h => (List.mem_cons.mp h).elim (fun e => (List.mem_cons_of_mem _ (List.mem_append_left _ (List.mem_append_right _ (List.mem_append_right _ (List.mem_append_right _ (List.mem_append_right _ (List.mem_append_right _ (List.mem_append_left _ (List.mem_cons.mpr (Or.inl e))))))))))) (fun h => (List.mem_append.mp h).elim (fun h => (List.mem_cons_of_mem _ (List.mem_append_left _ (List.mem_append_right _ (List.mem_append_right _ (List.mem_append_right _ (List.mem_append_right _ (List.mem_append_right _ (List.mem_append_left _ (List.mem_cons_of_mem _ h)))))))))) (fun h => List.mem_cons_of_mem _ (List.mem_append_right _ h)))) w_y_X6_put_good
theorem g_y_X3_print_X6_put_V412 : GoodIn w_f_X3_print (wsV RX3 412 RX6 yX6_put w_y_X6_put) := goodIn_app (nb_g4 (List.mem_cons_of_mem _ (List.mem_append_left _ (List.mem_append_left _ (List.mem_of_getElem? (i := 20) rfl)))) (List.mem_cons_of_mem _ (List.mem_append_left _ (List.mem_append_left _ (List.mem_of_getElem? (i := 21) rfl)))) (List.mem_cons_of_mem _ (List.mem_append_left _ (List.mem_append_left _ (List.mem_of_getElem? (i := 22) rfl)))) (List.mem_cons_of_mem _ (List.mem_append_left _ (List.mem_append_left _ (List.mem_of_getElem? (i := 19) rfl)))) (by decide +kernel)) gg_f_X3_print_X6_put
set_option maxHeartbeats 40000000 in
set_option maxRecDepth 100000 in
theorem c_f_X3_print (l : Launch) (hl0 : l.stackTraces = false) (dC : Nat → ClassId) (dI : Nat → Nat → Nat) (cy : Nat → ClassId) (ek a : Nat → Nat) (k0 : Nat) (L0 : LV) (σ0 : CS) (r0 : RS) (h0 : f_X3_print k0 0 L0 σ0 = some r0) (z : Nat → Nat) (sz : Nat) : vx_Met l yX3_print w_f_X3_print ({ frames := 87, cells := r0.2.2.1, slots := r0.2.2.2, locals := 2152 }) (va_Pc [.ref (a 18), .int (L0.1 1)] (nInF (dC, dI) cy ek sz (vC cy a z σ0))) (xV dC dI cy a (va_A (vC cy a z σ0) sz) [22] z r0) (xX dC dI cy a (va_A (vC cy a z σ0) sz) [22] z r0) r0.2.2.1 r0.2.2.2 (va_A (vC cy a z σ0) sz) := by
  refine vx_ofW (cc := cX3_print) (maxL := 4) (ret := none) (by decide) rfl ?_
  intro p e s m args below meth c s₁ B hml hno hv
  obtain ⟨rfl, ⟨⟨hsz, hP, hK, hD0, hG⟩, hE⟩, hT⟩ := hv
  have hx := B.exec
  have hb := B.bytes
  have hr := B.returns
  have hts := atoms_spec (ws := w_f_X3_print) B.pre
  have hown : s.vm.findClass RX3 = some m.cls := findClass_of_methodNamed B.named
  have hlocks := B.notSynchronized
  subst hsz
  have hD := hD0.self (sz := s.heap.size)
  generalize hAe : va_A (vC cy a z σ0) s.heap.size = A at hD hE hT ⊢
  have hA : ∀ q : Nat, s.heap.size ≤ q → A q := fun q h => by rw [← hAe]; exact Or.inr h
  have hS : va_S A s.heap s.heap [] := va_S.rf
  have hl := lv_entry ([.ref (a 18), .int (L0.1 1)]) (n := 4) (Nat.le_of_ble_eq_true rfl)
  rw [lg_entry_eq]
  generalize (lg_sl ([.ref (a 18), .int (L0.1 1)]) ++ List.replicate (4 - (lg_sl ([.ref (a 18), .int (L0.1 1)])).length) Slot.unset).toArray = ls at hl ⊢
  have hl : lv_has ls 4 [(0, .ref (a 18)), (1, .int (L0.1 1))] := hl
  generalize hmc : r0.2.2.1 = mc
  generalize hms : r0.2.2.2 = ms
  have blk : ∀ k : Nat, (bX p l e (headSpec w_f_X3_print ({ frames := 87, cells := mc, slots := ms, locals := 2152 })).room s m #[.ref (a 18), .int (L0.1 1)] below meth c dC dI cy a A (fun r => vx_MQ below (xV dC dI cy a A [22] z r) (xX dC dI cy a A [22] z r) #[.ref (a 18), .int (L0.1 1)] s mc ms A) [22] z mc ms 4 (f_X3_print k 0) (fun z L => [(0, .ref (a 18)), (1, .int (L.1 1))]) 0 (fun z L => [])) ∧ (bX p l e (headSpec w_f_X3_print ({ frames := 87, cells := mc, slots := ms, locals := 2152 })).room s m #[.ref (a 18), .int (L0.1 1)] below meth c dC dI cy a A (fun r => vx_MQ below (xV dC dI cy a A [22] z r) (xX dC dI cy a A [22] z r) #[.ref (a 18), .int (L0.1 1)] s mc ms A) [22] z mc ms 4 (f_X3_print k 1) (fun z L => [(0, .ref (a 18)), (1, .int (L.1 1)), (2, .int (L.1 2))]) 10 (fun z L => [])) ∧ (bX p l e (headSpec w_f_X3_print ({ frames := 87, cells := mc, slots := ms, locals := 2152 })).room s m #[.ref (a 18), .int (L0.1 1)] below meth c dC dI cy a A (fun r => vx_MQ below (xV dC dI cy a A [22] z r) (xX dC dI cy a A [22] z r) #[.ref (a 18), .int (L0.1 1)] s mc ms A) [22] z mc ms 4 (f_X3_print k 2) (fun z L => [(0, .ref (a 18)), (1, .int (L.1 1))]) 190 (fun z L => [])) ∧ (bX p l e (headSpec w_f_X3_print ({ frames := 87, cells := mc, slots := ms, locals := 2152 })).room s m #[.ref (a 18), .int (L0.1 1)] below meth c dC dI cy a A (fun r => vx_MQ below (xV dC dI cy a A [22] z r) (xX dC dI cy a A [22] z r) #[.ref (a 18), .int (L0.1 1)] s mc ms A) [22] z mc ms 4 (f_X3_print k 3) (fun z L => [(0, .ref (a 18)), (1, .int (L.1 1)), (2, .int (L.1 2))]) 55 (fun z L => [])) ∧ (bX p l e (headSpec w_f_X3_print ({ frames := 87, cells := mc, slots := ms, locals := 2152 })).room s m #[.ref (a 18), .int (L0.1 1)] below meth c dC dI cy a A (fun r => vx_MQ below (xV dC dI cy a A [22] z r) (xX dC dI cy a A [22] z r) #[.ref (a 18), .int (L0.1 1)] s mc ms A) [22] z mc ms 4 (f_X3_print k 4) (fun z L => [(0, .ref (a 18)), (1, .int (L.1 1)), (2, .int (L.1 2))]) 56 (fun z L => [.int (L.1 100)])) ∧ (bX p l e (headSpec w_f_X3_print ({ frames := 87, cells := mc, slots := ms, locals := 2152 })).room s m #[.ref (a 18), .int (L0.1 1)] below meth c dC dI cy a A (fun r => vx_MQ below (xV dC dI cy a A [22] z r) (xX dC dI cy a A [22] z r) #[.ref (a 18), .int (L0.1 1)] s mc ms A) [22] z mc ms 4 (f_X3_print k 5) (fun z L => [(0, .ref (a 18)), (1, .int (L.1 1)), (2, .int (L.1 2)), (3, .int (L.1 3))]) 109 (fun z L => [])) ∧ (bX p l e (headSpec w_f_X3_print ({ frames := 87, cells := mc, slots := ms, locals := 2152 })).room s m #[.ref (a 18), .int (L0.1 1)] below meth c dC dI cy a A (fun r => vx_MQ below (xV dC dI cy a A [22] z r) (xX dC dI cy a A [22] z r) #[.ref (a 18), .int (L0.1 1)] s mc ms A) [22] z mc ms 4 (f_X3_print k 6) (fun z L => [(0, .ref (a 18)), (1, .int (L.1 1)), (2, .int (L.1 2))]) 184 (fun z L => [])) ∧ (bX p l e (headSpec w_f_X3_print ({ frames := 87, cells := mc, slots := ms, locals := 2152 })).room s m #[.ref (a 18), .int (L0.1 1)] below meth c dC dI cy a A (fun r => vx_MQ below (xV dC dI cy a A [22] z r) (xX dC dI cy a A [22] z r) #[.ref (a 18), .int (L0.1 1)] s mc ms A) [22] z mc ms 4 (f_X3_print k 7) (fun z L => [(0, .ref (a 18)), (1, .int (L.1 1)), (2, .int (L.1 2))]) 140 (fun z L => [])) ∧ (bX p l e (headSpec w_f_X3_print ({ frames := 87, cells := mc, slots := ms, locals := 2152 })).room s m #[.ref (a 18), .int (L0.1 1)] below meth c dC dI cy a A (fun r => vx_MQ below (xV dC dI cy a A [22] z r) (xX dC dI cy a A [22] z r) #[.ref (a 18), .int (L0.1 1)] s mc ms A) [22] z mc ms 4 (f_X3_print k 8) (fun z L => [(0, .ref (a 18)), (1, .int (L.1 1)), (2, .int (L.1 2))]) 175 (fun z L => [.ref (a 12)])) ∧ (bX p l e (headSpec w_f_X3_print ({ frames := 87, cells := mc, slots := ms, locals := 2152 })).room s m #[.ref (a 18), .int (L0.1 1)] below meth c dC dI cy a A (fun r => vx_MQ below (xV dC dI cy a A [22] z r) (xX dC dI cy a A [22] z r) #[.ref (a 18), .int (L0.1 1)] s mc ms A) [22] z mc ms 4 (f_X3_print k 9) (fun z L => [(0, .ref (a 18)), (1, .int (L.1 1)), (2, .int (L.1 2))]) 177 (fun z L => [.int (L.1 100), .ref (a 12)])) := by
    intro k
    induction k with
    | zero => exact ⟨fun z c1 c2 L σ r h => (by cases h), fun z c1 c2 L σ r h => (by cases h), fun z c1 c2 L σ r h => (by cases h), fun z c1 c2 L σ r h => (by cases h), fun z c1 c2 L σ r h => (by cases h), fun z c1 c2 L σ r h => (by cases h), fun z c1 c2 L σ r h => (by cases h), fun z c1 c2 L σ r h => (by cases h), fun z c1 c2 L σ r h => (by cases h), fun z c1 c2 L σ r h => (by cases h)⟩
    | succ k ih =>
      refine ⟨?_, ?_, ?_, ?_, ?_, ?_, ?_, ?_, ?_, ?_⟩
      · intro z cells slots L σ r h hzk hc hs H locs ls hP hD hS hl
        rw [f_X3_print] at h
        refine lv_aload_n hx hb dX3_print_0 rfl (lv_at hl 0 rfl) ?_
        refine hg_18_5 hx hb hts in_f_X3_print_X3 hown hK hP (hts _ (List.mem_cons_of_mem _ (List.mem_append_left _ (List.mem_append_left _ (List.mem_of_getElem? (i := 0) rfl))))) dX3_print_1 ?_
        refine hg_19_2n hx hb hts in_f_X3_print_X8 hown hK hP (va_Nw.use rfl (hG.1 _ (List.mem_of_getElem? (i := 10) rfl))) dX3_print_4 ?_
        refine lv_iload_n hx hb dX3_print_7 rfl (lv_at hl 1 rfl) ?_
        refine lv_isub hx hb dX3_print_8 ?_
        refine lv_istore_n (lv' := [(2, .int (((σ.1 1902)) - ((L.1 1)))), (0, .ref (a 18)), (1, .int (L.1 1))]) hx hb dX3_print_9 rfl hl (by decide) rfl (fun ls hl => ?_)
        exact ih.2.1 z _ _ (lI L 2 ((((σ.1 1902)) - ((L.1 1))))) σ _ h hzk hc hs H locs ls hP hD hS (lv_sub hl [1, 2, 0] rfl)
      · intro z cells slots L σ r h hzk hc hs H locs ls hP hD hS hl
        rw [f_X3_print] at h
        refine lv_iload_n hx hb dX3_print_10 rfl (lv_at hl 2 rfl) ?_
        refine lv_aload_n hx hb dX3_print_11 rfl (lv_at hl 0 rfl) ?_
        refine hg_18_5 hx hb hts in_f_X3_print_X3 hown hK hP (hts _ (List.mem_cons_of_mem _ (List.mem_append_left _ (List.mem_append_left _ (List.mem_of_getElem? (i := 0) rfl))))) dX3_print_12 ?_
        refine hg_19_2n hx hb hts in_f_X3_print_X8 hown hK hP (va_Nw.use rfl (hG.1 _ (List.mem_of_getElem? (i := 10) rfl))) dX3_print_15 ?_
        refine lv_icmp_ge (tgt := 190) hx hb dX3_print_18 (by decide) (fun c1 => ?_) (fun c1 => ?_)
        · rw [if_pos c1] at h
          exact ih.2.2.1 z _ _ L σ _ h hzk hc hs H locs ls hP hD hS (lv_sub hl [0, 1] rfl)
        · rw [if_neg c1] at h
          refine lv_iload_n hx hb dX3_print_21 rfl (lv_at hl 2 rfl) ?_
          refine lv_aload_n hx hb dX3_print_22 rfl (lv_at hl 0 rfl) ?_
          refine hg_18_5 hx hb hts in_f_X3_print_X3 hown hK hP (hts _ (List.mem_cons_of_mem _ (List.mem_append_left _ (List.mem_append_left _ (List.mem_of_getElem? (i := 0) rfl))))) dX3_print_23 ?_
          refine hg_19_2n hx hb hts in_f_X3_print_X8 hown hK hP (va_Nw.use rfl (hG.1 _ (List.mem_of_getElem? (i := 10) rfl))) dX3_print_26 ?_
          refine lv_iload_n hx hb dX3_print_29 rfl (lv_at hl 1 rfl) ?_
          refine lv_isub hx hb dX3_print_30 ?_
          refine lv_icmp_le (tgt := 55) hx hb dX3_print_31 (by decide) (fun c2 => ?_) (fun c2 => ?_)
          · rw [if_pos c2] at h
            exact ih.2.2.2.1 z _ _ L σ _ h hzk hc hs H locs ls hP hD hS (lv_sub hl [0, 1, 2] rfl)
          · rw [if_neg c2] at h
            refine lv_aload_n hx hb dX3_print_34 rfl (lv_at hl 0 rfl) ?_
            refine hg_18_7 hx hb hts in_f_X3_print_X3 hown hK hP (hts _ (List.mem_cons_of_mem _ (List.mem_append_left _ (List.mem_append_left _ (List.mem_of_getElem? (i := 1) rfl))))) dX3_print_35 ?_
            refine lv_iload_n hx hb dX3_print_38 rfl (lv_at hl 2 rfl) ?_
            obtain ⟨q3, h⟩ := kr_ite1 h
            refine hl_20 hx hb hK hP q3 dX3_print_39 ?_
            refine lv_aload_n hx hb dX3_print_40 rfl (lv_at hl 0 rfl) ?_
            refine hg_18_7 hx hb hts in_f_X3_print_X3 hown hK hP (hts _ (List.mem_cons_of_mem _ (List.mem_append_left _ (List.mem_append_left _ (List.mem_of_getElem? (i := 1) rfl))))) dX3_print_41 ?_
            refine lv_iload_n hx hb dX3_print_44 rfl (lv_at hl 2 rfl) ?_
            refine lv_iconst (v := 1) hx hb dX3_print_45 (by decide) ?_
            refine lv_isub hx hb dX3_print_46 ?_
            obtain ⟨q4, h⟩ := kr_ite1 h
            refine hl_20 hx hb hK hP q4 dX3_print_47 ?_
            refine lv_icmp_ne (tgt := 55) hx hb dX3_print_48 (by decide) (fun c5 => ?_) (fun c5 => ?_)
            · rw [if_neg c5] at h
              exact ih.2.2.2.1 z _ _ L σ _ h hzk hc hs H locs ls hP hD hS (lv_sub hl [0, 1, 2] rfl)
            · rw [if_pos c5] at h
              refine lv_iconst (v := 1) hx hb dX3_print_51 (by decide) ?_
              refine lv_goto (tgt := 56) hx hb dX3_print_52 (by decide) ?_
              exact ih.2.2.2.2.1 z _ _ (lI L 100 1) σ _ h hzk hc hs H locs ls hP hD hS (lv_sub hl [0, 1, 2] rfl)
      · intro z cells slots L σ r h hzk hc hs H locs ls hP hD hS hl
        rw [f_X3_print] at h
        refine lv_aload_n hx hb dX3_print_190 rfl (lv_at hl 0 rfl) ?_
        refine hg_18_5 hx hb hts in_f_X3_print_X3 hown hK hP (hts _ (List.mem_cons_of_mem _ (List.mem_append_left _ (List.mem_append_left _ (List.mem_of_getElem? (i := 0) rfl))))) dX3_print_191 ?_
        refine lv_aload_n hx hb dX3_print_194 rfl (lv_at hl 0 rfl) ?_
        refine hg_18_5 hx hb hts in_f_X3_print_X3 hown hK hP (hts _ (List.mem_cons_of_mem _ (List.mem_append_left _ (List.mem_append_left _ (List.mem_of_getElem? (i := 0) rfl))))) dX3_print_195 ?_
        refine hg_19_2n hx hb hts in_f_X3_print_X8 hown hK hP (va_Nw.use rfl (hG.1 _ (List.mem_of_getElem? (i := 10) rfl))) dX3_print_198 ?_
        refine lv_iload_n hx hb dX3_print_201 rfl (lv_at hl 1 rfl) ?_
        refine lv_isub hx hb dX3_print_202 ?_
        refine hp_19_2n hx hb hts in_f_X3_print_X8 hown hK hP hD hS (va_Nw.use rfl (hG.1 _ (List.mem_of_getElem? (i := 10) rfl))) dX3_print_203 (fun H locs hP hD hS => ?_)
        obtain rfl := Option.some.inj h
        subst hc
        subst hs
        exact xr_v hx hb hr hK hzk hP hD hS hlocks dX3_print_206
      · intro z cells slots L σ r h hzk hc hs H locs ls hP hD hS hl
        rw [f_X3_print] at h
        refine lv_iconst (v := 0) hx hb dX3_print_55 (by decide) ?_
        exact ih.2.2.2.2.1 z _ _ (lI L 100 0) σ _ h hzk hc hs H locs ls hP hD hS (lv_sub hl [0, 1, 2] rfl)
      · intro z cells slots L σ r h hzk hc hs H locs ls hP hD hS hl
        rw [f_X3_print] at h
        refine lv_istore_n (lv' := [(3, .int (L.1 100)), (0, .ref (a 18)), (1, .int (L.1 1)), (2, .int (L.1 2))]) hx hb dX3_print_56 rfl hl (by decide) rfl (fun ls hl => ?_)
        refine lv_aload_n hx hb dX3_print_57 rfl (lv_at hl 1 rfl) ?_
        refine hg_18_5 hx hb hts in_f_X3_print_X3 hown hK hP (hts _ (List.mem_cons_of_mem _ (List.mem_append_left _ (List.mem_append_left _ (List.mem_of_getElem? (i := 0) rfl))))) dX3_print_58 ?_
        refine hg_19_15n hx hb hts in_f_X3_print_X8 hown hK hP (va_Nw.use rfl (hG.1 _ (List.mem_of_getElem? (i := 38) rfl))) dX3_print_61 ?_
        refine lv_ldcw (v := 60000) hx hb hown (hts _ (List.mem_cons_of_mem _ (List.mem_append_left _ (List.mem_append_left _ (List.mem_of_getElem? (i := 2) rfl))))) dX3_print_64 ?_
        refine lv_icmp_lt (tgt := 109) hx hb dX3_print_67 (by decide) (fun c1 => ?_) (fun c1 => ?_)
        · rw [if_pos c1] at h
          exact ih.2.2.2.2.2.1 z _ _ (lI L 3 ((L.1 100))) σ _ h hzk hc hs H locs ls hP hD hS (lv_sub hl [1, 2, 3, 0] rfl)
        · rw [if_neg c1] at h
          refine lv_aload_n hx hb dX3_print_70 rfl (lv_at hl 1 rfl) ?_
          refine hg_18_0 hx hb hts in_f_X3_print_X3 hown hK hP (hts _ (List.mem_cons_of_mem _ (List.mem_append_left _ (List.mem_append_left _ (List.mem_of_getElem? (i := 3) rfl))))) dX3_print_71 ?_
          refine lv_aload_n hx hb dX3_print_74 rfl (lv_at hl 1 rfl) ?_
          refine hg_18_7 hx hb hts in_f_X3_print_X3 hown hK hP (hts _ (List.mem_cons_of_mem _ (List.mem_append_left _ (List.mem_append_left _ (List.mem_of_getElem? (i := 1) rfl))))) dX3_print_75 ?_
          refine lv_iload_n hx hb dX3_print_78 rfl (lv_at hl 3 rfl) ?_
          obtain ⟨q2, h⟩ := kr_ite1 h
          refine hl_20 hx hb hK hP q2 dX3_print_79 ?_
          obtain ⟨r3, hc3, h⟩ := op_ex h
          refine kc_i (va_runV (As := [.int (σ.2.2.1 20 ((L.1 2)).toNatClampNeg)]) (rest := []) ⟨hx, hb, hml, hown, hts⟩ (c_y_X1_kind l dC dI cy a z k (lI lZ 1 ((σ.2.2.1 20 ((L.1 2)).toNatClampNeg))) σ r3 hc3 H.size) (cwV 1 hts g_y_X3_print_X1_kind_V396 rfl rfl rfl hd_y_X1_kind ⟨Nat.le_of_ble_eq_true rfl, Nat.le_of_ble_eq_true rfl⟩) ⟨nb_blind, va_recv hK hP (ci := 1) (q0 := 0) rfl rfl, (kb_pre hK hG hP hD)⟩ rfl rfl hl.1 rfl (lv_room (Nat.le_of_ble_eq_true rfl)) dX3_print_80 ⟨(Nat.le_trans (Nat.le_add_right _ _) (Nat.le_of_eq hc)), (Nat.le_trans (Nat.le_add_right _ _) (Nat.le_of_eq hs))⟩) hA hP hD hS (fun H locs hP hD hS => ?_)
          refine lv_iconst (v := 4) hx hb dX3_print_83 (by decide) ?_
          refine lv_icmp_ne (tgt := 109) hx hb dX3_print_84 (by decide) (fun c4 => ?_) (fun c4 => ?_)
          · rw [if_neg c4] at h
            exact ih.2.2.2.2.2.1 z _ _ (lI L 3 ((L.1 100))) r3.2 _ h hzk hc hs H locs ls hP hD hS (lv_sub hl [1, 2, 3, 0] rfl)
          · rw [if_pos c4] at h
            refine lv_aload_n hx hb dX3_print_87 rfl (lv_at hl 1 rfl) ?_
            refine lv_aload_n hx hb dX3_print_88 rfl (lv_at hl 1 rfl) ?_
            refine hg_18_0 hx hb hts in_f_X3_print_X3 hown hK hP (hts _ (List.mem_cons_of_mem _ (List.mem_append_left _ (List.mem_append_left _ (List.mem_of_getElem? (i := 3) rfl))))) dX3_print_89 ?_
            refine lv_aload_n hx hb dX3_print_92 rfl (lv_at hl 1 rfl) ?_
            refine hg_18_7 hx hb hts in_f_X3_print_X3 hown hK hP (hts _ (List.mem_cons_of_mem _ (List.mem_append_left _ (List.mem_append_left _ (List.mem_of_getElem? (i := 1) rfl))))) dX3_print_93 ?_
            refine lv_iload_n hx hb dX3_print_96 rfl (lv_at hl 3 rfl) ?_
            obtain ⟨q5, h⟩ := kr_ite1 h
            refine hl_20 hx hb hK hP q5 dX3_print_97 ?_
            obtain ⟨r6, hc6, h⟩ := op_ex h
            refine kc_i (va_runV (As := [.int (r3.2.2.2.1 20 ((L.1 2)).toNatClampNeg)]) (rest := [.ref (a 18)]) ⟨hx, hb, hml, hown, hts⟩ (c_y_X1_length l dC dI cy a z k (lI lZ 1 ((r3.2.2.2.1 20 ((L.1 2)).toNatClampNeg))) r3.2 r6 hc6 H.size) (cwV 1 hts g_y_X3_print_X1_length_V399 rfl rfl rfl hd_y_X1_length ⟨Nat.le_of_ble_eq_true rfl, Nat.le_of_ble_eq_true rfl⟩) ⟨nb_blind, va_recv hK hP (ci := 1) (q0 := 0) rfl rfl, (kb_pre hK hG hP hD)⟩ rfl rfl hl.1 rfl (lv_room (Nat.le_of_ble_eq_true rfl)) dX3_print_98 ⟨(Nat.le_trans (Nat.le_add_right _ _) (Nat.le_of_eq hc)), (Nat.le_trans (Nat.le_add_right _ _) (Nat.le_of_eq hs))⟩) hA hP hD hS (fun H locs hP hD hS => ?_)
            refine lv_iconst (v := 1) hx hb dX3_print_101 (by decide) ?_
            refine lv_iadd hx hb dX3_print_102 ?_
            obtain ⟨r7, hc7, h⟩ := op_ex h
            refine kc_v (va_runV (As := [.int (r6.1 + 1)]) (rest := []) ⟨hx, hb, hml, hown, hts⟩ (c_y_X3_countOut l dC dI cy a z k (lI lZ 1 ((r6.1 + 1))) r6.2 r7 hc7 H.size) (cwV 1 hts g_y_X3_print_X3_countOut_V402 rfl rfl rfl hd_y_X3_countOut ⟨Nat.le_of_ble_eq_true rfl, Nat.le_of_ble_eq_true rfl⟩) ⟨nb_blind, va_recv hK hP (ci := 3) (q0 := 18) rfl rfl, (kb_pre hK hG hP hD)⟩ rfl rfl hl.1 rfl (lv_room (Nat.le_of_ble_eq_true rfl)) dX3_print_103 ⟨(Nat.le_trans (Nat.le_add_right _ _) (Nat.le_of_eq hc)), (Nat.le_trans (Nat.le_add_right _ _) (Nat.le_of_eq hs))⟩) hA hP hD hS (fun H locs hP hD hS => ?_)
            refine lv_goto (tgt := 184) hx hb dX3_print_106 (by decide) ?_
            exact ih.2.2.2.2.2.2.1 z _ _ L r7.2 _ h hzk hc hs H locs ls hP hD hS (lv_sub hl [1, 2, 3] rfl)
      · intro z cells slots L σ r h hzk hc hs H locs ls hP hD hS hl
        rw [f_X3_print] at h
        refine lv_aload_n hx hb dX3_print_109 rfl (lv_at hl 0 rfl) ?_
        refine hg_18_5 hx hb hts in_f_X3_print_X3 hown hK hP (hts _ (List.mem_cons_of_mem _ (List.mem_append_left _ (List.mem_append_left _ (List.mem_of_getElem? (i := 0) rfl))))) dX3_print_110 ?_
        refine hg_19_15n hx hb hts in_f_X3_print_X8 hown hK hP (va_Nw.use rfl (hG.1 _ (List.mem_of_getElem? (i := 38) rfl))) dX3_print_113 ?_
        refine lv_ldcw (v := 60000) hx hb hown (hts _ (List.mem_cons_of_mem _ (List.mem_append_left _ (List.mem_append_left _ (List.mem_of_getElem? (i := 2) rfl))))) dX3_print_116 ?_
        refine lv_icmp_lt (tgt := 140) hx hb dX3_print_119 (by decide) (fun c1 => ?_) (fun c1 => ?_)
        · rw [if_pos c1] at h
          exact ih.2.2.2.2.2.2.2.1 z _ _ L σ _ h hzk hc hs H locs ls hP hD hS (lv_sub hl [0, 1, 2] rfl)
        · rw [if_neg c1] at h
          refine lv_iload_n hx hb dX3_print_122 rfl (lv_at hl 3 rfl) ?_
          refine lv_if_eq (tgt := 140) hx hb dX3_print_123 (by decide) (fun c2 => ?_) (fun c2 => ?_)
          · rw [if_pos c2] at h
            exact ih.2.2.2.2.2.2.2.1 z _ _ L σ _ h hzk hc hs H locs ls hP hD hS (lv_sub hl [0, 1, 2] rfl)
          · rw [if_neg c2] at h
            refine lv_aload_n hx hb dX3_print_126 rfl (lv_at hl 0 rfl) ?_
            refine lv_aload_n hx hb dX3_print_127 rfl (lv_at hl 0 rfl) ?_
            refine hg_18_3 hx hb hts in_f_X3_print_X3 hown hK hP (hts _ (List.mem_cons_of_mem _ (List.mem_append_left _ (List.mem_append_left _ (List.mem_of_getElem? (i := 15) rfl))))) dX3_print_128 ?_
            refine hg_12_3n hx hb hts in_f_X3_print_X6 hown hK hP (va_Nw.use rfl (hG.1 _ (List.mem_of_getElem? (i := 6) rfl))) dX3_print_131 ?_
            obtain ⟨r3, hc3, h⟩ := op_ex h
            refine kc_v (va_runV (As := [.int (σ.1 1203)]) (rest := []) ⟨hx, hb, hml, hown, hts⟩ (c_y_X3_countOut l dC dI cy a z k (lI lZ 1 ((σ.1 1203))) σ r3 hc3 H.size) (cwV 1 hts g_y_X3_print_X3_countOut_V402 rfl rfl rfl hd_y_X3_countOut ⟨Nat.le_of_ble_eq_true rfl, Nat.le_of_ble_eq_true rfl⟩) ⟨nb_blind, va_recv hK hP (ci := 3) (q0 := 18) rfl rfl, (kb_pre hK hG hP hD)⟩ rfl rfl hl.1 rfl (lv_room (Nat.le_of_ble_eq_true rfl)) dX3_print_134 ⟨(Nat.le_trans (Nat.le_add_right _ _) (Nat.le_of_eq hc)), (Nat.le_trans (Nat.le_add_right _ _) (Nat.le_of_eq hs))⟩) hA hP hD hS (fun H locs hP hD hS => ?_)
            refine lv_goto (tgt := 184) hx hb dX3_print_137 (by decide) ?_
            exact ih.2.2.2.2.2.2.1 z _ _ L r3.2 _ h hzk hc hs H locs ls hP hD hS (lv_sub hl [0, 1, 2] rfl)
      · intro z cells slots L σ r h hzk hc hs H locs ls hP hD hS hl
        rw [f_X3_print] at h
        refine lv_iinc (v := ((L.1 2)) + 1) (lv' := [(2, .int (((L.1 2)) + 1)), (0, .ref (a 18)), (1, .int (L.1 1))]) hx hb dX3_print_184 hl (k := 2) rfl rfl (by decide) rfl (fun ls hl => ?_)
        refine lv_goto (tgt := 10) hx hb dX3_print_187 (by decide) ?_
        exact ih.2.1 z _ _ (lI L 2 ((((L.1 2)) + 1))) σ _ h hzk hc hs H locs ls hP hD hS (lv_sub hl [1, 2, 0] rfl)
      · intro z cells slots L σ r h hzk hc hs H locs ls hP hD hS hl
        rw [f_X3_print] at h
        refine lv_aload_n hx hb dX3_print_140 rfl (lv_at hl 0 rfl) ?_
        refine hg_18_3 hx hb hts in_f_X3_print_X3 hown hK hP (hts _ (List.mem_cons_of_mem _ (List.mem_append_left _ (List.mem_append_left _ (List.mem_of_getElem? (i := 15) rfl))))) dX3_print_141 ?_
        refine lv_aload_n hx hb dX3_print_144 rfl (lv_at hl 0 rfl) ?_
        refine hg_18_7 hx hb hts in_f_X3_print_X3 hown hK hP (hts _ (List.mem_cons_of_mem _ (List.mem_append_left _ (List.mem_append_left _ (List.mem_of_getElem? (i := 1) rfl))))) dX3_print_145 ?_
        refine lv_iload_n hx hb dX3_print_148 rfl (lv_at hl 2 rfl) ?_
        obtain ⟨q1, h⟩ := kr_ite1 h
        refine hl_20 hx hb hK hP q1 dX3_print_149 ?_
        obtain ⟨r2, hc2, hle2, h9⟩ := ox_ex h
        clear h
        refine kx_v (vx_runV (As := [.int (σ.2.2.1 20 ((L.1 2)).toNatClampNeg)]) (rest := []) ⟨hx, hb, hml, hown, hts⟩ (c_f_X6_printPlain l hl0 dC dI cy ek a k (lI lZ 1 ((σ.2.2.1 20 ((L.1 2)).toNatClampNeg))) σ r2 hc2 z H.size) (cwV 1 hts g_f_X3_print_X6_printPlain_V409 rfl rfl rfl hd_f_X6_printPlain ⟨Nat.le_of_ble_eq_true rfl, Nat.le_of_ble_eq_true rfl⟩) ⟨nb_blindF, va_recv hK hP (ci := 5) (q0 := 12) rfl rfl, (kx_pre hK hG hE hT hA hP hD hS)⟩ rfl rfl hl.1 rfl (lv_room (Nat.le_of_ble_eq_true rfl)) dX3_print_150 ⟨Nat.le_trans (Nat.add_le_add_left hle2.1 _) (Nat.le_of_eq hc), Nat.le_trans (Nat.add_le_add_left hle2.2 _) (Nat.le_of_eq hs)⟩) hK hA hzk hP hD hS (by decide) hno hlocks ?_
        rcases h9 with ⟨h00, y2, hny2, hy⟩ | ⟨h00, hy⟩
        · subst hy
          have h := hny2
          refine Or.inl ⟨h00, fun u H locs hz2 hzk hP hD hS => ?_⟩
          obtain rfl := (zk_nil hz2).symm
          replace hc := (Nat.add_assoc _ _ _).trans hc
          replace hs := (Nat.add_assoc _ _ _).trans hs
          refine lv_aload_n hx hb dX3_print_153 rfl (lv_at hl 0 rfl) ?_
          refine hg_18_3 hx hb hts in_f_X3_print_X3 hown hK hP (hts _ (List.mem_cons_of_mem _ (List.mem_append_left _ (List.mem_append_left _ (List.mem_of_getElem? (i := 15) rfl))))) dX3_print_154 ?_
          refine lv_iload_n hx hb dX3_print_157 rfl (lv_at hl 2 rfl) ?_
          refine lv_aload_n hx hb dX3_print_158 rfl (lv_at hl 0 rfl) ?_
          refine hg_18_5 hx hb hts in_f_X3_print_X3 hown hK hP (hts _ (List.mem_cons_of_mem _ (List.mem_append_left _ (List.mem_append_left _ (List.mem_of_getElem? (i := 0) rfl))))) dX3_print_159 ?_
          refine hg_19_2n hx hb hts in_f_X3_print_X8 hown hK hP (va_Nw.use rfl (hG.1 _ (List.mem_of_getElem? (i := 10) rfl))) dX3_print_162 ?_
          refine lv_iconst (v := 1) hx hb dX3_print_165 (by decide) ?_
          refine lv_isub hx hb dX3_print_166 ?_
          refine lv_icmp_ge (tgt := 175) hx hb dX3_print_167 (by decide) (fun c3 => ?_) (fun c3 => ?_)
          · rw [if_pos c3] at h
            exact ih.2.2.2.2.2.2.2.2.1 z _ _ L r2.2.1 _ h hzk hc hs H locs ls hP hD hS (lv_sub hl [0, 1, 2] rfl)
          · rw [if_neg c3] at h
            refine lv_bipush (v := 32) hx hb dX3_print_170 (by decide) ?_
            refine lv_goto (tgt := 177) hx hb dX3_print_172 (by decide) ?_
            exact ih.2.2.2.2.2.2.2.2.2 z _ _ (lI L 100 32) r2.2.1 _ h hzk hc hs H locs ls hP hD hS (lv_sub hl [0, 1, 2] rfl)
        · subst hy
          exact Or.inr ⟨h00, rfl, hc, hs⟩
      · intro z cells slots L σ r h hzk hc hs H locs ls hP hD hS hl
        rw [f_X3_print] at h
        refine lv_bipush (v := 10) hx hb dX3_print_175 (by decide) ?_
        exact ih.2.2.2.2.2.2.2.2.2 z _ _ (lI L 100 10) σ _ h hzk hc hs H locs ls hP hD hS (lv_sub hl [0, 1, 2] rfl)
      · intro z cells slots L σ r h hzk hc hs H locs ls hP hD hS hl
        rw [f_X3_print] at h
        obtain ⟨r1, hc1, h⟩ := op_ex h
        refine kc_v (va_runV (As := [.int (L.1 100)]) (rest := []) ⟨hx, hb, hml, hown, hts⟩ (c_y_X6_put l dC dI cy a z k (lI lZ 1 ((L.1 100))) σ r1 hc1 H.size) (cwV 1 hts g_y_X3_print_X6_put_V412 rfl rfl rfl hd_y_X6_put ⟨Nat.le_of_ble_eq_true rfl, Nat.le_of_ble_eq_true rfl⟩) ⟨nb_blind, va_recv hK hP (ci := 5) (q0 := 12) rfl rfl, (kb_pre hK hG hP hD)⟩ rfl rfl hl.1 rfl (lv_room (Nat.le_of_ble_eq_true rfl)) dX3_print_177 ⟨(Nat.le_trans (Nat.le_add_right _ _) (Nat.le_of_eq hc)), (Nat.le_trans (Nat.le_add_right _ _) (Nat.le_of_eq hs))⟩) hA hP hD hS (fun H locs hP hD hS => ?_)
        refine lv_aload_n hx hb dX3_print_180 rfl (lv_at hl 0 rfl) ?_
        obtain ⟨r2, hc2, hle2, h9⟩ := ox_ex h
        clear h
        refine kx_v (vx_runV (As := []) (rest := []) ⟨hx, hb, hml, hown, hts⟩ (c_f_X3_putOut l hl0 dC dI cy ek a k lZ r1.2 r2 hc2 z H.size) (cwV 0 hts g_f_X3_print_X3_putOut_V415 rfl rfl rfl hd_f_X3_putOut ⟨Nat.le_of_ble_eq_true rfl, Nat.le_of_ble_eq_true rfl⟩) ⟨nb_blindF, va_recv hK hP (ci := 3) (q0 := 18) rfl rfl, (kx_pre hK hG hE hT hA hP hD hS)⟩ rfl rfl hl.1 rfl (lv_room (Nat.le_of_ble_eq_true rfl)) dX3_print_181 ⟨Nat.le_trans (Nat.add_le_add_left hle2.1 _) (Nat.le_of_eq hc), Nat.le_trans (Nat.add_le_add_left hle2.2 _) (Nat.le_of_eq hs)⟩) hK hA hzk hP hD hS (by decide) hno hlocks ?_
        rcases h9 with ⟨h00, y2, hny2, hy⟩ | ⟨h00, hy⟩
        · subst hy
          have h := hny2
          refine Or.inl ⟨h00, fun z H locs hz2 hzk hP hD hS => ?_⟩
          replace hc := (Nat.add_assoc _ _ _).trans hc
          replace hs := (Nat.add_assoc _ _ _).trans hs
          exact ih.2.2.2.2.2.2.1 z _ _ L r2.2.1 _ h hzk hc hs H locs ls hP hD hS (lv_sub hl [0, 1, 2] rfl)
        · subst hy
          exact Or.inr ⟨h00, rfl, hc, hs⟩
  exact (blk k0).1 z 0 0 L0 σ0 r0 h0 (zk_rf _ _) ((Nat.zero_add _).trans hmc) ((Nat.zero_add _).trans hms) s.heap [] ls hP hD hS hl
/-! X3_execute -/
def f_X3_execute : Nat → Nat → LV → CS → Option RS
  | 0, _, _, _ => none
  | k + 1, 0, L, σ => op (y_X3_beginWork k 0 lZ σ) (fun r1 => oP (sPr r1.2) (fun b2 => f_X3_execute k 1 (lJ (lB L 1 ((sKd r1.2 b2))) 2 0) r1.2))
  | k + 1, 1, L, σ => if 0 ≤ ((nbCmp ((L.2.1 2)) (4611686018427387904 : Int64))) then (f_X3_execute k 2 L σ) else (if ((σ.1 1812)) = 0 then (op (y_X1_isTight k 0 lZ σ) (fun r3 => if r3.1 = 0 then (f_X3_execute k 3 L r3.2) else (ox (f_X3_makeRoom k 0 lZ r3.2) (fun r5 => f_X3_execute k 3 L r5.2.1)))) else (f_X3_execute k 2 L σ))
  | k + 1, 2, L, σ => some ((0, 0), σ, (0, 0))
  | k + 1, 3, L, σ => if ((σ.1 1900)) < 0 then (f_X3_execute k 4 L σ) else (if ((σ.1 1900)) < ((Int32.ofNat (sN σ (pR0 ((L.2.2.1 1)))))) then (f_X3_execute k 5 (lI L 4 ((σ.1 1900))) σ) else (f_X3_execute k 4 L σ))
  | k + 1, 4, L, σ => some ((0, 0), σ, (0, 0))
  | k + 1, 5, L, σ => if ¬ (((L.1 4)) < 0 ∨ (sN (uI σ 1900 ((((L.1 4)) + 1))) (pR0 ((L.2.2.1 1)))) ≤ ((L.1 4)).toNatClampNeg) then (if ¬ (((L.1 4)) < 0 ∨ (sN (uI σ 1900 ((((L.1 4)) + 1))) (pR0 ((L.2.2.1 1)))) ≤ ((L.1 4)).toNatClampNeg) then (if (((((((uI σ 1900 ((((L.1 4)) + 1))).2.2.1 (pR0 ((L.2.2.1 1))) ((L.1 4)).toNatClampNeg)) &&& 255)) >>> ((4 : Int32) &&& 31))) = (0 : Int32) then (f_X3_execute k 6 (lI (lI L 5 (((((uI σ 1900 ((((L.1 4)) + 1))).2.2.1 (pR0 ((L.2.2.1 1))) ((L.1 4)).toNatClampNeg)) &&& 255))) 6 (((((uI σ 1900 ((((L.1 4)) + 1))).2.2.1 (pR0 ((L.2.2.1 1))) ((L.1 4)).toNatClampNeg)) >>> ((8 : Int32) &&& 31)))) (uI σ 1900 ((((L.1 4)) + 1)))) else (if (((((((uI σ 1900 ((((L.1 4)) + 1))).2.2.1 (pR0 ((L.2.2.1 1))) ((L.1 4)).toNatClampNeg)) &&& 255)) >>> ((4 : Int32) &&& 31))) = (1 : Int32) then (f_X3_execute k 7 (lI (lI L 5 (((((uI σ 1900 ((((L.1 4)) + 1))).2.2.1 (pR0 ((L.2.2.1 1))) ((L.1 4)).toNatClampNeg)) &&& 255))) 6 (((((uI σ 1900 ((((L.1 4)) + 1))).2.2.1 (pR0 ((L.2.2.1 1))) ((L.1 4)).toNatClampNeg)) >>> ((8 : Int32) &&& 31)))) (uI σ 1900 ((((L.1 4)) + 1)))) else (if (((((((uI σ 1900 ((((L.1 4)) + 1))).2.2.1 (pR0 ((L.2.2.1 1))) ((L.1 4)).toNatClampNeg)) &&& 255)) >>> ((4 : Int32) &&& 31))) = (2 : Int32) then (f_X3_execute k 8 (lI (lI L 5 (((((uI σ 1900 ((((L.1 4)) + 1))).2.2.1 (pR0 ((L.2.2.1 1))) ((L.1 4)).toNatClampNeg)) &&& 255))) 6 (((((uI σ 1900 ((((L.1 4)) + 1))).2.2.1 (pR0 ((L.2.2.1 1))) ((L.1 4)).toNatClampNeg)) >>> ((8 : Int32) &&& 31)))) (uI σ 1900 ((((L.1 4)) + 1)))) else (if (((((((uI σ 1900 ((((L.1 4)) + 1))).2.2.1 (pR0 ((L.2.2.1 1))) ((L.1 4)).toNatClampNeg)) &&& 255)) >>> ((4 : Int32) &&& 31))) = (3 : Int32) then (f_X3_execute k 9 (lI (lI L 5 (((((uI σ 1900 ((((L.1 4)) + 1))).2.2.1 (pR0 ((L.2.2.1 1))) ((L.1 4)).toNatClampNeg)) &&& 255))) 6 (((((uI σ 1900 ((((L.1 4)) + 1))).2.2.1 (pR0 ((L.2.2.1 1))) ((L.1 4)).toNatClampNeg)) >>> ((8 : Int32) &&& 31)))) (uI σ 1900 ((((L.1 4)) + 1)))) else (if (((((((uI σ 1900 ((((L.1 4)) + 1))).2.2.1 (pR0 ((L.2.2.1 1))) ((L.1 4)).toNatClampNeg)) &&& 255)) >>> ((4 : Int32) &&& 31))) = (4 : Int32) then (f_X3_execute k 10 (lI (lI L 5 (((((uI σ 1900 ((((L.1 4)) + 1))).2.2.1 (pR0 ((L.2.2.1 1))) ((L.1 4)).toNatClampNeg)) &&& 255))) 6 (((((uI σ 1900 ((((L.1 4)) + 1))).2.2.1 (pR0 ((L.2.2.1 1))) ((L.1 4)).toNatClampNeg)) >>> ((8 : Int32) &&& 31)))) (uI σ 1900 ((((L.1 4)) + 1)))) else (if (((((((uI σ 1900 ((((L.1 4)) + 1))).2.2.1 (pR0 ((L.2.2.1 1))) ((L.1 4)).toNatClampNeg)) &&& 255)) >>> ((4 : Int32) &&& 31))) = (5 : Int32) then (f_X3_execute k 11 (lI (lI L 5 (((((uI σ 1900 ((((L.1 4)) + 1))).2.2.1 (pR0 ((L.2.2.1 1))) ((L.1 4)).toNatClampNeg)) &&& 255))) 6 (((((uI σ 1900 ((((L.1 4)) + 1))).2.2.1 (pR0 ((L.2.2.1 1))) ((L.1 4)).toNatClampNeg)) >>> ((8 : Int32) &&& 31)))) (uI σ 1900 ((((L.1 4)) + 1)))) else (if (((((((uI σ 1900 ((((L.1 4)) + 1))).2.2.1 (pR0 ((L.2.2.1 1))) ((L.1 4)).toNatClampNeg)) &&& 255)) >>> ((4 : Int32) &&& 31))) = (6 : Int32) then (f_X3_execute k 12 (lI (lI L 5 (((((uI σ 1900 ((((L.1 4)) + 1))).2.2.1 (pR0 ((L.2.2.1 1))) ((L.1 4)).toNatClampNeg)) &&& 255))) 6 (((((uI σ 1900 ((((L.1 4)) + 1))).2.2.1 (pR0 ((L.2.2.1 1))) ((L.1 4)).toNatClampNeg)) >>> ((8 : Int32) &&& 31)))) (uI σ 1900 ((((L.1 4)) + 1)))) else (if (((((((uI σ 1900 ((((L.1 4)) + 1))).2.2.1 (pR0 ((L.2.2.1 1))) ((L.1 4)).toNatClampNeg)) &&& 255)) >>> ((4 : Int32) &&& 31))) = (7 : Int32) then (f_X3_execute k 13 (lI (lI L 5 (((((uI σ 1900 ((((L.1 4)) + 1))).2.2.1 (pR0 ((L.2.2.1 1))) ((L.1 4)).toNatClampNeg)) &&& 255))) 6 (((((uI σ 1900 ((((L.1 4)) + 1))).2.2.1 (pR0 ((L.2.2.1 1))) ((L.1 4)).toNatClampNeg)) >>> ((8 : Int32) &&& 31)))) (uI σ 1900 ((((L.1 4)) + 1)))) else (if (((((((uI σ 1900 ((((L.1 4)) + 1))).2.2.1 (pR0 ((L.2.2.1 1))) ((L.1 4)).toNatClampNeg)) &&& 255)) >>> ((4 : Int32) &&& 31))) = (8 : Int32) then (f_X3_execute k 14 (lI L 5 (((((uI σ 1900 ((((L.1 4)) + 1))).2.2.1 (pR0 ((L.2.2.1 1))) ((L.1 4)).toNatClampNeg)) &&& 255))) (uI σ 1900 ((((L.1 4)) + 1)))) else (if (((((((uI σ 1900 ((((L.1 4)) + 1))).2.2.1 (pR0 ((L.2.2.1 1))) ((L.1 4)).toNatClampNeg)) &&& 255)) >>> ((4 : Int32) &&& 31))) = (9 : Int32) then (f_X3_execute k 15 (lI L 6 (((((uI σ 1900 ((((L.1 4)) + 1))).2.2.1 (pR0 ((L.2.2.1 1))) ((L.1 4)).toNatClampNeg)) >>> ((8 : Int32) &&& 31)))) (uI σ 1900 ((((L.1 4)) + 1)))) else (if (((((((uI σ 1900 ((((L.1 4)) + 1))).2.2.1 (pR0 ((L.2.2.1 1))) ((L.1 4)).toNatClampNeg)) &&& 255)) >>> ((4 : Int32) &&& 31))) = (10 : Int32) then (f_X3_execute k 16 (lI L 5 (((((uI σ 1900 ((((L.1 4)) + 1))).2.2.1 (pR0 ((L.2.2.1 1))) ((L.1 4)).toNatClampNeg)) &&& 255))) (uI σ 1900 ((((L.1 4)) + 1)))) else (if (((((((uI σ 1900 ((((L.1 4)) + 1))).2.2.1 (pR0 ((L.2.2.1 1))) ((L.1 4)).toNatClampNeg)) &&& 255)) >>> ((4 : Int32) &&& 31))) = (11 : Int32) then (f_X3_execute k 17 (lI (lI L 5 (((((uI σ 1900 ((((L.1 4)) + 1))).2.2.1 (pR0 ((L.2.2.1 1))) ((L.1 4)).toNatClampNeg)) &&& 255))) 6 (((((uI σ 1900 ((((L.1 4)) + 1))).2.2.1 (pR0 ((L.2.2.1 1))) ((L.1 4)).toNatClampNeg)) >>> ((8 : Int32) &&& 31)))) (uI σ 1900 ((((L.1 4)) + 1)))) else (if (((((((uI σ 1900 ((((L.1 4)) + 1))).2.2.1 (pR0 ((L.2.2.1 1))) ((L.1 4)).toNatClampNeg)) &&& 255)) >>> ((4 : Int32) &&& 31))) = (12 : Int32) then (f_X3_execute k 18 (lI (lI L 5 (((((uI σ 1900 ((((L.1 4)) + 1))).2.2.1 (pR0 ((L.2.2.1 1))) ((L.1 4)).toNatClampNeg)) &&& 255))) 6 (((((uI σ 1900 ((((L.1 4)) + 1))).2.2.1 (pR0 ((L.2.2.1 1))) ((L.1 4)).toNatClampNeg)) >>> ((8 : Int32) &&& 31)))) (uI σ 1900 ((((L.1 4)) + 1)))) else (f_X3_execute k 15 (lI L 6 (((((uI σ 1900 ((((L.1 4)) + 1))).2.2.1 (pR0 ((L.2.2.1 1))) ((L.1 4)).toNatClampNeg)) >>> ((8 : Int32) &&& 31)))) (uI σ 1900 ((((L.1 4)) + 1))))))))))))))))) else none) else none
  | k + 1, 6, L, σ => ox (f_X3_flow k 0 (lI (lI (lI lZ 1 ((L.1 5))) 2 ((L.1 6))) 3 ((L.1 4))) σ) (fun r1 => f_X3_execute k 19 L r1.2.1)
  | k + 1, 7, L, σ => ox (f_X3_callsAndPoints k 0 (lI (lI lZ 1 ((L.1 5))) 2 ((L.1 6))) σ) (fun r1 => f_X3_execute k 19 L r1.2.1)
  | k + 1, 8, L, σ => ox (f_X3_data k 0 (lI (lI (lI lZ 1 ((L.1 5))) 2 ((L.1 6))) 3 ((L.1 4))) σ) (fun r1 => f_X3_execute k 19 L r1.2.1)
  | k + 1, 9, L, σ => ox (f_X3_makeValue k 0 (lI (lI lZ 1 ((L.1 5))) 2 ((L.1 6))) σ) (fun r1 => f_X3_execute k 19 L r1.2.1)
  | k + 1, 10, L, σ => ox (f_X3_iterate k 0 (lI (lI (lI lZ 1 ((L.1 5))) 2 ((L.1 6))) 3 ((L.1 4))) σ) (fun r1 => f_X3_execute k 19 L r1.2.1)
  | k + 1, 11, L, σ => ox (f_X3_gather k 0 (lI (lI lZ 1 ((L.1 5))) 2 ((L.1 6))) σ) (fun r1 => f_X3_execute k 19 L r1.2.1)
  | k + 1, 12, L, σ => ox (f_X3_partly k 0 (lI (lI (lI lZ 1 ((L.1 5))) 2 ((L.1 6))) 3 ((L.1 4))) σ) (fun r1 => f_X3_execute k 19 L r1.2.1)
  | k + 1, 13, L, σ => ox (f_X3_foldOn k 0 (lI (lI (lI lZ 1 ((L.1 5))) 2 ((L.1 6))) 3 ((L.1 4))) σ) (fun r1 => f_X3_execute k 19 L r1.2.1)
  | k + 1, 14, L, σ => if ¬ ((((((uI σ 1902 ((((σ.1 1902)) - 1))).1 1902)) - 1)) < 0 ∨ (sN (uI σ 1902 ((((σ.1 1902)) - 1))) 20) ≤ (((((uI σ 1902 ((((σ.1 1902)) - 1))).1 1902)) - 1)).toNatClampNeg) then (if ¬ ((((uI σ 1902 ((((σ.1 1902)) - 1))).1 1902)) < 0 ∨ (sN (uI σ 1902 ((((σ.1 1902)) - 1))) 20) ≤ (((uI σ 1902 ((((σ.1 1902)) - 1))).1 1902)).toNatClampNeg) then (op (y_X0_binary k 0 (lI (lI (lI lZ 1 ((L.1 5))) 2 (((uI σ 1902 ((((σ.1 1902)) - 1))).2.2.1 20 (((((uI σ 1902 ((((σ.1 1902)) - 1))).1 1902)) - 1)).toNatClampNeg))) 3 (((uI σ 1902 ((((σ.1 1902)) - 1))).2.2.1 20 (((uI σ 1902 ((((σ.1 1902)) - 1))).1 1902)).toNatClampNeg))) (uI σ 1902 ((((σ.1 1902)) - 1)))) (fun r3 => op (y_X3_replace k 0 (lI lZ 1 r3.1) r3.2) (fun r4 => f_X3_execute k 19 L r4.2))) else none) else none
  | k + 1, 15, L, σ => ox (f_X3_print k 0 (lI lZ 1 ((L.1 6))) σ) (fun r1 => f_X3_execute k 19 L r1.2.1)
  | k + 1, 16, L, σ => if ¬ (((((σ.1 1902)) - 1)) < 0 ∨ (sN σ 20) ≤ ((((σ.1 1902)) - 1)).toNatClampNeg) then (ox (f_X0_unary k 0 (lI (lI lZ 1 ((L.1 5))) 2 ((σ.2.2.1 20 ((((σ.1 1902)) - 1)).toNatClampNeg))) σ) (fun r2 => op (y_X3_replace k 0 (lI lZ 1 r2.1.2) r2.2.1) (fun r3 => f_X3_execute k 19 L r3.2))) else none
  | k + 1, 17, L, σ => if ((L.1 5)) = 176 then (f_X3_execute k 21 (lI L 100 ((((((σ.1 1901)) + 4)) + ((L.1 6))))) σ) else (f_X3_execute k 20 L σ)
  | k + 1, 18, L, σ => if ((L.1 5)) = 192 then (f_X3_execute k 23 (lI L 100 ((((((σ.1 1901)) + 4)) + ((L.1 6))))) σ) else (f_X3_execute k 22 L σ)
  | k + 1, 19, L, σ => f_X3_execute k 1 (lJ L 2 ((((L.2.1 2)) + 1))) σ
  | k + 1, 20, L, σ => f_X3_execute k 21 (lI L 100 ((4 + ((L.1 6))))) σ
  | k + 1, 21, L, σ => ox (f_X3_read k 0 (lI (lI lZ 1 ((L.1 100))) 2 ((L.1 4))) σ) (fun r1 => f_X3_execute k 19 L r1.2.1)
  | k + 1, 22, L, σ => f_X3_execute k 23 (lI L 100 ((4 + ((L.1 6))))) σ
  | k + 1, 23, L, σ => if ((L.1 5)) = 192 then (f_X3_execute k 25 (lI (lI (lI L 100 1) 101 ((L.1 4))) 102 ((L.1 100))) σ) else (f_X3_execute k 24 (lI (lI L 100 ((L.1 4))) 101 ((L.1 100))) σ)
  | k + 1, 24, L, σ => f_X3_execute k 25 (lI (lI (lI L 100 0) 101 ((L.1 100))) 102 ((L.1 101))) σ
  | k + 1, 25, L, σ => ox (f_X3_write k 0 (lI (lI (lI lZ 1 ((L.1 102))) 2 ((L.1 101))) 3 ((L.1 100))) σ) (fun r1 => f_X3_execute k 19 L r1.2.1)
  | _ + 1, _ + 26, _, _ => none
def o_f_X3_execute : List Cond := [.methodLink RX3 238 yX3_beginWork, .instanceMethod yX3_beginWork, .selects RX3 yX3_beginWork yX3_beginWork, .initialized RX3, .fieldLink RX3 58 "SetHouse$Machine" "program" "LSetHouse$Program;", .constantLong RX3 244 (4611686018427387904), .fieldLink RX3 225 "SetHouse$Machine" "halted" "Z", .fieldLink RX3 39 "SetHouse$Machine" "heap" "LSetHouse$Heap;", .methodLink RX3 188 yX1_isTight, .instanceMethod yX1_isTight, .selects RX1 yX1_isTight yX1_isTight, .initialized RX1, .methodLink RX3 246 yX3_makeRoom, .instanceMethod yX3_makeRoom, .selects RX3 yX3_makeRoom yX3_makeRoom, .fieldLink RX3 14 "SetHouse$Machine" "run" "LSetHouse$Run;", .methodLink RX3 249 yX3_flow, .instanceMethod yX3_flow, .selects RX3 yX3_flow yX3_flow, .methodLink RX3 253 yX3_callsAndPoints, .instanceMethod yX3_callsAndPoints, .selects RX3 yX3_callsAndPoints yX3_callsAndPoints, .methodLink RX3 256 yX3_data, .instanceMethod yX3_data, .selects RX3 yX3_data yX3_data, .methodLink RX3 259 yX3_makeValue, .instanceMethod yX3_makeValue, .selects RX3 yX3_makeValue yX3_makeValue, .methodLink RX3 262 yX3_iterate, .instanceMethod yX3_iterate, .selects RX3 yX3_iterate yX3_iterate, .methodLink RX3 265 yX3_gather, .instanceMethod yX3_gather, .selects RX3 yX3_gather yX3_gather, .methodLink RX3 268 yX3_partly, .instanceMethod yX3_partly, .selects RX3 yX3_partly yX3_partly, .methodLink RX3 271 yX3_foldOn, .instanceMethod yX3_foldOn, .selects RX3 yX3_foldOn yX3_foldOn, .fieldLink RX3 47 "SetHouse$Machine" "algebra" "LSetHouse$Algebra;", .fieldLink RX3 18 "SetHouse$Machine" "stack" "[I", .methodLink RX3 274 yX0_binary, .instanceMethod yX0_binary, .selects RX0 yX0_binary yX0_binary, .initialized RX0, .methodLink RX3 280 yX3_replace, .instanceMethod yX3_replace, .selects RX3 yX3_replace yX3_replace, .methodLink RX3 297 yX3_print, .instanceMethod yX3_print, .selects RX3 yX3_print yX3_print, .methodLink RX3 284 yX0_unary, .instanceMethod yX0_unary, .selects RX0 yX0_unary yX0_unary, .methodLink RX3 290 yX3_read, .instanceMethod yX3_read, .selects RX3 yX3_read yX3_read, .methodLink RX3 293 yX3_write, .instanceMethod yX3_write, .selects RX3 yX3_write yX3_write]
theorem o_f_X3_execute_good : o_f_X3_execute.all goodWord = true := by decide +kernel
def p_f_X3_execute : List Cond := o_f_X3_execute ++ ((.code yX3_beginWork cX3_beginWork 1 none :: p_y_X3_beginWork) ++ ((.code yX1_isTight cX1_isTight 1 (some .boolean) :: p_y_X1_isTight) ++ ((.code yX3_makeRoom cX3_makeRoom 1 none :: p_f_X3_makeRoom) ++ ((.code yX3_flow cX3_flow 5 none :: p_f_X3_flow) ++ ((.code yX3_callsAndPoints cX3_callsAndPoints 4 none :: p_f_X3_callsAndPoints) ++ ((.code yX3_data cX3_data 5 none :: p_f_X3_data) ++ ((.code yX3_makeValue cX3_makeValue 4 none :: p_f_X3_makeValue) ++ ((.code yX3_iterate cX3_iterate 8 none :: p_f_X3_iterate) ++ ((.code yX3_gather cX3_gather 3 none :: p_f_X3_gather) ++ ((.code yX3_partly cX3_partly 4 none :: p_f_X3_partly) ++ ((.code yX3_foldOn cX3_foldOn 9 none :: p_f_X3_foldOn) ++ ((.code yX0_binary cX0_binary 5 (some .int) :: p_y_X0_binary) ++ ((.code yX3_replace cX3_replace 2 none :: p_y_X3_replace) ++ ((.code yX3_print cX3_print 4 none :: p_f_X3_print) ++ ((.code yX0_unary cX0_unary 4 (some .int) :: p_f_X0_unary) ++ ((.code yX3_read cX3_read 7 none :: p_f_X3_read) ++ ((.code yX3_write cX3_write 9 none :: p_f_X3_write) ++ [])))))))))))))))))
theorem p_f_X3_execute_good : p_f_X3_execute.all goodWord = true := nb_all2 o_f_X3_execute_good (nb_all2 (nb_allc (by decide +kernel) p_y_X3_beginWork_good) (nb_all2 (nb_allc (by decide +kernel) p_y_X1_isTight_good) (nb_all2 (nb_allc (by decide +kernel) p_f_X3_makeRoom_good) (nb_all2 (nb_allc (by decide +kernel) p_f_X3_flow_good) (nb_all2 (nb_allc (by decide +kernel) p_f_X3_callsAndPoints_good) (nb_all2 (nb_allc (by decide +kernel) p_f_X3_data_good) (nb_all2 (nb_allc (by decide +kernel) p_f_X3_makeValue_good) (nb_all2 (nb_allc (by decide +kernel) p_f_X3_iterate_good) (nb_all2 (nb_allc (by decide +kernel) p_f_X3_gather_good) (nb_all2 (nb_allc (by decide +kernel) p_f_X3_partly_good) (nb_all2 (nb_allc (by decide +kernel) p_f_X3_foldOn_good) (nb_all2 (nb_allc (by decide +kernel) p_y_X0_binary_good) (nb_all2 (nb_allc (by decide +kernel) p_y_X3_replace_good) (nb_all2 (nb_allc (by decide +kernel) p_f_X3_print_good) (nb_all2 (nb_allc (by decide +kernel) p_f_X0_unary_good) (nb_all2 (nb_allc (by decide +kernel) p_f_X3_read_good) (nb_all2 (nb_allc (by decide +kernel) p_f_X3_write_good) rfl)))))))))))))))))
def w_f_X3_execute : List Cond := .code yX3_execute cX3_execute 7 none :: (p_f_X3_execute ++ fC)
theorem w_f_X3_execute_good : w_f_X3_execute.all goodWord = true := nb_allc (by decide +kernel) (nb_all2 p_f_X3_execute_good fC_good)
theorem in_f_X3_execute_X3 : ∀ w ∈ wsX30, w ∈ w_f_X3_execute := fun _ h => List.mem_cons_of_mem _ (List.mem_append_right _ (List.mem_append_right _ (List.mem_append_right _ (List.mem_append_right _ (List.mem_append_left _ h)))))
theorem in_f_X3_execute_X7 : ∀ w ∈ wsX70, w ∈ w_f_X3_execute := fun _ h => List.mem_cons_of_mem _ (List.mem_append_right _ (List.mem_append_right _ (List.mem_append_right _ (List.mem_append_right _ (List.mem_append_right _ (List.mem_append_right _ (List.mem_append_right _ (List.mem_append_left _ h))))))))
theorem in_f_X3_execute_X8 : ∀ w ∈ wsX80, w ∈ w_f_X3_execute := fun _ h => List.mem_cons_of_mem _ (List.mem_append_right _ (List.mem_append_right _ (List.mem_append_right _ (List.mem_append_right _ (List.mem_append_right _ (List.mem_append_right _ (List.mem_append_right _ (List.mem_append_right _ (List.mem_append_left _ h)))))))))
theorem hd_f_X3_execute : yX3_execute.cls = RX3 ∧ yX3_execute.cls ≠ "java/lang/invoke/MethodHandle" ∧ yX3_execute.cls ≠ "java/lang/invoke/VarHandle" ∧ (parseMethodDescriptor yX3_execute.desc).map (fun d => d.parameters.length) = some 0 := by decide +kernel
theorem gg_f_X3_execute_X0_unary : GoodIn w_f_X3_execute w_f_X0_unary := goodIn_sub (fun w h => (List.mem_cons.mp h).elim (fun e => (List.mem_cons_of_mem _ (List.mem_append_left _ (List.mem_append_right _ (List.mem_append_right _ (List.mem_append_right _ (List.mem_append_right _ (List.mem_append_right _ (List.mem_append_right _ (List.mem_append_right _ (List.mem_append_right _ (List.mem_append_right _ (List.mem_append_right _ (List.mem_append_right _ (List.mem_append_right _ (List.mem_append_right _ (List.mem_append_right _ (List.mem_append_right _ (List.mem_append_left _ (List.mem_cons.mpr (Or.inl e))))))))))))))))))))) (fun h => (List.mem_append.mp h).elim (fun h => (List.mem_cons_of_mem _ (List.mem_append_left _ (List.mem_append_right _ (List.mem_append_right _ (List.mem_append_right _ (List.mem_append_right _ (List.mem_append_right _ (List.mem_append_right _ (List.mem_append_right _ (List.mem_append_right _ (List.mem_append_right _ (List.mem_append_right _ (List.mem_append_right _ (List.mem_append_right _ (List.mem_append_right _ (List.mem_append_right _ (List.mem_append_right _ (List.mem_append_left _ (List.mem_cons_of_mem _ h)))))))))))))))))))) (fun h => List.mem_cons_of_mem _ (List.mem_append_right _ h)))) w_f_X0_unary_good
theorem g_f_X3_execute_X0_unary_V284 : GoodIn w_f_X3_execute (wsV RX3 284 RX0 yX0_unary w_f_X0_unary) := goodIn_app (nb_g4 (List.mem_cons_of_mem _ (List.mem_append_left _ (List.mem_append_left _ (List.mem_of_getElem? (i := 52) rfl)))) (List.mem_cons_of_mem _ (List.mem_append_left _ (List.mem_append_left _ (List.mem_of_getElem? (i := 53) rfl)))) (List.mem_cons_of_mem _ (List.mem_append_left _ (List.mem_append_left _ (List.mem_of_getElem? (i := 54) rfl)))) (List.mem_cons_of_mem _ (List.mem_append_left _ (List.mem_append_left _ (List.mem_of_getElem? (i := 45) rfl)))) (by decide +kernel)) gg_f_X3_execute_X0_unary
theorem gg_f_X3_execute_X3_callsAndPoints : GoodIn w_f_X3_execute w_f_X3_callsAndPoints := goodIn_sub (fun w h => (List.mem_cons.mp h).elim (fun e => (List.mem_cons_of_mem _ (List.mem_append_left _ (List.mem_append_right _ (List.mem_append_right _ (List.mem_append_right _ (List.mem_append_right _ (List.mem_append_right _ (List.mem_append_left _ (List.mem_cons.mpr (Or.inl e))))))))))) (fun h => (List.mem_append.mp h).elim (fun h => (List.mem_cons_of_mem _ (List.mem_append_left _ (List.mem_append_right _ (List.mem_append_right _ (List.mem_append_right _ (List.mem_append_right _ (List.mem_append_right _ (List.mem_append_left _ (List.mem_cons_of_mem _ h)))))))))) (fun h => List.mem_cons_of_mem _ (List.mem_append_right _ h)))) w_f_X3_callsAndPoints_good
theorem g_f_X3_execute_X3_callsAndPoints_V253 : GoodIn w_f_X3_execute (wsV RX3 253 RX3 yX3_callsAndPoints w_f_X3_callsAndPoints) := goodIn_app (nb_g4 (List.mem_cons_of_mem _ (List.mem_append_left _ (List.mem_append_left _ (List.mem_of_getElem? (i := 19) rfl)))) (List.mem_cons_of_mem _ (List.mem_append_left _ (List.mem_append_left _ (List.mem_of_getElem? (i := 20) rfl)))) (List.mem_cons_of_mem _ (List.mem_append_left _ (List.mem_append_left _ (List.mem_of_getElem? (i := 21) rfl)))) (List.mem_cons_of_mem _ (List.mem_append_left _ (List.mem_append_left _ (List.mem_of_getElem? (i := 3) rfl)))) (by decide +kernel)) gg_f_X3_execute_X3_callsAndPoints
theorem gg_f_X3_execute_X3_data : GoodIn w_f_X3_execute w_f_X3_data := goodIn_sub (fun w h => (List.mem_cons.mp h).elim (fun e => (List.mem_cons_of_mem _ (List.mem_append_left _ (List.mem_append_right _ (List.mem_append_right _ (List.mem_append_right _ (List.mem_append_right _ (List.mem_append_right _ (List.mem_append_right _ (List.mem_append_left _ (List.mem_cons.mpr (Or.inl e)))))))))))) (fun h => (List.mem_append.mp h).elim (fun h => (List.mem_cons_of_mem _ (List.mem_append_left _ (List.mem_append_right _ (List.mem_append_right _ (List.mem_append_right _ (List.mem_append_right _ (List.mem_append_right _ (List.mem_append_right _ (List.mem_append_left _ (List.mem_cons_of_mem _ h))))))))))) (fun h => List.mem_cons_of_mem _ (List.mem_append_right _ h)))) w_f_X3_data_good
theorem g_f_X3_execute_X3_data_V256 : GoodIn w_f_X3_execute (wsV RX3 256 RX3 yX3_data w_f_X3_data) := goodIn_app (nb_g4 (List.mem_cons_of_mem _ (List.mem_append_left _ (List.mem_append_left _ (List.mem_of_getElem? (i := 22) rfl)))) (List.mem_cons_of_mem _ (List.mem_append_left _ (List.mem_append_left _ (List.mem_of_getElem? (i := 23) rfl)))) (List.mem_cons_of_mem _ (List.mem_append_left _ (List.mem_append_left _ (List.mem_of_getElem? (i := 24) rfl)))) (List.mem_cons_of_mem _ (List.mem_append_left _ (List.mem_append_left _ (List.mem_of_getElem? (i := 3) rfl)))) (by decide +kernel)) gg_f_X3_execute_X3_data
theorem gg_f_X3_execute_X3_flow : GoodIn w_f_X3_execute w_f_X3_flow := goodIn_sub (fun w h => (List.mem_cons.mp h).elim (fun e => (List.mem_cons_of_mem _ (List.mem_append_left _ (List.mem_append_right _ (List.mem_append_right _ (List.mem_append_right _ (List.mem_append_right _ (List.mem_append_left _ (List.mem_cons.mpr (Or.inl e)))))))))) (fun h => (List.mem_append.mp h).elim (fun h => (List.mem_cons_of_mem _ (List.mem_append_left _ (List.mem_append_right _ (List.mem_append_right _ (List.mem_append_right _ (List.mem_append_right _ (List.mem_append_left _ (List.mem_cons_of_mem _ h))))))))) (fun h => List.mem_cons_of_mem _ (List.mem_append_right _ h)))) w_f_X3_flow_good
theorem g_f_X3_execute_X3_flow_V249 : GoodIn w_f_X3_execute (wsV RX3 249 RX3 yX3_flow w_f_X3_flow) := goodIn_app (nb_g4 (List.mem_cons_of_mem _ (List.mem_append_left _ (List.mem_append_left _ (List.mem_of_getElem? (i := 16) rfl)))) (List.mem_cons_of_mem _ (List.mem_append_left _ (List.mem_append_left _ (List.mem_of_getElem? (i := 17) rfl)))) (List.mem_cons_of_mem _ (List.mem_append_left _ (List.mem_append_left _ (List.mem_of_getElem? (i := 18) rfl)))) (List.mem_cons_of_mem _ (List.mem_append_left _ (List.mem_append_left _ (List.mem_of_getElem? (i := 3) rfl)))) (by decide +kernel)) gg_f_X3_execute_X3_flow
theorem gg_f_X3_execute_X3_foldOn : GoodIn w_f_X3_execute w_f_X3_foldOn := goodIn_sub (fun w h => (List.mem_cons.mp h).elim (fun e => (List.mem_cons_of_mem _ (List.mem_append_left _ (List.mem_append_right _ (List.mem_append_right _ (List.mem_append_right _ (List.mem_append_right _ (List.mem_append_right _ (List.mem_append_right _ (List.mem_append_right _ (List.mem_append_right _ (List.mem_append_right _ (List.mem_append_right _ (List.mem_append_right _ (List.mem_append_left _ (List.mem_cons.mpr (Or.inl e))))))))))))))))) (fun h => (List.mem_append.mp h).elim (fun h => (List.mem_cons_of_mem _ (List.mem_append_left _ (List.mem_append_right _ (List.mem_append_right _ (List.mem_append_right _ (List.mem_append_right _ (List.mem_append_right _ (List.mem_append_right _ (List.mem_append_right _ (List.mem_append_right _ (List.mem_append_right _ (List.mem_append_right _ (List.mem_append_right _ (List.mem_append_left _ (List.mem_cons_of_mem _ h)))))))))))))))) (fun h => List.mem_cons_of_mem _ (List.mem_append_right _ h)))) w_f_X3_foldOn_good
theorem g_f_X3_execute_X3_foldOn_V271 : GoodIn w_f_X3_execute (wsV RX3 271 RX3 yX3_foldOn w_f_X3_foldOn) := goodIn_app (nb_g4 (List.mem_cons_of_mem _ (List.mem_append_left _ (List.mem_append_left _ (List.mem_of_getElem? (i := 37) rfl)))) (List.mem_cons_of_mem _ (List.mem_append_left _ (List.mem_append_left _ (List.mem_of_getElem? (i := 38) rfl)))) (List.mem_cons_of_mem _ (List.mem_append_left _ (List.mem_append_left _ (List.mem_of_getElem? (i := 39) rfl)))) (List.mem_cons_of_mem _ (List.mem_append_left _ (List.mem_append_left _ (List.mem_of_getElem? (i := 3) rfl)))) (by decide +kernel)) gg_f_X3_execute_X3_foldOn
theorem gg_f_X3_execute_X3_gather : GoodIn w_f_X3_execute w_f_X3_gather := goodIn_sub (fun w h => (List.mem_cons.mp h).elim (fun e => (List.mem_cons_of_mem _ (List.mem_append_left _ (List.mem_append_right _ (List.mem_append_right _ (List.mem_append_right _ (List.mem_append_right _ (List.mem_append_right _ (List.mem_append_right _ (List.mem_append_right _ (List.mem_append_right _ (List.mem_append_right _ (List.mem_append_left _ (List.mem_cons.mpr (Or.inl e))))))))))))))) (fun h => (List.mem_append.mp h).elim (fun h => (List.mem_cons_of_mem _ (List.mem_append_left _ (List.mem_append_right _ (List.mem_append_right _ (List.mem_append_right _ (List.mem_append_right _ (List.mem_append_right _ (List.mem_append_right _ (List.mem_append_right _ (List.mem_append_right _ (List.mem_append_right _ (List.mem_append_left _ (List.mem_cons_of_mem _ h)))))))))))))) (fun h => List.mem_cons_of_mem _ (List.mem_append_right _ h)))) w_f_X3_gather_good
theorem g_f_X3_execute_X3_gather_V265 : GoodIn w_f_X3_execute (wsV RX3 265 RX3 yX3_gather w_f_X3_gather) := goodIn_app (nb_g4 (List.mem_cons_of_mem _ (List.mem_append_left _ (List.mem_append_left _ (List.mem_of_getElem? (i := 31) rfl)))) (List.mem_cons_of_mem _ (List.mem_append_left _ (List.mem_append_left _ (List.mem_of_getElem? (i := 32) rfl)))) (List.mem_cons_of_mem _ (List.mem_append_left _ (List.mem_append_left _ (List.mem_of_getElem? (i := 33) rfl)))) (List.mem_cons_of_mem _ (List.mem_append_left _ (List.mem_append_left _ (List.mem_of_getElem? (i := 3) rfl)))) (by decide +kernel)) gg_f_X3_execute_X3_gather
theorem gg_f_X3_execute_X3_iterate : GoodIn w_f_X3_execute w_f_X3_iterate := goodIn_sub (fun w h => (List.mem_cons.mp h).elim (fun e => (List.mem_cons_of_mem _ (List.mem_append_left _ (List.mem_append_right _ (List.mem_append_right _ (List.mem_append_right _ (List.mem_append_right _ (List.mem_append_right _ (List.mem_append_right _ (List.mem_append_right _ (List.mem_append_right _ (List.mem_append_left _ (List.mem_cons.mpr (Or.inl e)))))))))))))) (fun h => (List.mem_append.mp h).elim (fun h => (List.mem_cons_of_mem _ (List.mem_append_left _ (List.mem_append_right _ (List.mem_append_right _ (List.mem_append_right _ (List.mem_append_right _ (List.mem_append_right _ (List.mem_append_right _ (List.mem_append_right _ (List.mem_append_right _ (List.mem_append_left _ (List.mem_cons_of_mem _ h))))))))))))) (fun h => List.mem_cons_of_mem _ (List.mem_append_right _ h)))) w_f_X3_iterate_good
theorem g_f_X3_execute_X3_iterate_V262 : GoodIn w_f_X3_execute (wsV RX3 262 RX3 yX3_iterate w_f_X3_iterate) := goodIn_app (nb_g4 (List.mem_cons_of_mem _ (List.mem_append_left _ (List.mem_append_left _ (List.mem_of_getElem? (i := 28) rfl)))) (List.mem_cons_of_mem _ (List.mem_append_left _ (List.mem_append_left _ (List.mem_of_getElem? (i := 29) rfl)))) (List.mem_cons_of_mem _ (List.mem_append_left _ (List.mem_append_left _ (List.mem_of_getElem? (i := 30) rfl)))) (List.mem_cons_of_mem _ (List.mem_append_left _ (List.mem_append_left _ (List.mem_of_getElem? (i := 3) rfl)))) (by decide +kernel)) gg_f_X3_execute_X3_iterate
theorem gg_f_X3_execute_X3_makeRoom : GoodIn w_f_X3_execute w_f_X3_makeRoom := goodIn_sub (fun w h => (List.mem_cons.mp h).elim (fun e => (List.mem_cons_of_mem _ (List.mem_append_left _ (List.mem_append_right _ (List.mem_append_right _ (List.mem_append_right _ (List.mem_append_left _ (List.mem_cons.mpr (Or.inl e))))))))) (fun h => (List.mem_append.mp h).elim (fun h => (List.mem_cons_of_mem _ (List.mem_append_left _ (List.mem_append_right _ (List.mem_append_right _ (List.mem_append_right _ (List.mem_append_left _ (List.mem_cons_of_mem _ h)))))))) (fun h => List.mem_cons_of_mem _ (List.mem_append_right _ h)))) w_f_X3_makeRoom_good
theorem g_f_X3_execute_X3_makeRoom_V246 : GoodIn w_f_X3_execute (wsV RX3 246 RX3 yX3_makeRoom w_f_X3_makeRoom) := goodIn_app (nb_g4 (List.mem_cons_of_mem _ (List.mem_append_left _ (List.mem_append_left _ (List.mem_of_getElem? (i := 12) rfl)))) (List.mem_cons_of_mem _ (List.mem_append_left _ (List.mem_append_left _ (List.mem_of_getElem? (i := 13) rfl)))) (List.mem_cons_of_mem _ (List.mem_append_left _ (List.mem_append_left _ (List.mem_of_getElem? (i := 14) rfl)))) (List.mem_cons_of_mem _ (List.mem_append_left _ (List.mem_append_left _ (List.mem_of_getElem? (i := 3) rfl)))) (by decide +kernel)) gg_f_X3_execute_X3_makeRoom
theorem gg_f_X3_execute_X3_makeValue : GoodIn w_f_X3_execute w_f_X3_makeValue := goodIn_sub (fun w h => (List.mem_cons.mp h).elim (fun e => (List.mem_cons_of_mem _ (List.mem_append_left _ (List.mem_append_right _ (List.mem_append_right _ (List.mem_append_right _ (List.mem_append_right _ (List.mem_append_right _ (List.mem_append_right _ (List.mem_append_right _ (List.mem_append_left _ (List.mem_cons.mpr (Or.inl e))))))))))))) (fun h => (List.mem_append.mp h).elim (fun h => (List.mem_cons_of_mem _ (List.mem_append_left _ (List.mem_append_right _ (List.mem_append_right _ (List.mem_append_right _ (List.mem_append_right _ (List.mem_append_right _ (List.mem_append_right _ (List.mem_append_right _ (List.mem_append_left _ (List.mem_cons_of_mem _ h)))))))))))) (fun h => List.mem_cons_of_mem _ (List.mem_append_right _ h)))) w_f_X3_makeValue_good
theorem g_f_X3_execute_X3_makeValue_V259 : GoodIn w_f_X3_execute (wsV RX3 259 RX3 yX3_makeValue w_f_X3_makeValue) := goodIn_app (nb_g4 (List.mem_cons_of_mem _ (List.mem_append_left _ (List.mem_append_left _ (List.mem_of_getElem? (i := 25) rfl)))) (List.mem_cons_of_mem _ (List.mem_append_left _ (List.mem_append_left _ (List.mem_of_getElem? (i := 26) rfl)))) (List.mem_cons_of_mem _ (List.mem_append_left _ (List.mem_append_left _ (List.mem_of_getElem? (i := 27) rfl)))) (List.mem_cons_of_mem _ (List.mem_append_left _ (List.mem_append_left _ (List.mem_of_getElem? (i := 3) rfl)))) (by decide +kernel)) gg_f_X3_execute_X3_makeValue
theorem gg_f_X3_execute_X3_partly : GoodIn w_f_X3_execute w_f_X3_partly := goodIn_sub (fun w h => (List.mem_cons.mp h).elim (fun e => (List.mem_cons_of_mem _ (List.mem_append_left _ (List.mem_append_right _ (List.mem_append_right _ (List.mem_append_right _ (List.mem_append_right _ (List.mem_append_right _ (List.mem_append_right _ (List.mem_append_right _ (List.mem_append_right _ (List.mem_append_right _ (List.mem_append_right _ (List.mem_append_left _ (List.mem_cons.mpr (Or.inl e)))))))))))))))) (fun h => (List.mem_append.mp h).elim (fun h => (List.mem_cons_of_mem _ (List.mem_append_left _ (List.mem_append_right _ (List.mem_append_right _ (List.mem_append_right _ (List.mem_append_right _ (List.mem_append_right _ (List.mem_append_right _ (List.mem_append_right _ (List.mem_append_right _ (List.mem_append_right _ (List.mem_append_right _ (List.mem_append_left _ (List.mem_cons_of_mem _ h))))))))))))))) (fun h => List.mem_cons_of_mem _ (List.mem_append_right _ h)))) w_f_X3_partly_good
theorem g_f_X3_execute_X3_partly_V268 : GoodIn w_f_X3_execute (wsV RX3 268 RX3 yX3_partly w_f_X3_partly) := goodIn_app (nb_g4 (List.mem_cons_of_mem _ (List.mem_append_left _ (List.mem_append_left _ (List.mem_of_getElem? (i := 34) rfl)))) (List.mem_cons_of_mem _ (List.mem_append_left _ (List.mem_append_left _ (List.mem_of_getElem? (i := 35) rfl)))) (List.mem_cons_of_mem _ (List.mem_append_left _ (List.mem_append_left _ (List.mem_of_getElem? (i := 36) rfl)))) (List.mem_cons_of_mem _ (List.mem_append_left _ (List.mem_append_left _ (List.mem_of_getElem? (i := 3) rfl)))) (by decide +kernel)) gg_f_X3_execute_X3_partly
theorem gg_f_X3_execute_X3_print : GoodIn w_f_X3_execute w_f_X3_print := goodIn_sub (fun w h => (List.mem_cons.mp h).elim (fun e => (List.mem_cons_of_mem _ (List.mem_append_left _ (List.mem_append_right _ (List.mem_append_right _ (List.mem_append_right _ (List.mem_append_right _ (List.mem_append_right _ (List.mem_append_right _ (List.mem_append_right _ (List.mem_append_right _ (List.mem_append_right _ (List.mem_append_right _ (List.mem_append_right _ (List.mem_append_right _ (List.mem_append_right _ (List.mem_append_right _ (List.mem_append_left _ (List.mem_cons.mpr (Or.inl e)))))))))))))))))))) (fun h => (List.mem_append.mp h).elim (fun h => (List.mem_cons_of_mem _ (List.mem_append_left _ (List.mem_append_right _ (List.mem_append_right _ (List.mem_append_right _ (List.mem_append_right _ (List.mem_append_right _ (List.mem_append_right _ (List.mem_append_right _ (List.mem_append_right _ (List.mem_append_right _ (List.mem_append_right _ (List.mem_append_right _ (List.mem_append_right _ (List.mem_append_right _ (List.mem_append_right _ (List.mem_append_left _ (List.mem_cons_of_mem _ h))))))))))))))))))) (fun h => List.mem_cons_of_mem _ (List.mem_append_right _ h)))) w_f_X3_print_good
theorem g_f_X3_execute_X3_print_V297 : GoodIn w_f_X3_execute (wsV RX3 297 RX3 yX3_print w_f_X3_print) := goodIn_app (nb_g4 (List.mem_cons_of_mem _ (List.mem_append_left _ (List.mem_append_left _ (List.mem_of_getElem? (i := 49) rfl)))) (List.mem_cons_of_mem _ (List.mem_append_left _ (List.mem_append_left _ (List.mem_of_getElem? (i := 50) rfl)))) (List.mem_cons_of_mem _ (List.mem_append_left _ (List.mem_append_left _ (List.mem_of_getElem? (i := 51) rfl)))) (List.mem_cons_of_mem _ (List.mem_append_left _ (List.mem_append_left _ (List.mem_of_getElem? (i := 3) rfl)))) (by decide +kernel)) gg_f_X3_execute_X3_print
theorem gg_f_X3_execute_X3_read : GoodIn w_f_X3_execute w_f_X3_read := goodIn_sub (fun w h => (List.mem_cons.mp h).elim (fun e => (List.mem_cons_of_mem _ (List.mem_append_left _ (List.mem_append_right _ (List.mem_append_right _ (List.mem_append_right _ (List.mem_append_right _ (List.mem_append_right _ (List.mem_append_right _ (List.mem_append_right _ (List.mem_append_right _ (List.mem_append_right _ (List.mem_append_right _ (List.mem_append_right _ (List.mem_append_right _ (List.mem_append_right _ (List.mem_append_right _ (List.mem_append_right _ (List.mem_append_right _ (List.mem_append_left _ (List.mem_cons.mpr (Or.inl e)))))))))))))))))))))) (fun h => (List.mem_append.mp h).elim (fun h => (List.mem_cons_of_mem _ (List.mem_append_left _ (List.mem_append_right _ (List.mem_append_right _ (List.mem_append_right _ (List.mem_append_right _ (List.mem_append_right _ (List.mem_append_right _ (List.mem_append_right _ (List.mem_append_right _ (List.mem_append_right _ (List.mem_append_right _ (List.mem_append_right _ (List.mem_append_right _ (List.mem_append_right _ (List.mem_append_right _ (List.mem_append_right _ (List.mem_append_right _ (List.mem_append_left _ (List.mem_cons_of_mem _ h))))))))))))))))))))) (fun h => List.mem_cons_of_mem _ (List.mem_append_right _ h)))) w_f_X3_read_good
theorem g_f_X3_execute_X3_read_V290 : GoodIn w_f_X3_execute (wsV RX3 290 RX3 yX3_read w_f_X3_read) := goodIn_app (nb_g4 (List.mem_cons_of_mem _ (List.mem_append_left _ (List.mem_append_left _ (List.mem_of_getElem? (i := 55) rfl)))) (List.mem_cons_of_mem _ (List.mem_append_left _ (List.mem_append_left _ (List.mem_of_getElem? (i := 56) rfl)))) (List.mem_cons_of_mem _ (List.mem_append_left _ (List.mem_append_left _ (List.mem_of_getElem? (i := 57) rfl)))) (List.mem_cons_of_mem _ (List.mem_append_left _ (List.mem_append_left _ (List.mem_of_getElem? (i := 3) rfl)))) (by decide +kernel)) gg_f_X3_execute_X3_read
theorem gg_f_X3_execute_X3_write : GoodIn w_f_X3_execute w_f_X3_write := goodIn_sub (fun w h => (List.mem_cons.mp h).elim (fun e => (List.mem_cons_of_mem _ (List.mem_append_left _ (List.mem_append_right _ (List.mem_append_right _ (List.mem_append_right _ (List.mem_append_right _ (List.mem_append_right _ (List.mem_append_right _ (List.mem_append_right _ (List.mem_append_right _ (List.mem_append_right _ (List.mem_append_right _ (List.mem_append_right _ (List.mem_append_right _ (List.mem_append_right _ (List.mem_append_right _ (List.mem_append_right _ (List.mem_append_right _ (List.mem_append_right _ (List.mem_append_left _ (List.mem_cons.mpr (Or.inl e))))))))))))))))))))))) (fun h => (List.mem_append.mp h).elim (fun h => (List.mem_cons_of_mem _ (List.mem_append_left _ (List.mem_append_right _ (List.mem_append_right _ (List.mem_append_right _ (List.mem_append_right _ (List.mem_append_right _ (List.mem_append_right _ (List.mem_append_right _ (List.mem_append_right _ (List.mem_append_right _ (List.mem_append_right _ (List.mem_append_right _ (List.mem_append_right _ (List.mem_append_right _ (List.mem_append_right _ (List.mem_append_right _ (List.mem_append_right _ (List.mem_append_right _ (List.mem_append_left _ (List.mem_cons_of_mem _ h)))))))))))))))))))))) (fun h => List.mem_cons_of_mem _ (List.mem_append_right _ h)))) w_f_X3_write_good
theorem g_f_X3_execute_X3_write_V293 : GoodIn w_f_X3_execute (wsV RX3 293 RX3 yX3_write w_f_X3_write) := goodIn_app (nb_g4 (List.mem_cons_of_mem _ (List.mem_append_left _ (List.mem_append_left _ (List.mem_of_getElem? (i := 58) rfl)))) (List.mem_cons_of_mem _ (List.mem_append_left _ (List.mem_append_left _ (List.mem_of_getElem? (i := 59) rfl)))) (List.mem_cons_of_mem _ (List.mem_append_left _ (List.mem_append_left _ (List.mem_of_getElem? (i := 60) rfl)))) (List.mem_cons_of_mem _ (List.mem_append_left _ (List.mem_append_left _ (List.mem_of_getElem? (i := 3) rfl)))) (by decide +kernel)) gg_f_X3_execute_X3_write
theorem gg_f_X3_execute_X0_binary : GoodIn w_f_X3_execute w_y_X0_binary := goodIn_sub (fun w h => (List.mem_cons.mp h).elim (fun e => (List.mem_cons_of_mem _ (List.mem_append_left _ (List.mem_append_right _ (List.mem_append_right _ (List.mem_append_right _ (List.mem_append_right _ (List.mem_append_right _ (List.mem_append_right _ (List.mem_append_right _ (List.mem_append_right _ (List.mem_append_right _ (List.mem_append_right _ (List.mem_append_right _ (List.mem_append_right _ (List.mem_append_left _ (List.mem_cons.mpr (Or.inl e)))))))))))))))))) (fun h => (List.mem_append.mp h).elim (fun h => (List.mem_cons_of_mem _ (List.mem_append_left _ (List.mem_append_right _ (List.mem_append_right _ (List.mem_append_right _ (List.mem_append_right _ (List.mem_append_right _ (List.mem_append_right _ (List.mem_append_right _ (List.mem_append_right _ (List.mem_append_right _ (List.mem_append_right _ (List.mem_append_right _ (List.mem_append_right _ (List.mem_append_left _ (List.mem_cons_of_mem _ h))))))))))))))))) (fun h => List.mem_cons_of_mem _ (List.mem_append_right _ h)))) w_y_X0_binary_good
theorem g_y_X3_execute_X0_binary_V274 : GoodIn w_f_X3_execute (wsV RX3 274 RX0 yX0_binary w_y_X0_binary) := goodIn_app (nb_g4 (List.mem_cons_of_mem _ (List.mem_append_left _ (List.mem_append_left _ (List.mem_of_getElem? (i := 42) rfl)))) (List.mem_cons_of_mem _ (List.mem_append_left _ (List.mem_append_left _ (List.mem_of_getElem? (i := 43) rfl)))) (List.mem_cons_of_mem _ (List.mem_append_left _ (List.mem_append_left _ (List.mem_of_getElem? (i := 44) rfl)))) (List.mem_cons_of_mem _ (List.mem_append_left _ (List.mem_append_left _ (List.mem_of_getElem? (i := 45) rfl)))) (by decide +kernel)) gg_f_X3_execute_X0_binary
theorem gg_f_X3_execute_X1_isTight : GoodIn w_f_X3_execute w_y_X1_isTight := goodIn_sub (fun w h => (List.mem_cons.mp h).elim (fun e => (List.mem_cons_of_mem _ (List.mem_append_left _ (List.mem_append_right _ (List.mem_append_right _ (List.mem_append_left _ (List.mem_cons.mpr (Or.inl e)))))))) (fun h => (List.mem_append.mp h).elim (fun h => (List.mem_cons_of_mem _ (List.mem_append_left _ (List.mem_append_right _ (List.mem_append_right _ (List.mem_append_left _ (List.mem_cons_of_mem _ h))))))) (fun h => List.mem_cons_of_mem _ (List.mem_append_right _ h)))) w_y_X1_isTight_good
theorem g_y_X3_execute_X1_isTight_V188 : GoodIn w_f_X3_execute (wsV RX3 188 RX1 yX1_isTight w_y_X1_isTight) := goodIn_app (nb_g4 (List.mem_cons_of_mem _ (List.mem_append_left _ (List.mem_append_left _ (List.mem_of_getElem? (i := 8) rfl)))) (List.mem_cons_of_mem _ (List.mem_append_left _ (List.mem_append_left _ (List.mem_of_getElem? (i := 9) rfl)))) (List.mem_cons_of_mem _ (List.mem_append_left _ (List.mem_append_left _ (List.mem_of_getElem? (i := 10) rfl)))) (List.mem_cons_of_mem _ (List.mem_append_left _ (List.mem_append_left _ (List.mem_of_getElem? (i := 11) rfl)))) (by decide +kernel)) gg_f_X3_execute_X1_isTight
theorem gg_f_X3_execute_X3_beginWork : GoodIn w_f_X3_execute w_y_X3_beginWork := goodIn_sub (fun w h => (List.mem_cons.mp h).elim (fun e => (List.mem_cons_of_mem _ (List.mem_append_left _ (List.mem_append_right _ (List.mem_append_left _ (List.mem_cons.mpr (Or.inl e))))))) (fun h => (List.mem_append.mp h).elim (fun h => (List.mem_cons_of_mem _ (List.mem_append_left _ (List.mem_append_right _ (List.mem_append_left _ (List.mem_cons_of_mem _ h)))))) (fun h => List.mem_cons_of_mem _ (List.mem_append_right _ h)))) w_y_X3_beginWork_good
theorem g_y_X3_execute_X3_beginWork_V238 : GoodIn w_f_X3_execute (wsV RX3 238 RX3 yX3_beginWork w_y_X3_beginWork) := goodIn_app (nb_g4 (List.mem_cons_of_mem _ (List.mem_append_left _ (List.mem_append_left _ (List.mem_of_getElem? (i := 0) rfl)))) (List.mem_cons_of_mem _ (List.mem_append_left _ (List.mem_append_left _ (List.mem_of_getElem? (i := 1) rfl)))) (List.mem_cons_of_mem _ (List.mem_append_left _ (List.mem_append_left _ (List.mem_of_getElem? (i := 2) rfl)))) (List.mem_cons_of_mem _ (List.mem_append_left _ (List.mem_append_left _ (List.mem_of_getElem? (i := 3) rfl)))) (by decide +kernel)) gg_f_X3_execute_X3_beginWork
theorem gg_f_X3_execute_X3_replace : GoodIn w_f_X3_execute w_y_X3_replace := goodIn_sub (fun w h => (List.mem_cons.mp h).elim (fun e => (List.mem_cons_of_mem _ (List.mem_append_left _ (List.mem_append_right _ (List.mem_append_right _ (List.mem_append_right _ (List.mem_append_right _ (List.mem_append_right _ (List.mem_append_right _ (List.mem_append_right _ (List.mem_append_right _ (List.mem_append_right _ (List.mem_append_right _ (List.mem_append_right _ (List.mem_append_right _ (List.mem_append_right _ (List.mem_append_left _ (List.mem_cons.mpr (Or.inl e))))))))))))))))))) (fun h => (List.mem_append.mp h).elim (fun h => (List.mem_cons_of_mem _ (List.mem_append_left _ (List.mem_append_right _ (List.mem_append_right _ (List.mem_append_right _ (List.mem_append_right _ (List.mem_append_right _ (List.mem_append_right _ (List.mem_append_right _ (List.mem_append_right _ (List.mem_append_right _ (List.mem_append_right _ (List.mem_append_right _ (List.mem_append_right _ (List.mem_append_right _ (List.mem_append_left _ (List.mem_cons_of_mem _ h)))))))))))))))))) (fun h => List.mem_cons_of_mem _ (List.mem_append_right _ h)))) w_y_X3_replace_good
theorem g_y_X3_execute_X3_replace_V280 : GoodIn w_f_X3_execute (wsV RX3 280 RX3 yX3_replace w_y_X3_replace) := goodIn_app (nb_g4 (List.mem_cons_of_mem _ (List.mem_append_left _ (List.mem_append_left _ (List.mem_of_getElem? (i := 46) rfl)))) (List.mem_cons_of_mem _ (List.mem_append_left _ (List.mem_append_left _ (List.mem_of_getElem? (i := 47) rfl)))) (List.mem_cons_of_mem _ (List.mem_append_left _ (List.mem_append_left _ (List.mem_of_getElem? (i := 48) rfl)))) (List.mem_cons_of_mem _ (List.mem_append_left _ (List.mem_append_left _ (List.mem_of_getElem? (i := 3) rfl)))) (by decide +kernel)) gg_f_X3_execute_X3_replace
set_option maxHeartbeats 40000000 in
set_option maxRecDepth 100000 in
theorem c_f_X3_execute (l : Launch) (hl0 : l.stackTraces = false) (dC : Nat → ClassId) (dI : Nat → Nat → Nat) (cy : Nat → ClassId) (ek a : Nat → Nat) (k0 : Nat) (L0 : LV) (σ0 : CS) (r0 : RS) (h0 : f_X3_execute k0 0 L0 σ0 = some r0) (z : Nat → Nat) (sz : Nat) : vx_Met l yX3_execute w_f_X3_execute ({ frames := 88, cells := r0.2.2.1, slots := r0.2.2.2, locals := 2175 }) (va_Pc [.ref (a 18)] (nInF (dC, dI) cy ek sz (vC cy a z σ0))) (xV dC dI cy a (va_A (vC cy a z σ0) sz) [1, 2, 3, 20, 21, 22, 26] z r0) (xX dC dI cy a (va_A (vC cy a z σ0) sz) [1, 2, 3, 20, 21, 22, 26] z r0) r0.2.2.1 r0.2.2.2 (va_A (vC cy a z σ0) sz) := by
  refine vx_ofW (cc := cX3_execute) (maxL := 7) (ret := none) (by decide) rfl ?_
  intro p e s m args below meth c s₁ B hml hno hv
  obtain ⟨rfl, ⟨⟨hsz, hP, hK, hD0, hG⟩, hE⟩, hT⟩ := hv
  have hx := B.exec
  have hb := B.bytes
  have hr := B.returns
  have hts := atoms_spec (ws := w_f_X3_execute) B.pre
  have hown : s.vm.findClass RX3 = some m.cls := findClass_of_methodNamed B.named
  have hlocks := B.notSynchronized
  subst hsz
  have hD := hD0.self (sz := s.heap.size)
  generalize hAe : va_A (vC cy a z σ0) s.heap.size = A at hD hE hT ⊢
  have hA : ∀ q : Nat, s.heap.size ≤ q → A q := fun q h => by rw [← hAe]; exact Or.inr h
  have hS : va_S A s.heap s.heap [] := va_S.rf
  have hl := lv_entry ([.ref (a 18)]) (n := 7) (Nat.le_of_ble_eq_true rfl)
  rw [lg_entry_eq]
  generalize (lg_sl ([.ref (a 18)]) ++ List.replicate (7 - (lg_sl ([.ref (a 18)])).length) Slot.unset).toArray = ls at hl ⊢
  have hl : lv_has ls 7 [(0, .ref (a 18))] := hl
  generalize hmc : r0.2.2.1 = mc
  generalize hms : r0.2.2.2 = ms
  have blk : ∀ k : Nat, (bX p l e (headSpec w_f_X3_execute ({ frames := 88, cells := mc, slots := ms, locals := 2175 })).room s m #[.ref (a 18)] below meth c dC dI cy a A (fun r => vx_MQ below (xV dC dI cy a A [1, 2, 3, 20, 21, 22, 26] z r) (xX dC dI cy a A [1, 2, 3, 20, 21, 22, 26] z r) #[.ref (a 18)] s mc ms A) [1, 2, 3, 20, 21, 22, 26] z mc ms 7 (f_X3_execute k 0) (fun z L => [(0, .ref (a 18))]) 0 (fun z L => [])) ∧ (bX p l e (headSpec w_f_X3_execute ({ frames := 88, cells := mc, slots := ms, locals := 2175 })).room s m #[.ref (a 18)] below meth c dC dI cy a A (fun r => vx_MQ below (xV dC dI cy a A [1, 2, 3, 20, 21, 22, 26] z r) (xX dC dI cy a A [1, 2, 3, 20, 21, 22, 26] z r) #[.ref (a 18)] s mc ms A) [1, 2, 3, 20, 21, 22, 26] z mc ms 7 (f_X3_execute k 1) (fun z L => [(0, .ref (a 18)), (1, .ref (z (pR0 (L.2.2.1 1)))), (2, .long (L.2.1 2))]) 14 (fun z L => [])) ∧ (bX p l e (headSpec w_f_X3_execute ({ frames := 88, cells := mc, slots := ms, locals := 2175 })).room s m #[.ref (a 18)] below meth c dC dI cy a A (fun r => vx_MQ below (xV dC dI cy a A [1, 2, 3, 20, 21, 22, 26] z r) (xX dC dI cy a A [1, 2, 3, 20, 21, 22, 26] z r) #[.ref (a 18)] s mc ms A) [1, 2, 3, 20, 21, 22, 26] z mc ms 7 (f_X3_execute k 2) (fun z L => []) 445 (fun z L => [])) ∧ (bX p l e (headSpec w_f_X3_execute ({ frames := 88, cells := mc, slots := ms, locals := 2175 })).room s m #[.ref (a 18)] below meth c dC dI cy a A (fun r => vx_MQ below (xV dC dI cy a A [1, 2, 3, 20, 21, 22, 26] z r) (xX dC dI cy a A [1, 2, 3, 20, 21, 22, 26] z r) #[.ref (a 18)] s mc ms A) [1, 2, 3, 20, 21, 22, 26] z mc ms 7 (f_X3_execute k 3) (fun z L => [(0, .ref (a 18)), (1, .ref (z (pR0 (L.2.2.1 1)))), (2, .long (L.2.1 2))]) 43 (fun z L => [])) ∧ (bX p l e (headSpec w_f_X3_execute ({ frames := 88, cells := mc, slots := ms, locals := 2175 })).room s m #[.ref (a 18)] below meth c dC dI cy a A (fun r => vx_MQ below (xV dC dI cy a A [1, 2, 3, 20, 21, 22, 26] z r) (xX dC dI cy a A [1, 2, 3, 20, 21, 22, 26] z r) #[.ref (a 18)] s mc ms A) [1, 2, 3, 20, 21, 22, 26] z mc ms 7 (f_X3_execute k 4) (fun z L => []) 64 (fun z L => [])) ∧ (bX p l e (headSpec w_f_X3_execute ({ frames := 88, cells := mc, slots := ms, locals := 2175 })).room s m #[.ref (a 18)] below meth c dC dI cy a A (fun r => vx_MQ below (xV dC dI cy a A [1, 2, 3, 20, 21, 22, 26] z r) (xX dC dI cy a A [1, 2, 3, 20, 21, 22, 26] z r) #[.ref (a 18)] s mc ms A) [1, 2, 3, 20, 21, 22, 26] z mc ms 7 (f_X3_execute k 5) (fun z L => [(0, .ref (a 18)), (1, .ref (z (pR0 (L.2.2.1 1)))), (2, .long (L.2.1 2)), (4, .int (L.1 4))]) 65 (fun z L => [])) ∧ (bX p l e (headSpec w_f_X3_execute ({ frames := 88, cells := mc, slots := ms, locals := 2175 })).room s m #[.ref (a 18)] below meth c dC dI cy a A (fun r => vx_MQ below (xV dC dI cy a A [1, 2, 3, 20, 21, 22, 26] z r) (xX dC dI cy a A [1, 2, 3, 20, 21, 22, 26] z r) #[.ref (a 18)] s mc ms A) [1, 2, 3, 20, 21, 22, 26] z mc ms 7 (f_X3_execute k 6) (fun z L => [(0, .ref (a 18)), (1, .ref (z (pR0 (L.2.2.1 1)))), (2, .long (L.2.1 2)), (4, .int (L.1 4)), (5, .int (L.1 5)), (6, .int (L.1 6))]) 164 (fun z L => [])) ∧ (bX p l e (headSpec w_f_X3_execute ({ frames := 88, cells := mc, slots := ms, locals := 2175 })).room s m #[.ref (a 18)] below meth c dC dI cy a A (fun r => vx_MQ below (xV dC dI cy a A [1, 2, 3, 20, 21, 22, 26] z r) (xX dC dI cy a A [1, 2, 3, 20, 21, 22, 26] z r) #[.ref (a 18)] s mc ms A) [1, 2, 3, 20, 21, 22, 26] z mc ms 7 (f_X3_execute k 7) (fun z L => [(0, .ref (a 18)), (1, .ref (z (pR0 (L.2.2.1 1)))), (2, .long (L.2.1 2)), (5, .int (L.1 5)), (6, .int (L.1 6))]) 177 (fun z L => [])) ∧ (bX p l e (headSpec w_f_X3_execute ({ frames := 88, cells := mc, slots := ms, locals := 2175 })).room s m #[.ref (a 18)] below meth c dC dI cy a A (fun r => vx_MQ below (xV dC dI cy a A [1, 2, 3, 20, 21, 22, 26] z r) (xX dC dI cy a A [1, 2, 3, 20, 21, 22, 26] z r) #[.ref (a 18)] s mc ms A) [1, 2, 3, 20, 21, 22, 26] z mc ms 7 (f_X3_execute k 8) (fun z L => [(0, .ref (a 18)), (1, .ref (z (pR0 (L.2.2.1 1)))), (2, .long (L.2.1 2)), (4, .int (L.1 4)), (5, .int (L.1 5)), (6, .int (L.1 6))]) 188 (fun z L => [])) ∧ (bX p l e (headSpec w_f_X3_execute ({ frames := 88, cells := mc, slots := ms, locals := 2175 })).room s m #[.ref (a 18)] below meth c dC dI cy a A (fun r => vx_MQ below (xV dC dI cy a A [1, 2, 3, 20, 21, 22, 26] z r) (xX dC dI cy a A [1, 2, 3, 20, 21, 22, 26] z r) #[.ref (a 18)] s mc ms A) [1, 2, 3, 20, 21, 22, 26] z mc ms 7 (f_X3_execute k 9) (fun z L => [(0, .ref (a 18)), (1, .ref (z (pR0 (L.2.2.1 1)))), (2, .long (L.2.1 2)), (5, .int (L.1 5)), (6, .int (L.1 6))]) 201 (fun z L => [])) ∧ (bX p l e (headSpec w_f_X3_execute ({ frames := 88, cells := mc, slots := ms, locals := 2175 })).room s m #[.ref (a 18)] below meth c dC dI cy a A (fun r => vx_MQ below (xV dC dI cy a A [1, 2, 3, 20, 21, 22, 26] z r) (xX dC dI cy a A [1, 2, 3, 20, 21, 22, 26] z r) #[.ref (a 18)] s mc ms A) [1, 2, 3, 20, 21, 22, 26] z mc ms 7 (f_X3_execute k 10) (fun z L => [(0, .ref (a 18)), (1, .ref (z (pR0 (L.2.2.1 1)))), (2, .long (L.2.1 2)), (4, .int (L.1 4)), (5, .int (L.1 5)), (6, .int (L.1 6))]) 212 (fun z L => [])) ∧ (bX p l e (headSpec w_f_X3_execute ({ frames := 88, cells := mc, slots := ms, locals := 2175 })).room s m #[.ref (a 18)] below meth c dC dI cy a A (fun r => vx_MQ below (xV dC dI cy a A [1, 2, 3, 20, 21, 22, 26] z r) (xX dC dI cy a A [1, 2, 3, 20, 21, 22, 26] z r) #[.ref (a 18)] s mc ms A) [1, 2, 3, 20, 21, 22, 26] z mc ms 7 (f_X3_execute k 11) (fun z L => [(0, .ref (a 18)), (1, .ref (z (pR0 (L.2.2.1 1)))), (2, .long (L.2.1 2)), (5, .int (L.1 5)), (6, .int (L.1 6))]) 225 (fun z L => [])) ∧ (bX p l e (headSpec w_f_X3_execute ({ frames := 88, cells := mc, slots := ms, locals := 2175 })).room s m #[.ref (a 18)] below meth c dC dI cy a A (fun r => vx_MQ below (xV dC dI cy a A [1, 2, 3, 20, 21, 22, 26] z r) (xX dC dI cy a A [1, 2, 3, 20, 21, 22, 26] z r) #[.ref (a 18)] s mc ms A) [1, 2, 3, 20, 21, 22, 26] z mc ms 7 (f_X3_execute k 12) (fun z L => [(0, .ref (a 18)), (1, .ref (z (pR0 (L.2.2.1 1)))), (2, .long (L.2.1 2)), (4, .int (L.1 4)), (5, .int (L.1 5)), (6, .int (L.1 6))]) 236 (fun z L => [])) ∧ (bX p l e (headSpec w_f_X3_execute ({ frames := 88, cells := mc, slots := ms, locals := 2175 })).room s m #[.ref (a 18)] below meth c dC dI cy a A (fun r => vx_MQ below (xV dC dI cy a A [1, 2, 3, 20, 21, 22, 26] z r) (xX dC dI cy a A [1, 2, 3, 20, 21, 22, 26] z r) #[.ref (a 18)] s mc ms A) [1, 2, 3, 20, 21, 22, 26] z mc ms 7 (f_X3_execute k 13) (fun z L => [(0, .ref (a 18)), (1, .ref (z (pR0 (L.2.2.1 1)))), (2, .long (L.2.1 2)), (4, .int (L.1 4)), (5, .int (L.1 5)), (6, .int (L.1 6))]) 249 (fun z L => [])) ∧ (bX p l e (headSpec w_f_X3_execute ({ frames := 88, cells := mc, slots := ms, locals := 2175 })).room s m #[.ref (a 18)] below meth c dC dI cy a A (fun r => vx_MQ below (xV dC dI cy a A [1, 2, 3, 20, 21, 22, 26] z r) (xX dC dI cy a A [1, 2, 3, 20, 21, 22, 26] z r) #[.ref (a 18)] s mc ms A) [1, 2, 3, 20, 21, 22, 26] z mc ms 7 (f_X3_execute k 14) (fun z L => [(0, .ref (a 18)), (1, .ref (z (pR0 (L.2.2.1 1)))), (2, .long (L.2.1 2)), (5, .int (L.1 5))]) 262 (fun z L => [])) ∧ (bX p l e (headSpec w_f_X3_execute ({ frames := 88, cells := mc, slots := ms, locals := 2175 })).room s m #[.ref (a 18)] below meth c dC dI cy a A (fun r => vx_MQ below (xV dC dI cy a A [1, 2, 3, 20, 21, 22, 26] z r) (xX dC dI cy a A [1, 2, 3, 20, 21, 22, 26] z r) #[.ref (a 18)] s mc ms A) [1, 2, 3, 20, 21, 22, 26] z mc ms 7 (f_X3_execute k 15) (fun z L => [(0, .ref (a 18)), (1, .ref (z (pR0 (L.2.2.1 1)))), (2, .long (L.2.1 2)), (6, .int (L.1 6))]) 432 (fun z L => [])) ∧ (bX p l e (headSpec w_f_X3_execute ({ frames := 88, cells := mc, slots := ms, locals := 2175 })).room s m #[.ref (a 18)] below meth c dC dI cy a A (fun r => vx_MQ below (xV dC dI cy a A [1, 2, 3, 20, 21, 22, 26] z r) (xX dC dI cy a A [1, 2, 3, 20, 21, 22, 26] z r) #[.ref (a 18)] s mc ms A) [1, 2, 3, 20, 21, 22, 26] z mc ms 7 (f_X3_execute k 16) (fun z L => [(0, .ref (a 18)), (1, .ref (z (pR0 (L.2.2.1 1)))), (2, .long (L.2.1 2)), (5, .int (L.1 5))]) 317 (fun z L => [])) ∧ (bX p l e (headSpec w_f_X3_execute ({ frames := 88, cells := mc, slots := ms, locals := 2175 })).room s m #[.ref (a 18)] below meth c dC dI cy a A (fun r => vx_MQ below (xV dC dI cy a A [1, 2, 3, 20, 21, 22, 26] z r) (xX dC dI cy a A [1, 2, 3, 20, 21, 22, 26] z r) #[.ref (a 18)] s mc ms A) [1, 2, 3, 20, 21, 22, 26] z mc ms 7 (f_X3_execute k 17) (fun z L => [(0, .ref (a 18)), (1, .ref (z (pR0 (L.2.2.1 1)))), (2, .long (L.2.1 2)), (4, .int (L.1 4)), (5, .int (L.1 5)), (6, .int (L.1 6))]) 347 (fun z L => [])) ∧ (bX p l e (headSpec w_f_X3_execute ({ frames := 88, cells := mc, slots := ms, locals := 2175 })).room s m #[.ref (a 18)] below meth c dC dI cy a A (fun r => vx_MQ below (xV dC dI cy a A [1, 2, 3, 20, 21, 22, 26] z r) (xX dC dI cy a A [1, 2, 3, 20, 21, 22, 26] z r) #[.ref (a 18)] s mc ms A) [1, 2, 3, 20, 21, 22, 26] z mc ms 7 (f_X3_execute k 18) (fun z L => [(0, .ref (a 18)), (1, .ref (z (pR0 (L.2.2.1 1)))), (2, .long (L.2.1 2)), (4, .int (L.1 4)), (5, .int (L.1 5)), (6, .int (L.1 6))]) 383 (fun z L => [])) ∧ (bX p l e (headSpec w_f_X3_execute ({ frames := 88, cells := mc, slots := ms, locals := 2175 })).room s m #[.ref (a 18)] below meth c dC dI cy a A (fun r => vx_MQ below (xV dC dI cy a A [1, 2, 3, 20, 21, 22, 26] z r) (xX dC dI cy a A [1, 2, 3, 20, 21, 22, 26] z r) #[.ref (a 18)] s mc ms A) [1, 2, 3, 20, 21, 22, 26] z mc ms 7 (f_X3_execute k 19) (fun z L => [(0, .ref (a 18)), (1, .ref (z (pR0 (L.2.2.1 1)))), (2, .long (L.2.1 2))]) 438 (fun z L => [])) ∧ (bX p l e (headSpec w_f_X3_execute ({ frames := 88, cells := mc, slots := ms, locals := 2175 })).room s m #[.ref (a 18)] below meth c dC dI cy a A (fun r => vx_MQ below (xV dC dI cy a A [1, 2, 3, 20, 21, 22, 26] z r) (xX dC dI cy a A [1, 2, 3, 20, 21, 22, 26] z r) #[.ref (a 18)] s mc ms A) [1, 2, 3, 20, 21, 22, 26] z mc ms 7 (f_X3_execute k 20) (fun z L => [(0, .ref (a 18)), (1, .ref (z (pR0 (L.2.2.1 1)))), (2, .long (L.2.1 2)), (4, .int (L.1 4)), (6, .int (L.1 6))]) 371 (fun z L => [.ref (a 18)])) ∧ (bX p l e (headSpec w_f_X3_execute ({ frames := 88, cells := mc, slots := ms, locals := 2175 })).room s m #[.ref (a 18)] below meth c dC dI cy a A (fun r => vx_MQ below (xV dC dI cy a A [1, 2, 3, 20, 21, 22, 26] z r) (xX dC dI cy a A [1, 2, 3, 20, 21, 22, 26] z r) #[.ref (a 18)] s mc ms A) [1, 2, 3, 20, 21, 22, 26] z mc ms 7 (f_X3_execute k 21) (fun z L => [(0, .ref (a 18)), (1, .ref (z (pR0 (L.2.2.1 1)))), (2, .long (L.2.1 2)), (4, .int (L.1 4))]) 375 (fun z L => [.int (L.1 100), .ref (a 18)])) ∧ (bX p l e (headSpec w_f_X3_execute ({ frames := 88, cells := mc, slots := ms, locals := 2175 })).room s m #[.ref (a 18)] below meth c dC dI cy a A (fun r => vx_MQ below (xV dC dI cy a A [1, 2, 3, 20, 21, 22, 26] z r) (xX dC dI cy a A [1, 2, 3, 20, 21, 22, 26] z r) #[.ref (a 18)] s mc ms A) [1, 2, 3, 20, 21, 22, 26] z mc ms 7 (f_X3_execute k 22) (fun z L => [(0, .ref (a 18)), (1, .ref (z (pR0 (L.2.2.1 1)))), (2, .long (L.2.1 2)), (4, .int (L.1 4)), (5, .int (L.1 5)), (6, .int (L.1 6))]) 407 (fun z L => [.ref (a 18)])) ∧ (bX p l e (headSpec w_f_X3_execute ({ frames := 88, cells := mc, slots := ms, locals := 2175 })).room s m #[.ref (a 18)] below meth c dC dI cy a A (fun r => vx_MQ below (xV dC dI cy a A [1, 2, 3, 20, 21, 22, 26] z r) (xX dC dI cy a A [1, 2, 3, 20, 21, 22, 26] z r) #[.ref (a 18)] s mc ms A) [1, 2, 3, 20, 21, 22, 26] z mc ms 7 (f_X3_execute k 23) (fun z L => [(0, .ref (a 18)), (1, .ref (z (pR0 (L.2.2.1 1)))), (2, .long (L.2.1 2)), (4, .int (L.1 4)), (5, .int (L.1 5))]) 411 (fun z L => [.int (L.1 100), .ref (a 18)])) ∧ (bX p l e (headSpec w_f_X3_execute ({ frames := 88, cells := mc, slots := ms, locals := 2175 })).room s m #[.ref (a 18)] below meth c dC dI cy a A (fun r => vx_MQ below (xV dC dI cy a A [1, 2, 3, 20, 21, 22, 26] z r) (xX dC dI cy a A [1, 2, 3, 20, 21, 22, 26] z r) #[.ref (a 18)] s mc ms A) [1, 2, 3, 20, 21, 22, 26] z mc ms 7 (f_X3_execute k 24) (fun z L => [(0, .ref (a 18)), (1, .ref (z (pR0 (L.2.2.1 1)))), (2, .long (L.2.1 2))]) 425 (fun z L => [.int (L.1 100), .int (L.1 101), .ref (a 18)])) ∧ (bX p l e (headSpec w_f_X3_execute ({ frames := 88, cells := mc, slots := ms, locals := 2175 })).room s m #[.ref (a 18)] below meth c dC dI cy a A (fun r => vx_MQ below (xV dC dI cy a A [1, 2, 3, 20, 21, 22, 26] z r) (xX dC dI cy a A [1, 2, 3, 20, 21, 22, 26] z r) #[.ref (a 18)] s mc ms A) [1, 2, 3, 20, 21, 22, 26] z mc ms 7 (f_X3_execute k 25) (fun z L => [(0, .ref (a 18)), (1, .ref (z (pR0 (L.2.2.1 1)))), (2, .long (L.2.1 2))]) 426 (fun z L => [.int (L.1 100), .int (L.1 101), .int (L.1 102), .ref (a 18)])) := by
    intro k
    induction k with
    | zero => exact ⟨fun z c1 c2 L σ r h => (by cases h), fun z c1 c2 L σ r h => (by cases h), fun z c1 c2 L σ r h => (by cases h), fun z c1 c2 L σ r h => (by cases h), fun z c1 c2 L σ r h => (by cases h), fun z c1 c2 L σ r h => (by cases h), fun z c1 c2 L σ r h => (by cases h), fun z c1 c2 L σ r h => (by cases h), fun z c1 c2 L σ r h => (by cases h), fun z c1 c2 L σ r h => (by cases h), fun z c1 c2 L σ r h => (by cases h), fun z c1 c2 L σ r h => (by cases h), fun z c1 c2 L σ r h => (by cases h), fun z c1 c2 L σ r h => (by cases h), fun z c1 c2 L σ r h => (by cases h), fun z c1 c2 L σ r h => (by cases h), fun z c1 c2 L σ r h => (by cases h), fun z c1 c2 L σ r h => (by cases h), fun z c1 c2 L σ r h => (by cases h), fun z c1 c2 L σ r h => (by cases h), fun z c1 c2 L σ r h => (by cases h), fun z c1 c2 L σ r h => (by cases h), fun z c1 c2 L σ r h => (by cases h), fun z c1 c2 L σ r h => (by cases h), fun z c1 c2 L σ r h => (by cases h), fun z c1 c2 L σ r h => (by cases h)⟩
    | succ k ih =>
      refine ⟨?_, ?_, ?_, ?_, ?_, ?_, ?_, ?_, ?_, ?_, ?_, ?_, ?_, ?_, ?_, ?_, ?_, ?_, ?_, ?_, ?_, ?_, ?_, ?_, ?_, ?_⟩
      · intro z cells slots L σ r h hzk hc hs H locs ls hP hD hS hl
        rw [f_X3_execute] at h
        refine lv_aload_n hx hb dX3_execute_0 rfl (lv_at hl 0 rfl) ?_
        obtain ⟨r1, hc1, h⟩ := op_ex h
        refine kc_v (va_runV (As := []) (rest := []) ⟨hx, hb, hml, hown, hts⟩ (c_y_X3_beginWork l dC dI cy a z k lZ σ r1 hc1 H.size) (cwV 0 hts g_y_X3_execute_X3_beginWork_V238 rfl rfl rfl hd_y_X3_beginWork ⟨Nat.le_of_ble_eq_true rfl, Nat.le_of_ble_eq_true rfl⟩) ⟨nb_blind, va_recv hK hP (ci := 3) (q0 := 18) rfl rfl, (kb_pre hK hG hP hD)⟩ rfl rfl hl.1 rfl (lv_room (Nat.le_of_ble_eq_true rfl)) dX3_execute_1 ⟨(Nat.le_trans (Nat.le_add_right _ _) (Nat.le_of_eq hc)), (Nat.le_trans (Nat.le_add_right _ _) (Nat.le_of_eq hs))⟩) hA hP hD hS (fun H locs hP hD hS => ?_)
        refine lv_aload_n hx hb dX3_execute_4 rfl (lv_at hl 0 rfl) ?_
        obtain ⟨b2, hb2, h⟩ := oP_ex h
        refine hgq_18_6 hx hb hts in_f_X3_execute_X3 hown hK hP (hts _ (List.mem_cons_of_mem _ (List.mem_append_left _ (List.mem_append_left _ (List.mem_of_getElem? (i := 4) rfl))))) hb2 dX3_execute_5 ?_
        refine hg_P_0n b2 hx hb hts in_f_X3_execute_X7 hown hK hP (va_Nw.use rfl (hG.1 _ (List.mem_of_getElem? (i := 66) rfl))) dX3_execute_8 ?_
        refine lv_astore_n (lv' := [(1, .ref (z (pR0 (sKd r1.2 b2)))), (0, .ref (a 18))]) hx hb dX3_execute_11 rfl hl (by decide) rfl (fun ls hl => ?_)
        refine lv_lconst (v := 0) hx hb dX3_execute_12 (by decide) ?_
        refine lv_lstore_n (lv' := [(2, .long 0), (1, .ref (z (pR0 (sKd r1.2 b2)))), (0, .ref (a 18))]) hx hb dX3_execute_13 rfl hl (by decide) rfl (fun ls hl => ?_)
        exact ih.2.1 z _ _ (lJ (lB L 1 ((sKd r1.2 b2))) 2 0) r1.2 _ h hzk hc hs H locs ls hP hD hS (lv_sub hl [2, 1, 0] rfl)
      · intro z cells slots L σ r h hzk hc hs H locs ls hP hD hS hl
        rw [f_X3_execute] at h
        refine lv_lload_n hx hb dX3_execute_14 rfl (lv_at hl 2 rfl) ?_
        refine lv_ldc2 (v := 4611686018427387904) hx hb hown (hts _ (List.mem_cons_of_mem _ (List.mem_append_left _ (List.mem_append_left _ (List.mem_of_getElem? (i := 5) rfl))))) dX3_execute_15 ?_
        refine nb_lcmp hx hb dX3_execute_18 ?_
        refine lv_if_ge (tgt := 445) hx hb dX3_execute_19 (by decide) (fun c1 => ?_) (fun c1 => ?_)
        · rw [if_pos c1] at h
          exact ih.2.2.1 z _ _ L σ _ h hzk hc hs H locs ls hP hD hS (lv_sub hl [] rfl)
        · rw [if_neg c1] at h
          refine lv_aload_n hx hb dX3_execute_22 rfl (lv_at hl 0 rfl) ?_
          refine hg_18_12 hx hb hts in_f_X3_execute_X3 hown hK hP (hts _ (List.mem_cons_of_mem _ (List.mem_append_left _ (List.mem_append_left _ (List.mem_of_getElem? (i := 6) rfl))))) dX3_execute_23 ?_
          refine lv_if_ne (tgt := 445) hx hb dX3_execute_26 (by decide) (fun c2 => ?_) (fun c2 => ?_)
          · rw [if_neg c2] at h
            exact ih.2.2.1 z _ _ L σ _ h hzk hc hs H locs ls hP hD hS (lv_sub hl [] rfl)
          · rw [if_pos c2] at h
            refine lv_aload_n hx hb dX3_execute_29 rfl (lv_at hl 0 rfl) ?_
            refine hg_18_0 hx hb hts in_f_X3_execute_X3 hown hK hP (hts _ (List.mem_cons_of_mem _ (List.mem_append_left _ (List.mem_append_left _ (List.mem_of_getElem? (i := 7) rfl))))) dX3_execute_30 ?_
            obtain ⟨r3, hc3, h⟩ := op_ex h
            refine kc_i (va_runV (As := []) (rest := []) ⟨hx, hb, hml, hown, hts⟩ (c_y_X1_isTight l dC dI cy a z k lZ σ r3 hc3 H.size) (cwV 0 hts g_y_X3_execute_X1_isTight_V188 rfl rfl rfl hd_y_X1_isTight ⟨Nat.le_of_ble_eq_true rfl, Nat.le_of_ble_eq_true rfl⟩) ⟨nb_blind, va_recv hK hP (ci := 1) (q0 := 0) rfl rfl, (kb_pre hK hG hP hD)⟩ rfl rfl hl.1 rfl (lv_room (Nat.le_of_ble_eq_true rfl)) dX3_execute_33 ⟨(Nat.le_trans (Nat.le_add_right _ _) (Nat.le_of_eq hc)), (Nat.le_trans (Nat.le_add_right _ _) (Nat.le_of_eq hs))⟩) hA hP hD hS (fun H locs hP hD hS => ?_)
            refine lv_if_eq (tgt := 43) hx hb dX3_execute_36 (by decide) (fun c4 => ?_) (fun c4 => ?_)
            · rw [if_pos c4] at h
              exact ih.2.2.2.1 z _ _ L r3.2 _ h hzk hc hs H locs ls hP hD hS (lv_sub hl [0, 1, 2] rfl)
            · rw [if_neg c4] at h
              refine lv_aload_n hx hb dX3_execute_39 rfl (lv_at hl 0 rfl) ?_
              obtain ⟨r5, hc5, hle5, h9⟩ := ox_ex h
              clear h
              refine kx_v (vx_runV (As := []) (rest := []) ⟨hx, hb, hml, hown, hts⟩ (c_f_X3_makeRoom l hl0 dC dI cy ek a k lZ r3.2 r5 hc5 z H.size) (cwV 0 hts g_f_X3_execute_X3_makeRoom_V246 rfl rfl rfl hd_f_X3_makeRoom ⟨Nat.le_of_ble_eq_true rfl, Nat.le_of_ble_eq_true rfl⟩) ⟨nb_blindF, va_recv hK hP (ci := 3) (q0 := 18) rfl rfl, (kx_pre hK hG hE hT hA hP hD hS)⟩ rfl rfl hl.1 rfl (lv_room (Nat.le_of_ble_eq_true rfl)) dX3_execute_40 ⟨Nat.le_trans (Nat.add_le_add_left hle5.1 _) (Nat.le_of_eq hc), Nat.le_trans (Nat.add_le_add_left hle5.2 _) (Nat.le_of_eq hs)⟩) hK hA hzk hP hD hS (by decide) hno hlocks ?_
              rcases h9 with ⟨h00, y5, hny5, hy⟩ | ⟨h00, hy⟩
              · subst hy
                have h := hny5
                refine Or.inl ⟨h00, fun z H locs hz5 hzk hP hD hS => ?_⟩
                try dsimp only at hl
                rw [← hz5 ((pR0 (L.2.2.1 1))) (by unfold pR0; cases (L.2.2.1 1) <;> decide)] at hl
                replace hc := (Nat.add_assoc _ _ _).trans hc
                replace hs := (Nat.add_assoc _ _ _).trans hs
                exact ih.2.2.2.1 z _ _ L r5.2.1 _ h hzk hc hs H locs ls hP hD hS (lv_sub hl [0, 1, 2] rfl)
              · subst hy
                exact Or.inr ⟨h00, rfl, hc, hs⟩
      · intro z cells slots L σ r h hzk hc hs H locs ls hP hD hS hl
        rw [f_X3_execute] at h
        obtain rfl := Option.some.inj h
        subst hc
        subst hs
        exact xr_v hx hb hr hK hzk hP hD hS hlocks dX3_execute_445
      · intro z cells slots L σ r h hzk hc hs H locs ls hP hD hS hl
        rw [f_X3_execute] at h
        refine lv_aload_n hx hb dX3_execute_43 rfl (lv_at hl 0 rfl) ?_
        refine hg_18_5 hx hb hts in_f_X3_execute_X3 hown hK hP (hts _ (List.mem_cons_of_mem _ (List.mem_append_left _ (List.mem_append_left _ (List.mem_of_getElem? (i := 15) rfl))))) dX3_execute_44 ?_
        refine hg_19_0n hx hb hts in_f_X3_execute_X8 hown hK hP (va_Nw.use rfl (hG.1 _ (List.mem_of_getElem? (i := 8) rfl))) dX3_execute_47 ?_
        refine lv_istore (lv' := [(4, .int (σ.1 1900)), (0, .ref (a 18)), (1, .ref (z (pR0 (L.2.2.1 1)))), (2, .long (L.2.1 2))]) hx hb dX3_execute_50 hl (by decide) rfl (fun ls hl => ?_)
        refine lv_iload hx hb dX3_execute_52 (lv_at hl 0 rfl) ?_
        refine lv_if_lt (tgt := 64) hx hb dX3_execute_54 (by decide) (fun c1 => ?_) (fun c1 => ?_)
        · rw [if_pos c1] at h
          exact ih.2.2.2.2.1 z _ _ L σ _ h hzk hc hs H locs ls hP hD hS (lv_sub hl [] rfl)
        · rw [if_neg c1] at h
          refine lv_iload hx hb dX3_execute_57 (lv_at hl 0 rfl) ?_
          refine lv_aload_n hx hb dX3_execute_59 rfl (lv_at hl 2 rfl) ?_
          refine hn_P0 ((L.2.2.1 1)) hx hb hK hP dX3_execute_60 ?_
          refine lv_icmp_lt (tgt := 65) hx hb dX3_execute_61 (by decide) (fun c2 => ?_) (fun c2 => ?_)
          · rw [if_pos c2] at h
            exact ih.2.2.2.2.2.1 z _ _ (lI L 4 ((σ.1 1900))) σ _ h hzk hc hs H locs ls hP hD hS (lv_sub hl [1, 2, 3, 0] rfl)
          · rw [if_neg c2] at h
            exact ih.2.2.2.2.1 z _ _ L σ _ h hzk hc hs H locs ls hP hD hS (lv_sub hl [] rfl)
      · intro z cells slots L σ r h hzk hc hs H locs ls hP hD hS hl
        rw [f_X3_execute] at h
        obtain rfl := Option.some.inj h
        subst hc
        subst hs
        exact xr_v hx hb hr hK hzk hP hD hS hlocks dX3_execute_64
      · intro z cells slots L σ r h hzk hc hs H locs ls hP hD hS hl
        rw [f_X3_execute] at h
        refine lv_aload_n hx hb dX3_execute_65 rfl (lv_at hl 0 rfl) ?_
        refine hg_18_5 hx hb hts in_f_X3_execute_X3 hown hK hP (hts _ (List.mem_cons_of_mem _ (List.mem_append_left _ (List.mem_append_left _ (List.mem_of_getElem? (i := 15) rfl))))) dX3_execute_66 ?_
        refine lv_iload hx hb dX3_execute_69 (lv_at hl 3 rfl) ?_
        refine lv_iconst (v := 1) hx hb dX3_execute_71 (by decide) ?_
        refine lv_iadd hx hb dX3_execute_72 ?_
        refine hp_19_0n hx hb hts in_f_X3_execute_X8 hown hK hP hD hS (va_Nw.use rfl (hG.1 _ (List.mem_of_getElem? (i := 8) rfl))) dX3_execute_73 (fun H locs hP hD hS => ?_)
        refine lv_aload_n hx hb dX3_execute_76 rfl (lv_at hl 1 rfl) ?_
        refine lv_iload hx hb dX3_execute_77 (lv_at hl 3 rfl) ?_
        obtain ⟨q1, h⟩ := kr_ite1 h
        refine hl_P0 ((L.2.2.1 1)) hx hb hK hP q1 dX3_execute_79 ?_
        refine lv_sipush (v := 255) hx hb dX3_execute_80 (by decide) ?_
        refine lv_iand hx hb dX3_execute_83 ?_
        refine lv_istore (lv' := [(5, .int ((((uI σ 1900 ((((L.1 4)) + 1))).2.2.1 (pR0 ((L.2.2.1 1))) ((L.1 4)).toNatClampNeg)) &&& 255)), (0, .ref (a 18)), (1, .ref (z (pR0 (L.2.2.1 1)))), (2, .long (L.2.1 2)), (4, .int (L.1 4))]) hx hb dX3_execute_84 hl (by decide) rfl (fun ls hl => ?_)
        refine lv_aload_n hx hb dX3_execute_86 rfl (lv_at hl 2 rfl) ?_
        refine lv_iload hx hb dX3_execute_87 (lv_at hl 4 rfl) ?_
        obtain ⟨q2, h⟩ := kr_ite1 h
        refine hl_P0 ((L.2.2.1 1)) hx hb hK hP q2 dX3_execute_89 ?_
        refine lv_bipush (v := 8) hx hb dX3_execute_90 (by decide) ?_
        refine lv_ishr hx hb dX3_execute_92 ?_
        refine lv_istore (lv' := [(6, .int ((((uI σ 1900 ((((L.1 4)) + 1))).2.2.1 (pR0 ((L.2.2.1 1))) ((L.1 4)).toNatClampNeg)) >>> ((8 : Int32) &&& 31))), (5, .int ((((uI σ 1900 ((((L.1 4)) + 1))).2.2.1 (pR0 ((L.2.2.1 1))) ((L.1 4)).toNatClampNeg)) &&& 255)), (0, .ref (a 18)), (1, .ref (z (pR0 (L.2.2.1 1)))), (2, .long (L.2.1 2)), (4, .int (L.1 4))]) hx hb dX3_execute_93 hl (by decide) rfl (fun ls hl => ?_)
        refine lv_iload hx hb dX3_execute_95 (lv_at hl 1 rfl) ?_
        refine lv_iconst (v := 4) hx hb dX3_execute_97 (by decide) ?_
        refine lv_ishr hx hb dX3_execute_98 ?_
        by_cases q3 : (((((((uI σ 1900 ((((L.1 4)) + 1))).2.2.1 (pR0 ((L.2.2.1 1))) ((L.1 4)).toNatClampNeg)) &&& 255)) >>> ((4 : Int32) &&& 31))) = (0 : Int32)
        · rw [if_pos q3] at h
          refine lv_tableIn (off := 65) (tgt := 164) hx hb dX3_execute_99 (by rw [q3]; decide) (by rw [q3]; decide) (by rw [q3]; decide) (by decide) ?_
          exact ih.2.2.2.2.2.2.1 z _ _ (lI (lI L 5 (((((uI σ 1900 ((((L.1 4)) + 1))).2.2.1 (pR0 ((L.2.2.1 1))) ((L.1 4)).toNatClampNeg)) &&& 255))) 6 (((((uI σ 1900 ((((L.1 4)) + 1))).2.2.1 (pR0 ((L.2.2.1 1))) ((L.1 4)).toNatClampNeg)) >>> ((8 : Int32) &&& 31)))) (uI σ 1900 ((((L.1 4)) + 1))) _ h hzk hc hs H locs ls hP hD hS (lv_sub hl [2, 3, 4, 5, 1, 0] rfl)
        · rw [if_neg q3] at h
          by_cases q4 : (((((((uI σ 1900 ((((L.1 4)) + 1))).2.2.1 (pR0 ((L.2.2.1 1))) ((L.1 4)).toNatClampNeg)) &&& 255)) >>> ((4 : Int32) &&& 31))) = (1 : Int32)
          · rw [if_pos q4] at h
            refine lv_tableIn (off := 78) (tgt := 177) hx hb dX3_execute_99 (by rw [q4]; decide) (by rw [q4]; decide) (by rw [q4]; decide) (by decide) ?_
            exact ih.2.2.2.2.2.2.2.1 z _ _ (lI (lI L 5 (((((uI σ 1900 ((((L.1 4)) + 1))).2.2.1 (pR0 ((L.2.2.1 1))) ((L.1 4)).toNatClampNeg)) &&& 255))) 6 (((((uI σ 1900 ((((L.1 4)) + 1))).2.2.1 (pR0 ((L.2.2.1 1))) ((L.1 4)).toNatClampNeg)) >>> ((8 : Int32) &&& 31)))) (uI σ 1900 ((((L.1 4)) + 1))) _ h hzk hc hs H locs ls hP hD hS (lv_sub hl [2, 3, 4, 1, 0] rfl)
          · rw [if_neg q4] at h
            by_cases q5 : (((((((uI σ 1900 ((((L.1 4)) + 1))).2.2.1 (pR0 ((L.2.2.1 1))) ((L.1 4)).toNatClampNeg)) &&& 255)) >>> ((4 : Int32) &&& 31))) = (2 : Int32)
            · rw [if_pos q5] at h
              refine lv_tableIn (off := 89) (tgt := 188) hx hb dX3_execute_99 (by rw [q5]; decide) (by rw [q5]; decide) (by rw [q5]; decide) (by decide) ?_
              exact ih.2.2.2.2.2.2.2.2.1 z _ _ (lI (lI L 5 (((((uI σ 1900 ((((L.1 4)) + 1))).2.2.1 (pR0 ((L.2.2.1 1))) ((L.1 4)).toNatClampNeg)) &&& 255))) 6 (((((uI σ 1900 ((((L.1 4)) + 1))).2.2.1 (pR0 ((L.2.2.1 1))) ((L.1 4)).toNatClampNeg)) >>> ((8 : Int32) &&& 31)))) (uI σ 1900 ((((L.1 4)) + 1))) _ h hzk hc hs H locs ls hP hD hS (lv_sub hl [2, 3, 4, 5, 1, 0] rfl)
            · rw [if_neg q5] at h
              by_cases q6 : (((((((uI σ 1900 ((((L.1 4)) + 1))).2.2.1 (pR0 ((L.2.2.1 1))) ((L.1 4)).toNatClampNeg)) &&& 255)) >>> ((4 : Int32) &&& 31))) = (3 : Int32)
              · rw [if_pos q6] at h
                refine lv_tableIn (off := 102) (tgt := 201) hx hb dX3_execute_99 (by rw [q6]; decide) (by rw [q6]; decide) (by rw [q6]; decide) (by decide) ?_
                exact ih.2.2.2.2.2.2.2.2.2.1 z _ _ (lI (lI L 5 (((((uI σ 1900 ((((L.1 4)) + 1))).2.2.1 (pR0 ((L.2.2.1 1))) ((L.1 4)).toNatClampNeg)) &&& 255))) 6 (((((uI σ 1900 ((((L.1 4)) + 1))).2.2.1 (pR0 ((L.2.2.1 1))) ((L.1 4)).toNatClampNeg)) >>> ((8 : Int32) &&& 31)))) (uI σ 1900 ((((L.1 4)) + 1))) _ h hzk hc hs H locs ls hP hD hS (lv_sub hl [2, 3, 4, 1, 0] rfl)
              · rw [if_neg q6] at h
                by_cases q7 : (((((((uI σ 1900 ((((L.1 4)) + 1))).2.2.1 (pR0 ((L.2.2.1 1))) ((L.1 4)).toNatClampNeg)) &&& 255)) >>> ((4 : Int32) &&& 31))) = (4 : Int32)
                · rw [if_pos q7] at h
                  refine lv_tableIn (off := 113) (tgt := 212) hx hb dX3_execute_99 (by rw [q7]; decide) (by rw [q7]; decide) (by rw [q7]; decide) (by decide) ?_
                  exact ih.2.2.2.2.2.2.2.2.2.2.1 z _ _ (lI (lI L 5 (((((uI σ 1900 ((((L.1 4)) + 1))).2.2.1 (pR0 ((L.2.2.1 1))) ((L.1 4)).toNatClampNeg)) &&& 255))) 6 (((((uI σ 1900 ((((L.1 4)) + 1))).2.2.1 (pR0 ((L.2.2.1 1))) ((L.1 4)).toNatClampNeg)) >>> ((8 : Int32) &&& 31)))) (uI σ 1900 ((((L.1 4)) + 1))) _ h hzk hc hs H locs ls hP hD hS (lv_sub hl [2, 3, 4, 5, 1, 0] rfl)
                · rw [if_neg q7] at h
                  by_cases q8 : (((((((uI σ 1900 ((((L.1 4)) + 1))).2.2.1 (pR0 ((L.2.2.1 1))) ((L.1 4)).toNatClampNeg)) &&& 255)) >>> ((4 : Int32) &&& 31))) = (5 : Int32)
                  · rw [if_pos q8] at h
                    refine lv_tableIn (off := 126) (tgt := 225) hx hb dX3_execute_99 (by rw [q8]; decide) (by rw [q8]; decide) (by rw [q8]; decide) (by decide) ?_
                    exact ih.2.2.2.2.2.2.2.2.2.2.2.1 z _ _ (lI (lI L 5 (((((uI σ 1900 ((((L.1 4)) + 1))).2.2.1 (pR0 ((L.2.2.1 1))) ((L.1 4)).toNatClampNeg)) &&& 255))) 6 (((((uI σ 1900 ((((L.1 4)) + 1))).2.2.1 (pR0 ((L.2.2.1 1))) ((L.1 4)).toNatClampNeg)) >>> ((8 : Int32) &&& 31)))) (uI σ 1900 ((((L.1 4)) + 1))) _ h hzk hc hs H locs ls hP hD hS (lv_sub hl [2, 3, 4, 1, 0] rfl)
                  · rw [if_neg q8] at h
                    by_cases q9 : (((((((uI σ 1900 ((((L.1 4)) + 1))).2.2.1 (pR0 ((L.2.2.1 1))) ((L.1 4)).toNatClampNeg)) &&& 255)) >>> ((4 : Int32) &&& 31))) = (6 : Int32)
                    · rw [if_pos q9] at h
                      refine lv_tableIn (off := 137) (tgt := 236) hx hb dX3_execute_99 (by rw [q9]; decide) (by rw [q9]; decide) (by rw [q9]; decide) (by decide) ?_
                      exact ih.2.2.2.2.2.2.2.2.2.2.2.2.1 z _ _ (lI (lI L 5 (((((uI σ 1900 ((((L.1 4)) + 1))).2.2.1 (pR0 ((L.2.2.1 1))) ((L.1 4)).toNatClampNeg)) &&& 255))) 6 (((((uI σ 1900 ((((L.1 4)) + 1))).2.2.1 (pR0 ((L.2.2.1 1))) ((L.1 4)).toNatClampNeg)) >>> ((8 : Int32) &&& 31)))) (uI σ 1900 ((((L.1 4)) + 1))) _ h hzk hc hs H locs ls hP hD hS (lv_sub hl [2, 3, 4, 5, 1, 0] rfl)
                    · rw [if_neg q9] at h
                      by_cases q10 : (((((((uI σ 1900 ((((L.1 4)) + 1))).2.2.1 (pR0 ((L.2.2.1 1))) ((L.1 4)).toNatClampNeg)) &&& 255)) >>> ((4 : Int32) &&& 31))) = (7 : Int32)
                      · rw [if_pos q10] at h
                        refine lv_tableIn (off := 150) (tgt := 249) hx hb dX3_execute_99 (by rw [q10]; decide) (by rw [q10]; decide) (by rw [q10]; decide) (by decide) ?_
                        exact ih.2.2.2.2.2.2.2.2.2.2.2.2.2.1 z _ _ (lI (lI L 5 (((((uI σ 1900 ((((L.1 4)) + 1))).2.2.1 (pR0 ((L.2.2.1 1))) ((L.1 4)).toNatClampNeg)) &&& 255))) 6 (((((uI σ 1900 ((((L.1 4)) + 1))).2.2.1 (pR0 ((L.2.2.1 1))) ((L.1 4)).toNatClampNeg)) >>> ((8 : Int32) &&& 31)))) (uI σ 1900 ((((L.1 4)) + 1))) _ h hzk hc hs H locs ls hP hD hS (lv_sub hl [2, 3, 4, 5, 1, 0] rfl)
                      · rw [if_neg q10] at h
                        by_cases q11 : (((((((uI σ 1900 ((((L.1 4)) + 1))).2.2.1 (pR0 ((L.2.2.1 1))) ((L.1 4)).toNatClampNeg)) &&& 255)) >>> ((4 : Int32) &&& 31))) = (8 : Int32)
                        · rw [if_pos q11] at h
                          refine lv_tableIn (off := 163) (tgt := 262) hx hb dX3_execute_99 (by rw [q11]; decide) (by rw [q11]; decide) (by rw [q11]; decide) (by decide) ?_
                          exact ih.2.2.2.2.2.2.2.2.2.2.2.2.2.2.1 z _ _ (lI L 5 (((((uI σ 1900 ((((L.1 4)) + 1))).2.2.1 (pR0 ((L.2.2.1 1))) ((L.1 4)).toNatClampNeg)) &&& 255))) (uI σ 1900 ((((L.1 4)) + 1))) _ h hzk hc hs H locs ls hP hD hS (lv_sub hl [2, 3, 4, 1] rfl)
                        · rw [if_neg q11] at h
                          by_cases q12 : (((((((uI σ 1900 ((((L.1 4)) + 1))).2.2.1 (pR0 ((L.2.2.1 1))) ((L.1 4)).toNatClampNeg)) &&& 255)) >>> ((4 : Int32) &&& 31))) = (9 : Int32)
                          · rw [if_pos q12] at h
                            refine lv_tableIn (off := 333) (tgt := 432) hx hb dX3_execute_99 (by rw [q12]; decide) (by rw [q12]; decide) (by rw [q12]; decide) (by decide) ?_
                            exact ih.2.2.2.2.2.2.2.2.2.2.2.2.2.2.2.1 z _ _ (lI L 6 (((((uI σ 1900 ((((L.1 4)) + 1))).2.2.1 (pR0 ((L.2.2.1 1))) ((L.1 4)).toNatClampNeg)) >>> ((8 : Int32) &&& 31)))) (uI σ 1900 ((((L.1 4)) + 1))) _ h hzk hc hs H locs ls hP hD hS (lv_sub hl [2, 3, 4, 0] rfl)
                          · rw [if_neg q12] at h
                            by_cases q13 : (((((((uI σ 1900 ((((L.1 4)) + 1))).2.2.1 (pR0 ((L.2.2.1 1))) ((L.1 4)).toNatClampNeg)) &&& 255)) >>> ((4 : Int32) &&& 31))) = (10 : Int32)
                            · rw [if_pos q13] at h
                              refine lv_tableIn (off := 218) (tgt := 317) hx hb dX3_execute_99 (by rw [q13]; decide) (by rw [q13]; decide) (by rw [q13]; decide) (by decide) ?_
                              exact ih.2.2.2.2.2.2.2.2.2.2.2.2.2.2.2.2.1 z _ _ (lI L 5 (((((uI σ 1900 ((((L.1 4)) + 1))).2.2.1 (pR0 ((L.2.2.1 1))) ((L.1 4)).toNatClampNeg)) &&& 255))) (uI σ 1900 ((((L.1 4)) + 1))) _ h hzk hc hs H locs ls hP hD hS (lv_sub hl [2, 3, 4, 1] rfl)
                            · rw [if_neg q13] at h
                              by_cases q14 : (((((((uI σ 1900 ((((L.1 4)) + 1))).2.2.1 (pR0 ((L.2.2.1 1))) ((L.1 4)).toNatClampNeg)) &&& 255)) >>> ((4 : Int32) &&& 31))) = (11 : Int32)
                              · rw [if_pos q14] at h
                                refine lv_tableIn (off := 248) (tgt := 347) hx hb dX3_execute_99 (by rw [q14]; decide) (by rw [q14]; decide) (by rw [q14]; decide) (by decide) ?_
                                exact ih.2.2.2.2.2.2.2.2.2.2.2.2.2.2.2.2.2.1 z _ _ (lI (lI L 5 (((((uI σ 1900 ((((L.1 4)) + 1))).2.2.1 (pR0 ((L.2.2.1 1))) ((L.1 4)).toNatClampNeg)) &&& 255))) 6 (((((uI σ 1900 ((((L.1 4)) + 1))).2.2.1 (pR0 ((L.2.2.1 1))) ((L.1 4)).toNatClampNeg)) >>> ((8 : Int32) &&& 31)))) (uI σ 1900 ((((L.1 4)) + 1))) _ h hzk hc hs H locs ls hP hD hS (lv_sub hl [2, 3, 4, 5, 1, 0] rfl)
                              · rw [if_neg q14] at h
                                by_cases q15 : (((((((uI σ 1900 ((((L.1 4)) + 1))).2.2.1 (pR0 ((L.2.2.1 1))) ((L.1 4)).toNatClampNeg)) &&& 255)) >>> ((4 : Int32) &&& 31))) = (12 : Int32)
                                · rw [if_pos q15] at h
                                  refine lv_tableIn (off := 284) (tgt := 383) hx hb dX3_execute_99 (by rw [q15]; decide) (by rw [q15]; decide) (by rw [q15]; decide) (by decide) ?_
                                  exact ih.2.2.2.2.2.2.2.2.2.2.2.2.2.2.2.2.2.2.1 z _ _ (lI (lI L 5 (((((uI σ 1900 ((((L.1 4)) + 1))).2.2.1 (pR0 ((L.2.2.1 1))) ((L.1 4)).toNatClampNeg)) &&& 255))) 6 (((((uI σ 1900 ((((L.1 4)) + 1))).2.2.1 (pR0 ((L.2.2.1 1))) ((L.1 4)).toNatClampNeg)) >>> ((8 : Int32) &&& 31)))) (uI σ 1900 ((((L.1 4)) + 1))) _ h hzk hc hs H locs ls hP hD hS (lv_sub hl [2, 3, 4, 5, 1, 0] rfl)
                                · rw [if_neg q15] at h
                                  have nq3 : ¬ (((((((uI σ 1900 ((((L.1 4)) + 1))).2.2.1 (pR0 ((L.2.2.1 1))) ((L.1 4)).toNatClampNeg)) &&& 255)) >>> ((4 : Int32) &&& 31))).toInt = 0 := nb_ti q3 rfl
                                  have nq4 : ¬ (((((((uI σ 1900 ((((L.1 4)) + 1))).2.2.1 (pR0 ((L.2.2.1 1))) ((L.1 4)).toNatClampNeg)) &&& 255)) >>> ((4 : Int32) &&& 31))).toInt = 1 := nb_ti q4 rfl
                                  have nq5 : ¬ (((((((uI σ 1900 ((((L.1 4)) + 1))).2.2.1 (pR0 ((L.2.2.1 1))) ((L.1 4)).toNatClampNeg)) &&& 255)) >>> ((4 : Int32) &&& 31))).toInt = 2 := nb_ti q5 rfl
                                  have nq6 : ¬ (((((((uI σ 1900 ((((L.1 4)) + 1))).2.2.1 (pR0 ((L.2.2.1 1))) ((L.1 4)).toNatClampNeg)) &&& 255)) >>> ((4 : Int32) &&& 31))).toInt = 3 := nb_ti q6 rfl
                                  have nq7 : ¬ (((((((uI σ 1900 ((((L.1 4)) + 1))).2.2.1 (pR0 ((L.2.2.1 1))) ((L.1 4)).toNatClampNeg)) &&& 255)) >>> ((4 : Int32) &&& 31))).toInt = 4 := nb_ti q7 rfl
                                  have nq8 : ¬ (((((((uI σ 1900 ((((L.1 4)) + 1))).2.2.1 (pR0 ((L.2.2.1 1))) ((L.1 4)).toNatClampNeg)) &&& 255)) >>> ((4 : Int32) &&& 31))).toInt = 5 := nb_ti q8 rfl
                                  have nq9 : ¬ (((((((uI σ 1900 ((((L.1 4)) + 1))).2.2.1 (pR0 ((L.2.2.1 1))) ((L.1 4)).toNatClampNeg)) &&& 255)) >>> ((4 : Int32) &&& 31))).toInt = 6 := nb_ti q9 rfl
                                  have nq10 : ¬ (((((((uI σ 1900 ((((L.1 4)) + 1))).2.2.1 (pR0 ((L.2.2.1 1))) ((L.1 4)).toNatClampNeg)) &&& 255)) >>> ((4 : Int32) &&& 31))).toInt = 7 := nb_ti q10 rfl
                                  have nq11 : ¬ (((((((uI σ 1900 ((((L.1 4)) + 1))).2.2.1 (pR0 ((L.2.2.1 1))) ((L.1 4)).toNatClampNeg)) &&& 255)) >>> ((4 : Int32) &&& 31))).toInt = 8 := nb_ti q11 rfl
                                  have nq12 : ¬ (((((((uI σ 1900 ((((L.1 4)) + 1))).2.2.1 (pR0 ((L.2.2.1 1))) ((L.1 4)).toNatClampNeg)) &&& 255)) >>> ((4 : Int32) &&& 31))).toInt = 9 := nb_ti q12 rfl
                                  have nq13 : ¬ (((((((uI σ 1900 ((((L.1 4)) + 1))).2.2.1 (pR0 ((L.2.2.1 1))) ((L.1 4)).toNatClampNeg)) &&& 255)) >>> ((4 : Int32) &&& 31))).toInt = 10 := nb_ti q13 rfl
                                  have nq14 : ¬ (((((((uI σ 1900 ((((L.1 4)) + 1))).2.2.1 (pR0 ((L.2.2.1 1))) ((L.1 4)).toNatClampNeg)) &&& 255)) >>> ((4 : Int32) &&& 31))).toInt = 11 := nb_ti q14 rfl
                                  have nq15 : ¬ (((((((uI σ 1900 ((((L.1 4)) + 1))).2.2.1 (pR0 ((L.2.2.1 1))) ((L.1 4)).toNatClampNeg)) &&& 255)) >>> ((4 : Int32) &&& 31))).toInt = 12 := nb_ti q15 rfl
                                  refine lv_tableOut (tgt := 432) hx hb dX3_execute_99 (by omega) (by decide) ?_
                                  exact ih.2.2.2.2.2.2.2.2.2.2.2.2.2.2.2.1 z _ _ (lI L 6 (((((uI σ 1900 ((((L.1 4)) + 1))).2.2.1 (pR0 ((L.2.2.1 1))) ((L.1 4)).toNatClampNeg)) >>> ((8 : Int32) &&& 31)))) (uI σ 1900 ((((L.1 4)) + 1))) _ h hzk hc hs H locs ls hP hD hS (lv_sub hl [2, 3, 4, 0] rfl)
      · intro z cells slots L σ r h hzk hc hs H locs ls hP hD hS hl
        rw [f_X3_execute] at h
        refine lv_aload_n hx hb dX3_execute_164 rfl (lv_at hl 0 rfl) ?_
        refine lv_iload hx hb dX3_execute_165 (lv_at hl 4 rfl) ?_
        refine lv_iload hx hb dX3_execute_167 (lv_at hl 5 rfl) ?_
        refine lv_iload hx hb dX3_execute_169 (lv_at hl 3 rfl) ?_
        obtain ⟨r1, hc1, hle1, h9⟩ := ox_ex h
        clear h
        refine kx_v (vx_runV (As := [.int (L.1 5), .int (L.1 6), .int (L.1 4)]) (rest := []) ⟨hx, hb, hml, hown, hts⟩ (c_f_X3_flow l hl0 dC dI cy ek a k (lI (lI (lI lZ 1 ((L.1 5))) 2 ((L.1 6))) 3 ((L.1 4))) σ r1 hc1 z H.size) (cwV 3 hts g_f_X3_execute_X3_flow_V249 rfl rfl rfl hd_f_X3_flow ⟨Nat.le_of_ble_eq_true rfl, Nat.le_of_ble_eq_true rfl⟩) ⟨nb_blindF, va_recv hK hP (ci := 3) (q0 := 18) rfl rfl, (kx_pre hK hG hE hT hA hP hD hS)⟩ rfl rfl hl.1 rfl (lv_room (Nat.le_of_ble_eq_true rfl)) dX3_execute_171 ⟨Nat.le_trans (Nat.add_le_add_left hle1.1 _) (Nat.le_of_eq hc), Nat.le_trans (Nat.add_le_add_left hle1.2 _) (Nat.le_of_eq hs)⟩) hK hA hzk hP hD hS (by decide) hno hlocks ?_
        rcases h9 with ⟨h00, y1, hny1, hy⟩ | ⟨h00, hy⟩
        · subst hy
          have h := hny1
          refine Or.inl ⟨h00, fun z H locs hz1 hzk hP hD hS => ?_⟩
          try dsimp only at hl
          rw [← hz1 ((pR0 (L.2.2.1 1))) (by unfold pR0; cases (L.2.2.1 1) <;> decide)] at hl
          replace hc := (Nat.add_assoc _ _ _).trans hc
          replace hs := (Nat.add_assoc _ _ _).trans hs
          refine lv_goto (tgt := 438) hx hb dX3_execute_174 (by decide) ?_
          exact ih.2.2.2.2.2.2.2.2.2.2.2.2.2.2.2.2.2.2.2.1 z _ _ L r1.2.1 _ h hzk hc hs H locs ls hP hD hS (lv_sub hl [0, 1, 2] rfl)
        · subst hy
          exact Or.inr ⟨h00, rfl, hc, hs⟩
      · intro z cells slots L σ r h hzk hc hs H locs ls hP hD hS hl
        rw [f_X3_execute] at h
        refine lv_aload_n hx hb dX3_execute_177 rfl (lv_at hl 0 rfl) ?_
        refine lv_iload hx hb dX3_execute_178 (lv_at hl 3 rfl) ?_
        refine lv_iload hx hb dX3_execute_180 (lv_at hl 4 rfl) ?_
        obtain ⟨r1, hc1, hle1, h9⟩ := ox_ex h
        clear h
        refine kx_v (vx_runV (As := [.int (L.1 5), .int (L.1 6)]) (rest := []) ⟨hx, hb, hml, hown, hts⟩ (c_f_X3_callsAndPoints l hl0 dC dI cy ek a k (lI (lI lZ 1 ((L.1 5))) 2 ((L.1 6))) σ r1 hc1 z H.size) (cwV 2 hts g_f_X3_execute_X3_callsAndPoints_V253 rfl rfl rfl hd_f_X3_callsAndPoints ⟨Nat.le_of_ble_eq_true rfl, Nat.le_of_ble_eq_true rfl⟩) ⟨nb_blindF, va_recv hK hP (ci := 3) (q0 := 18) rfl rfl, (kx_pre hK hG hE hT hA hP hD hS)⟩ rfl rfl hl.1 rfl (lv_room (Nat.le_of_ble_eq_true rfl)) dX3_execute_182 ⟨Nat.le_trans (Nat.add_le_add_left hle1.1 _) (Nat.le_of_eq hc), Nat.le_trans (Nat.add_le_add_left hle1.2 _) (Nat.le_of_eq hs)⟩) hK hA hzk hP hD hS (by decide) hno hlocks ?_
        rcases h9 with ⟨h00, y1, hny1, hy⟩ | ⟨h00, hy⟩
        · subst hy
          have h := hny1
          refine Or.inl ⟨h00, fun z H locs hz1 hzk hP hD hS => ?_⟩
          try dsimp only at hl
          rw [← hz1 ((pR0 (L.2.2.1 1))) (by unfold pR0; cases (L.2.2.1 1) <;> decide)] at hl
          replace hc := (Nat.add_assoc _ _ _).trans hc
          replace hs := (Nat.add_assoc _ _ _).trans hs
          refine lv_goto (tgt := 438) hx hb dX3_execute_185 (by decide) ?_
          exact ih.2.2.2.2.2.2.2.2.2.2.2.2.2.2.2.2.2.2.2.1 z _ _ L r1.2.1 _ h hzk hc hs H locs ls hP hD hS (lv_sub hl [0, 1, 2] rfl)
        · subst hy
          exact Or.inr ⟨h00, rfl, hc, hs⟩
      · intro z cells slots L σ r h hzk hc hs H locs ls hP hD hS hl
        rw [f_X3_execute] at h
        refine lv_aload_n hx hb dX3_execute_188 rfl (lv_at hl 0 rfl) ?_
        refine lv_iload hx hb dX3_execute_189 (lv_at hl 4 rfl) ?_
        refine lv_iload hx hb dX3_execute_191 (lv_at hl 5 rfl) ?_
        refine lv_iload hx hb dX3_execute_193 (lv_at hl 3 rfl) ?_
        obtain ⟨r1, hc1, hle1, h9⟩ := ox_ex h
        clear h
        refine kx_v (vx_runV (As := [.int (L.1 5), .int (L.1 6), .int (L.1 4)]) (rest := []) ⟨hx, hb, hml, hown, hts⟩ (c_f_X3_data l hl0 dC dI cy ek a k (lI (lI (lI lZ 1 ((L.1 5))) 2 ((L.1 6))) 3 ((L.1 4))) σ r1 hc1 z H.size) (cwV 3 hts g_f_X3_execute_X3_data_V256 rfl rfl rfl hd_f_X3_data ⟨Nat.le_of_ble_eq_true rfl, Nat.le_of_ble_eq_true rfl⟩) ⟨nb_blindF, va_recv hK hP (ci := 3) (q0 := 18) rfl rfl, (kx_pre hK hG hE hT hA hP hD hS)⟩ rfl rfl hl.1 rfl (lv_room (Nat.le_of_ble_eq_true rfl)) dX3_execute_195 ⟨Nat.le_trans (Nat.add_le_add_left hle1.1 _) (Nat.le_of_eq hc), Nat.le_trans (Nat.add_le_add_left hle1.2 _) (Nat.le_of_eq hs)⟩) hK hA hzk hP hD hS (by decide) hno hlocks ?_
        rcases h9 with ⟨h00, y1, hny1, hy⟩ | ⟨h00, hy⟩
        · subst hy
          have h := hny1
          refine Or.inl ⟨h00, fun z H locs hz1 hzk hP hD hS => ?_⟩
          try dsimp only at hl
          rw [← hz1 ((pR0 (L.2.2.1 1))) (by unfold pR0; cases (L.2.2.1 1) <;> decide)] at hl
          replace hc := (Nat.add_assoc _ _ _).trans hc
          replace hs := (Nat.add_assoc _ _ _).trans hs
          refine lv_goto (tgt := 438) hx hb dX3_execute_198 (by decide) ?_
          exact ih.2.2.2.2.2.2.2.2.2.2.2.2.2.2.2.2.2.2.2.1 z _ _ L r1.2.1 _ h hzk hc hs H locs ls hP hD hS (lv_sub hl [0, 1, 2] rfl)
        · subst hy
          exact Or.inr ⟨h00, rfl, hc, hs⟩
      · intro z cells slots L σ r h hzk hc hs H locs ls hP hD hS hl
        rw [f_X3_execute] at h
        refine lv_aload_n hx hb dX3_execute_201 rfl (lv_at hl 0 rfl) ?_
        refine lv_iload hx hb dX3_execute_202 (lv_at hl 3 rfl) ?_
        refine lv_iload hx hb dX3_execute_204 (lv_at hl 4 rfl) ?_
        obtain ⟨r1, hc1, hle1, h9⟩ := ox_ex h
        clear h
        refine kx_v (vx_runV (As := [.int (L.1 5), .int (L.1 6)]) (rest := []) ⟨hx, hb, hml, hown, hts⟩ (c_f_X3_makeValue l hl0 dC dI cy ek a k (lI (lI lZ 1 ((L.1 5))) 2 ((L.1 6))) σ r1 hc1 z H.size) (cwV 2 hts g_f_X3_execute_X3_makeValue_V259 rfl rfl rfl hd_f_X3_makeValue ⟨Nat.le_of_ble_eq_true rfl, Nat.le_of_ble_eq_true rfl⟩) ⟨nb_blindF, va_recv hK hP (ci := 3) (q0 := 18) rfl rfl, (kx_pre hK hG hE hT hA hP hD hS)⟩ rfl rfl hl.1 rfl (lv_room (Nat.le_of_ble_eq_true rfl)) dX3_execute_206 ⟨Nat.le_trans (Nat.add_le_add_left hle1.1 _) (Nat.le_of_eq hc), Nat.le_trans (Nat.add_le_add_left hle1.2 _) (Nat.le_of_eq hs)⟩) hK hA hzk hP hD hS (by decide) hno hlocks ?_
        rcases h9 with ⟨h00, y1, hny1, hy⟩ | ⟨h00, hy⟩
        · subst hy
          have h := hny1
          refine Or.inl ⟨h00, fun z H locs hz1 hzk hP hD hS => ?_⟩
          try dsimp only at hl
          rw [← hz1 ((pR0 (L.2.2.1 1))) (by unfold pR0; cases (L.2.2.1 1) <;> decide)] at hl
          replace hc := (Nat.add_assoc _ _ _).trans hc
          replace hs := (Nat.add_assoc _ _ _).trans hs
          refine lv_goto (tgt := 438) hx hb dX3_execute_209 (by decide) ?_
          exact ih.2.2.2.2.2.2.2.2.2.2.2.2.2.2.2.2.2.2.2.1 z _ _ L r1.2.1 _ h hzk hc hs H locs ls hP hD hS (lv_sub hl [0, 1, 2] rfl)
        · subst hy
          exact Or.inr ⟨h00, rfl, hc, hs⟩
      · intro z cells slots L σ r h hzk hc hs H locs ls hP hD hS hl
        rw [f_X3_execute] at h
        refine lv_aload_n hx hb dX3_execute_212 rfl (lv_at hl 0 rfl) ?_
        refine lv_iload hx hb dX3_execute_213 (lv_at hl 4 rfl) ?_
        refine lv_iload hx hb dX3_execute_215 (lv_at hl 5 rfl) ?_
        refine lv_iload hx hb dX3_execute_217 (lv_at hl 3 rfl) ?_
        obtain ⟨r1, hc1, hle1, h9⟩ := ox_ex h
        clear h
        refine kx_v (vx_runV (As := [.int (L.1 5), .int (L.1 6), .int (L.1 4)]) (rest := []) ⟨hx, hb, hml, hown, hts⟩ (c_f_X3_iterate l hl0 dC dI cy ek a k (lI (lI (lI lZ 1 ((L.1 5))) 2 ((L.1 6))) 3 ((L.1 4))) σ r1 hc1 z H.size) (cwV 3 hts g_f_X3_execute_X3_iterate_V262 rfl rfl rfl hd_f_X3_iterate ⟨Nat.le_of_ble_eq_true rfl, Nat.le_of_ble_eq_true rfl⟩) ⟨nb_blindF, va_recv hK hP (ci := 3) (q0 := 18) rfl rfl, (kx_pre hK hG hE hT hA hP hD hS)⟩ rfl rfl hl.1 rfl (lv_room (Nat.le_of_ble_eq_true rfl)) dX3_execute_219 ⟨Nat.le_trans (Nat.add_le_add_left hle1.1 _) (Nat.le_of_eq hc), Nat.le_trans (Nat.add_le_add_left hle1.2 _) (Nat.le_of_eq hs)⟩) hK hA hzk hP hD hS (by decide) hno hlocks ?_
        rcases h9 with ⟨h00, y1, hny1, hy⟩ | ⟨h00, hy⟩
        · subst hy
          have h := hny1
          refine Or.inl ⟨h00, fun z H locs hz1 hzk hP hD hS => ?_⟩
          try dsimp only at hl
          rw [← hz1 ((pR0 (L.2.2.1 1))) (by unfold pR0; cases (L.2.2.1 1) <;> decide)] at hl
          replace hc := (Nat.add_assoc _ _ _).trans hc
          replace hs := (Nat.add_assoc _ _ _).trans hs
          refine lv_goto (tgt := 438) hx hb dX3_execute_222 (by decide) ?_
          exact ih.2.2.2.2.2.2.2.2.2.2.2.2.2.2.2.2.2.2.2.1 z _ _ L r1.2.1 _ h hzk hc hs H locs ls hP hD hS (lv_sub hl [0, 1, 2] rfl)
        · subst hy
          exact Or.inr ⟨h00, rfl, hc, hs⟩
      · intro z cells slots L σ r h hzk hc hs H locs ls hP hD hS hl
        rw [f_X3_execute] at h
        refine lv_aload_n hx hb dX3_execute_225 rfl (lv_at hl 0 rfl) ?_
        refine lv_iload hx hb dX3_execute_226 (lv_at hl 3 rfl) ?_
        refine lv_iload hx hb dX3_execute_228 (lv_at hl 4 rfl) ?_
        obtain ⟨r1, hc1, hle1, h9⟩ := ox_ex h
        clear h
        refine kx_v (vx_runV (As := [.int (L.1 5), .int (L.1 6)]) (rest := []) ⟨hx, hb, hml, hown, hts⟩ (c_f_X3_gather l hl0 dC dI cy ek a k (lI (lI lZ 1 ((L.1 5))) 2 ((L.1 6))) σ r1 hc1 z H.size) (cwV 2 hts g_f_X3_execute_X3_gather_V265 rfl rfl rfl hd_f_X3_gather ⟨Nat.le_of_ble_eq_true rfl, Nat.le_of_ble_eq_true rfl⟩) ⟨nb_blindF, va_recv hK hP (ci := 3) (q0 := 18) rfl rfl, (kx_pre hK hG hE hT hA hP hD hS)⟩ rfl rfl hl.1 rfl (lv_room (Nat.le_of_ble_eq_true rfl)) dX3_execute_230 ⟨Nat.le_trans (Nat.add_le_add_left hle1.1 _) (Nat.le_of_eq hc), Nat.le_trans (Nat.add_le_add_left hle1.2 _) (Nat.le_of_eq hs)⟩) hK hA hzk hP hD hS (by decide) hno hlocks ?_
        rcases h9 with ⟨h00, y1, hny1, hy⟩ | ⟨h00, hy⟩
        · subst hy
          have h := hny1
          refine Or.inl ⟨h00, fun z H locs hz1 hzk hP hD hS => ?_⟩
          try dsimp only at hl
          rw [← hz1 ((pR0 (L.2.2.1 1))) (by unfold pR0; cases (L.2.2.1 1) <;> decide)] at hl
          replace hc := (Nat.add_assoc _ _ _).trans hc
          replace hs := (Nat.add_assoc _ _ _).trans hs
          refine lv_goto (tgt := 438) hx hb dX3_execute_233 (by decide) ?_
          exact ih.2.2.2.2.2.2.2.2.2.2.2.2.2.2.2.2.2.2.2.1 z _ _ L r1.2.1 _ h hzk hc hs H locs ls hP hD hS (lv_sub hl [0, 1, 2] rfl)
        · subst hy
          exact Or.inr ⟨h00, rfl, hc, hs⟩
      · intro z cells slots L σ r h hzk hc hs H locs ls hP hD hS hl
        rw [f_X3_execute] at h
        refine lv_aload_n hx hb dX3_execute_236 rfl (lv_at hl 0 rfl) ?_
        refine lv_iload hx hb dX3_execute_237 (lv_at hl 4 rfl) ?_
        refine lv_iload hx hb dX3_execute_239 (lv_at hl 5 rfl) ?_
        refine lv_iload hx hb dX3_execute_241 (lv_at hl 3 rfl) ?_
        obtain ⟨r1, hc1, hle1, h9⟩ := ox_ex h
        clear h
        refine kx_v (vx_runV (As := [.int (L.1 5), .int (L.1 6), .int (L.1 4)]) (rest := []) ⟨hx, hb, hml, hown, hts⟩ (c_f_X3_partly l hl0 dC dI cy ek a k (lI (lI (lI lZ 1 ((L.1 5))) 2 ((L.1 6))) 3 ((L.1 4))) σ r1 hc1 z H.size) (cwV 3 hts g_f_X3_execute_X3_partly_V268 rfl rfl rfl hd_f_X3_partly ⟨Nat.le_of_ble_eq_true rfl, Nat.le_of_ble_eq_true rfl⟩) ⟨nb_blindF, va_recv hK hP (ci := 3) (q0 := 18) rfl rfl, (kx_pre hK hG hE hT hA hP hD hS)⟩ rfl rfl hl.1 rfl (lv_room (Nat.le_of_ble_eq_true rfl)) dX3_execute_243 ⟨Nat.le_trans (Nat.add_le_add_left hle1.1 _) (Nat.le_of_eq hc), Nat.le_trans (Nat.add_le_add_left hle1.2 _) (Nat.le_of_eq hs)⟩) hK hA hzk hP hD hS (by decide) hno hlocks ?_
        rcases h9 with ⟨h00, y1, hny1, hy⟩ | ⟨h00, hy⟩
        · subst hy
          have h := hny1
          refine Or.inl ⟨h00, fun z H locs hz1 hzk hP hD hS => ?_⟩
          try dsimp only at hl
          rw [← hz1 ((pR0 (L.2.2.1 1))) (by unfold pR0; cases (L.2.2.1 1) <;> decide)] at hl
          replace hc := (Nat.add_assoc _ _ _).trans hc
          replace hs := (Nat.add_assoc _ _ _).trans hs
          refine lv_goto (tgt := 438) hx hb dX3_execute_246 (by decide) ?_
          exact ih.2.2.2.2.2.2.2.2.2.2.2.2.2.2.2.2.2.2.2.1 z _ _ L r1.2.1 _ h hzk hc hs H locs ls hP hD hS (lv_sub hl [0, 1, 2] rfl)
        · subst hy
          exact Or.inr ⟨h00, rfl, hc, hs⟩
      · intro z cells slots L σ r h hzk hc hs H locs ls hP hD hS hl
        rw [f_X3_execute] at h
        refine lv_aload_n hx hb dX3_execute_249 rfl (lv_at hl 0 rfl) ?_
        refine lv_iload hx hb dX3_execute_250 (lv_at hl 4 rfl) ?_
        refine lv_iload hx hb dX3_execute_252 (lv_at hl 5 rfl) ?_
        refine lv_iload hx hb dX3_execute_254 (lv_at hl 3 rfl) ?_
        obtain ⟨r1, hc1, hle1, h9⟩ := ox_ex h
        clear h
        refine kx_v (vx_runV (As := [.int (L.1 5), .int (L.1 6), .int (L.1 4)]) (rest := []) ⟨hx, hb, hml, hown, hts⟩ (c_f_X3_foldOn l hl0 dC dI cy ek a k (lI (lI (lI lZ 1 ((L.1 5))) 2 ((L.1 6))) 3 ((L.1 4))) σ r1 hc1 z H.size) (cwV 3 hts g_f_X3_execute_X3_foldOn_V271 rfl rfl rfl hd_f_X3_foldOn ⟨Nat.le_of_ble_eq_true rfl, Nat.le_of_ble_eq_true rfl⟩) ⟨nb_blindF, va_recv hK hP (ci := 3) (q0 := 18) rfl rfl, (kx_pre hK hG hE hT hA hP hD hS)⟩ rfl rfl hl.1 rfl (lv_room (Nat.le_of_ble_eq_true rfl)) dX3_execute_256 ⟨Nat.le_trans (Nat.add_le_add_left hle1.1 _) (Nat.le_of_eq hc), Nat.le_trans (Nat.add_le_add_left hle1.2 _) (Nat.le_of_eq hs)⟩) hK hA hzk hP hD hS (by decide) hno hlocks ?_
        rcases h9 with ⟨h00, y1, hny1, hy⟩ | ⟨h00, hy⟩
        · subst hy
          have h := hny1
          refine Or.inl ⟨h00, fun z H locs hz1 hzk hP hD hS => ?_⟩
          try dsimp only at hl
          rw [← hz1 ((pR0 (L.2.2.1 1))) (by unfold pR0; cases (L.2.2.1 1) <;> decide)] at hl
          replace hc := (Nat.add_assoc _ _ _).trans hc
          replace hs := (Nat.add_assoc _ _ _).trans hs
          refine lv_goto (tgt := 438) hx hb dX3_execute_259 (by decide) ?_
          exact ih.2.2.2.2.2.2.2.2.2.2.2.2.2.2.2.2.2.2.2.1 z _ _ L r1.2.1 _ h hzk hc hs H locs ls hP hD hS (lv_sub hl [0, 1, 2] rfl)
        · subst hy
          exact Or.inr ⟨h00, rfl, hc, hs⟩
      · intro z cells slots L σ r h hzk hc hs H locs ls hP hD hS hl
        rw [f_X3_execute] at h
        refine lv_aload_n hx hb dX3_execute_262 rfl (lv_at hl 0 rfl) ?_
        refine hg_18_5 hx hb hts in_f_X3_execute_X3 hown hK hP (hts _ (List.mem_cons_of_mem _ (List.mem_append_left _ (List.mem_append_left _ (List.mem_of_getElem? (i := 15) rfl))))) dX3_execute_263 ?_
        refine lv_dup hx hb dX3_execute_266 rfl ?_
        refine hg_19_2n hx hb hts in_f_X3_execute_X8 hown hK hP (va_Nw.use rfl (hG.1 _ (List.mem_of_getElem? (i := 10) rfl))) dX3_execute_267 ?_
        refine lv_iconst (v := 1) hx hb dX3_execute_270 (by decide) ?_
        refine lv_isub hx hb dX3_execute_271 ?_
        refine hp_19_2n hx hb hts in_f_X3_execute_X8 hown hK hP hD hS (va_Nw.use rfl (hG.1 _ (List.mem_of_getElem? (i := 10) rfl))) dX3_execute_272 (fun H locs hP hD hS => ?_)
        refine lv_aload_n hx hb dX3_execute_275 rfl (lv_at hl 0 rfl) ?_
        refine lv_aload_n hx hb dX3_execute_276 rfl (lv_at hl 0 rfl) ?_
        refine hg_18_2 hx hb hts in_f_X3_execute_X3 hown hK hP (hts _ (List.mem_cons_of_mem _ (List.mem_append_left _ (List.mem_append_left _ (List.mem_of_getElem? (i := 40) rfl))))) dX3_execute_277 ?_
        refine lv_iload hx hb dX3_execute_280 (lv_at hl 3 rfl) ?_
        refine lv_aload_n hx hb dX3_execute_282 rfl (lv_at hl 0 rfl) ?_
        refine hg_18_7 hx hb hts in_f_X3_execute_X3 hown hK hP (hts _ (List.mem_cons_of_mem _ (List.mem_append_left _ (List.mem_append_left _ (List.mem_of_getElem? (i := 41) rfl))))) dX3_execute_283 ?_
        refine lv_aload_n hx hb dX3_execute_286 rfl (lv_at hl 0 rfl) ?_
        refine hg_18_5 hx hb hts in_f_X3_execute_X3 hown hK hP (hts _ (List.mem_cons_of_mem _ (List.mem_append_left _ (List.mem_append_left _ (List.mem_of_getElem? (i := 15) rfl))))) dX3_execute_287 ?_
        refine hg_19_2n hx hb hts in_f_X3_execute_X8 hown hK hP (va_Nw.use rfl (hG.1 _ (List.mem_of_getElem? (i := 10) rfl))) dX3_execute_290 ?_
        refine lv_iconst (v := 1) hx hb dX3_execute_293 (by decide) ?_
        refine lv_isub hx hb dX3_execute_294 ?_
        obtain ⟨q1, h⟩ := kr_ite1 h
        refine hl_20 hx hb hK hP q1 dX3_execute_295 ?_
        refine lv_aload_n hx hb dX3_execute_296 rfl (lv_at hl 0 rfl) ?_
        refine hg_18_7 hx hb hts in_f_X3_execute_X3 hown hK hP (hts _ (List.mem_cons_of_mem _ (List.mem_append_left _ (List.mem_append_left _ (List.mem_of_getElem? (i := 41) rfl))))) dX3_execute_297 ?_
        refine lv_aload_n hx hb dX3_execute_300 rfl (lv_at hl 0 rfl) ?_
        refine hg_18_5 hx hb hts in_f_X3_execute_X3 hown hK hP (hts _ (List.mem_cons_of_mem _ (List.mem_append_left _ (List.mem_append_left _ (List.mem_of_getElem? (i := 15) rfl))))) dX3_execute_301 ?_
        refine hg_19_2n hx hb hts in_f_X3_execute_X8 hown hK hP (va_Nw.use rfl (hG.1 _ (List.mem_of_getElem? (i := 10) rfl))) dX3_execute_304 ?_
        obtain ⟨q2, h⟩ := kr_ite1 h
        refine hl_20 hx hb hK hP q2 dX3_execute_307 ?_
        obtain ⟨r3, hc3, h⟩ := op_ex h
        refine kc_i (va_runV (As := [.int (L.1 5), .int ((uI σ 1902 ((((σ.1 1902)) - 1))).2.2.1 20 (((((uI σ 1902 ((((σ.1 1902)) - 1))).1 1902)) - 1)).toNatClampNeg), .int ((uI σ 1902 ((((σ.1 1902)) - 1))).2.2.1 20 (((uI σ 1902 ((((σ.1 1902)) - 1))).1 1902)).toNatClampNeg)]) (rest := [.ref (a 18)]) ⟨hx, hb, hml, hown, hts⟩ (c_y_X0_binary l dC dI cy a z k (lI (lI (lI lZ 1 ((L.1 5))) 2 (((uI σ 1902 ((((σ.1 1902)) - 1))).2.2.1 20 (((((uI σ 1902 ((((σ.1 1902)) - 1))).1 1902)) - 1)).toNatClampNeg))) 3 (((uI σ 1902 ((((σ.1 1902)) - 1))).2.2.1 20 (((uI σ 1902 ((((σ.1 1902)) - 1))).1 1902)).toNatClampNeg))) (uI σ 1902 ((((σ.1 1902)) - 1))) r3 hc3 H.size) (cwV 3 hts g_y_X3_execute_X0_binary_V274 rfl rfl rfl hd_y_X0_binary ⟨Nat.le_of_ble_eq_true rfl, Nat.le_of_ble_eq_true rfl⟩) ⟨nb_blind, va_recv hK hP (ci := 0) (q0 := 14) rfl rfl, (kb_pre hK hG hP hD)⟩ rfl rfl hl.1 rfl (lv_room (Nat.le_of_ble_eq_true rfl)) dX3_execute_308 ⟨(Nat.le_trans (Nat.le_add_right _ _) (Nat.le_of_eq hc)), (Nat.le_trans (Nat.le_add_right _ _) (Nat.le_of_eq hs))⟩) hA hP hD hS (fun H locs hP hD hS => ?_)
        obtain ⟨r4, hc4, h⟩ := op_ex h
        refine kc_v (va_runV (As := [.int r3.1]) (rest := []) ⟨hx, hb, hml, hown, hts⟩ (c_y_X3_replace l dC dI cy a z k (lI lZ 1 r3.1) r3.2 r4 hc4 H.size) (cwV 1 hts g_y_X3_execute_X3_replace_V280 rfl rfl rfl hd_y_X3_replace ⟨Nat.le_of_ble_eq_true rfl, Nat.le_of_ble_eq_true rfl⟩) ⟨nb_blind, va_recv hK hP (ci := 3) (q0 := 18) rfl rfl, (kb_pre hK hG hP hD)⟩ rfl rfl hl.1 rfl (lv_room (Nat.le_of_ble_eq_true rfl)) dX3_execute_311 ⟨(Nat.le_trans (Nat.le_add_right _ _) (Nat.le_of_eq hc)), (Nat.le_trans (Nat.le_add_right _ _) (Nat.le_of_eq hs))⟩) hA hP hD hS (fun H locs hP hD hS => ?_)
        refine lv_goto (tgt := 438) hx hb dX3_execute_314 (by decide) ?_
        exact ih.2.2.2.2.2.2.2.2.2.2.2.2.2.2.2.2.2.2.2.1 z _ _ L r4.2 _ h hzk hc hs H locs ls hP hD hS (lv_sub hl [0, 1, 2] rfl)
      · intro z cells slots L σ r h hzk hc hs H locs ls hP hD hS hl
        rw [f_X3_execute] at h
        refine lv_aload_n hx hb dX3_execute_432 rfl (lv_at hl 0 rfl) ?_
        refine lv_iload hx hb dX3_execute_433 (lv_at hl 3 rfl) ?_
        obtain ⟨r1, hc1, hle1, h9⟩ := ox_ex h
        clear h
        refine kx_v (vx_runV (As := [.int (L.1 6)]) (rest := []) ⟨hx, hb, hml, hown, hts⟩ (c_f_X3_print l hl0 dC dI cy ek a k (lI lZ 1 ((L.1 6))) σ r1 hc1 z H.size) (cwV 1 hts g_f_X3_execute_X3_print_V297 rfl rfl rfl hd_f_X3_print ⟨Nat.le_of_ble_eq_true rfl, Nat.le_of_ble_eq_true rfl⟩) ⟨nb_blindF, va_recv hK hP (ci := 3) (q0 := 18) rfl rfl, (kx_pre hK hG hE hT hA hP hD hS)⟩ rfl rfl hl.1 rfl (lv_room (Nat.le_of_ble_eq_true rfl)) dX3_execute_435 ⟨Nat.le_trans (Nat.add_le_add_left hle1.1 _) (Nat.le_of_eq hc), Nat.le_trans (Nat.add_le_add_left hle1.2 _) (Nat.le_of_eq hs)⟩) hK hA hzk hP hD hS (by decide) hno hlocks ?_
        rcases h9 with ⟨h00, y1, hny1, hy⟩ | ⟨h00, hy⟩
        · subst hy
          have h := hny1
          refine Or.inl ⟨h00, fun z H locs hz1 hzk hP hD hS => ?_⟩
          try dsimp only at hl
          rw [← hz1 ((pR0 (L.2.2.1 1))) (by unfold pR0; cases (L.2.2.1 1) <;> decide)] at hl
          replace hc := (Nat.add_assoc _ _ _).trans hc
          replace hs := (Nat.add_assoc _ _ _).trans hs
          exact ih.2.2.2.2.2.2.2.2.2.2.2.2.2.2.2.2.2.2.2.1 z _ _ L r1.2.1 _ h hzk hc hs H locs ls hP hD hS (lv_sub hl [0, 1, 2] rfl)
        · subst hy
          exact Or.inr ⟨h00, rfl, hc, hs⟩
      · intro z cells slots L σ r h hzk hc hs H locs ls hP hD hS hl
        rw [f_X3_execute] at h
        refine lv_aload_n hx hb dX3_execute_317 rfl (lv_at hl 0 rfl) ?_
        refine lv_aload_n hx hb dX3_execute_318 rfl (lv_at hl 0 rfl) ?_
        refine hg_18_2 hx hb hts in_f_X3_execute_X3 hown hK hP (hts _ (List.mem_cons_of_mem _ (List.mem_append_left _ (List.mem_append_left _ (List.mem_of_getElem? (i := 40) rfl))))) dX3_execute_319 ?_
        refine lv_iload hx hb dX3_execute_322 (lv_at hl 3 rfl) ?_
        refine lv_aload_n hx hb dX3_execute_324 rfl (lv_at hl 0 rfl) ?_
        refine hg_18_7 hx hb hts in_f_X3_execute_X3 hown hK hP (hts _ (List.mem_cons_of_mem _ (List.mem_append_left _ (List.mem_append_left _ (List.mem_of_getElem? (i := 41) rfl))))) dX3_execute_325 ?_
        refine lv_aload_n hx hb dX3_execute_328 rfl (lv_at hl 0 rfl) ?_
        refine hg_18_5 hx hb hts in_f_X3_execute_X3 hown hK hP (hts _ (List.mem_cons_of_mem _ (List.mem_append_left _ (List.mem_append_left _ (List.mem_of_getElem? (i := 15) rfl))))) dX3_execute_329 ?_
        refine hg_19_2n hx hb hts in_f_X3_execute_X8 hown hK hP (va_Nw.use rfl (hG.1 _ (List.mem_of_getElem? (i := 10) rfl))) dX3_execute_332 ?_
        refine lv_iconst (v := 1) hx hb dX3_execute_335 (by decide) ?_
        refine lv_isub hx hb dX3_execute_336 ?_
        obtain ⟨q1, h⟩ := kr_ite1 h
        refine hl_20 hx hb hK hP q1 dX3_execute_337 ?_
        obtain ⟨r2, hc2, hle2, h9⟩ := ox_ex h
        clear h
        refine kx_i (vx_runV (As := [.int (L.1 5), .int (σ.2.2.1 20 ((((σ.1 1902)) - 1)).toNatClampNeg)]) (rest := [.ref (a 18)]) ⟨hx, hb, hml, hown, hts⟩ (c_f_X0_unary l hl0 dC dI cy ek a k (lI (lI lZ 1 ((L.1 5))) 2 ((σ.2.2.1 20 ((((σ.1 1902)) - 1)).toNatClampNeg))) σ r2 hc2 z H.size) (cwV 2 hts g_f_X3_execute_X0_unary_V284 rfl rfl rfl hd_f_X0_unary ⟨Nat.le_of_ble_eq_true rfl, Nat.le_of_ble_eq_true rfl⟩) ⟨nb_blindF, va_recv hK hP (ci := 0) (q0 := 14) rfl rfl, (kx_pre hK hG hE hT hA hP hD hS)⟩ rfl rfl hl.1 rfl (lv_room (Nat.le_of_ble_eq_true rfl)) dX3_execute_338 ⟨Nat.le_trans (Nat.add_le_add_left hle2.1 _) (Nat.le_of_eq hc), Nat.le_trans (Nat.add_le_add_left hle2.2 _) (Nat.le_of_eq hs)⟩) hK hA hzk hP hD hS (by decide) hno hlocks ?_
        rcases h9 with ⟨h00, y2, hny2, hy⟩ | ⟨h00, hy⟩
        · subst hy
          have h := hny2
          refine Or.inl ⟨h00, fun u H locs hz2 hzk hP hD hS => ?_⟩
          obtain rfl := (zk_nil hz2).symm
          replace hc := (Nat.add_assoc _ _ _).trans hc
          replace hs := (Nat.add_assoc _ _ _).trans hs
          obtain ⟨r3, hc3, h⟩ := op_ex h
          refine kc_v (va_runV (As := [.int r2.1.2]) (rest := []) ⟨hx, hb, hml, hown, hts⟩ (c_y_X3_replace l dC dI cy a z k (lI lZ 1 r2.1.2) r2.2.1 r3 hc3 H.size) (cwV 1 hts g_y_X3_execute_X3_replace_V280 rfl rfl rfl hd_y_X3_replace ⟨Nat.le_of_ble_eq_true rfl, Nat.le_of_ble_eq_true rfl⟩) ⟨nb_blind, va_recv hK hP (ci := 3) (q0 := 18) rfl rfl, (kb_pre hK hG hP hD)⟩ rfl rfl hl.1 rfl (lv_room (Nat.le_of_ble_eq_true rfl)) dX3_execute_341 ⟨(Nat.le_trans (Nat.le_add_right _ _) (Nat.le_of_eq hc)), (Nat.le_trans (Nat.le_add_right _ _) (Nat.le_of_eq hs))⟩) hA hP hD hS (fun H locs hP hD hS => ?_)
          refine lv_goto (tgt := 438) hx hb dX3_execute_344 (by decide) ?_
          exact ih.2.2.2.2.2.2.2.2.2.2.2.2.2.2.2.2.2.2.2.1 z _ _ L r3.2 _ h hzk hc hs H locs ls hP hD hS (lv_sub hl [0, 1, 2] rfl)
        · subst hy
          exact Or.inr ⟨h00, rfl, hc, hs⟩
      · intro z cells slots L σ r h hzk hc hs H locs ls hP hD hS hl
        rw [f_X3_execute] at h
        refine lv_aload_n hx hb dX3_execute_347 rfl (lv_at hl 0 rfl) ?_
        refine lv_iload hx hb dX3_execute_348 (lv_at hl 4 rfl) ?_
        refine lv_sipush (v := 176) hx hb dX3_execute_350 (by decide) ?_
        refine lv_icmp_ne (tgt := 371) hx hb dX3_execute_353 (by decide) (fun c1 => ?_) (fun c1 => ?_)
        · rw [if_neg c1] at h
          exact ih.2.2.2.2.2.2.2.2.2.2.2.2.2.2.2.2.2.2.2.2.1 z _ _ L σ _ h hzk hc hs H locs ls hP hD hS (lv_sub hl [0, 1, 2, 3, 5] rfl)
        · rw [if_pos c1] at h
          refine lv_aload_n hx hb dX3_execute_356 rfl (lv_at hl 0 rfl) ?_
          refine hg_18_5 hx hb hts in_f_X3_execute_X3 hown hK hP (hts _ (List.mem_cons_of_mem _ (List.mem_append_left _ (List.mem_append_left _ (List.mem_of_getElem? (i := 15) rfl))))) dX3_execute_357 ?_
          refine hg_19_1n hx hb hts in_f_X3_execute_X8 hown hK hP (va_Nw.use rfl (hG.1 _ (List.mem_of_getElem? (i := 9) rfl))) dX3_execute_360 ?_
          refine lv_iconst (v := 4) hx hb dX3_execute_363 (by decide) ?_
          refine lv_iadd hx hb dX3_execute_364 ?_
          refine lv_iload hx hb dX3_execute_365 (lv_at hl 5 rfl) ?_
          refine lv_iadd hx hb dX3_execute_367 ?_
          refine lv_goto (tgt := 375) hx hb dX3_execute_368 (by decide) ?_
          exact ih.2.2.2.2.2.2.2.2.2.2.2.2.2.2.2.2.2.2.2.2.2.1 z _ _ (lI L 100 ((((((σ.1 1901)) + 4)) + ((L.1 6))))) σ _ h hzk hc hs H locs ls hP hD hS (lv_sub hl [0, 1, 2, 3] rfl)
      · intro z cells slots L σ r h hzk hc hs H locs ls hP hD hS hl
        rw [f_X3_execute] at h
        refine lv_aload_n hx hb dX3_execute_383 rfl (lv_at hl 0 rfl) ?_
        refine lv_iload hx hb dX3_execute_384 (lv_at hl 4 rfl) ?_
        refine lv_sipush (v := 192) hx hb dX3_execute_386 (by decide) ?_
        refine lv_icmp_ne (tgt := 407) hx hb dX3_execute_389 (by decide) (fun c1 => ?_) (fun c1 => ?_)
        · rw [if_neg c1] at h
          exact ih.2.2.2.2.2.2.2.2.2.2.2.2.2.2.2.2.2.2.2.2.2.2.1 z _ _ L σ _ h hzk hc hs H locs ls hP hD hS (lv_sub hl [0, 1, 2, 3, 4, 5] rfl)
        · rw [if_pos c1] at h
          refine lv_aload_n hx hb dX3_execute_392 rfl (lv_at hl 0 rfl) ?_
          refine hg_18_5 hx hb hts in_f_X3_execute_X3 hown hK hP (hts _ (List.mem_cons_of_mem _ (List.mem_append_left _ (List.mem_append_left _ (List.mem_of_getElem? (i := 15) rfl))))) dX3_execute_393 ?_
          refine hg_19_1n hx hb hts in_f_X3_execute_X8 hown hK hP (va_Nw.use rfl (hG.1 _ (List.mem_of_getElem? (i := 9) rfl))) dX3_execute_396 ?_
          refine lv_iconst (v := 4) hx hb dX3_execute_399 (by decide) ?_
          refine lv_iadd hx hb dX3_execute_400 ?_
          refine lv_iload hx hb dX3_execute_401 (lv_at hl 5 rfl) ?_
          refine lv_iadd hx hb dX3_execute_403 ?_
          refine lv_goto (tgt := 411) hx hb dX3_execute_404 (by decide) ?_
          exact ih.2.2.2.2.2.2.2.2.2.2.2.2.2.2.2.2.2.2.2.2.2.2.2.1 z _ _ (lI L 100 ((((((σ.1 1901)) + 4)) + ((L.1 6))))) σ _ h hzk hc hs H locs ls hP hD hS (lv_sub hl [0, 1, 2, 3, 4] rfl)
      · intro z cells slots L σ r h hzk hc hs H locs ls hP hD hS hl
        rw [f_X3_execute] at h
        refine lv_lload_n hx hb dX3_execute_438 rfl (lv_at hl 2 rfl) ?_
        refine lv_lconst (v := 1) hx hb dX3_execute_439 (by decide) ?_
        refine lv_ladd hx hb dX3_execute_440 ?_
        refine lv_lstore_n (lv' := [(2, .long (((L.2.1 2)) + 1)), (0, .ref (a 18)), (1, .ref (z (pR0 (L.2.2.1 1))))]) hx hb dX3_execute_441 rfl hl (by decide) rfl (fun ls hl => ?_)
        refine lv_goto (tgt := 14) hx hb dX3_execute_442 (by decide) ?_
        exact ih.2.1 z _ _ (lJ L 2 ((((L.2.1 2)) + 1))) σ _ h hzk hc hs H locs ls hP hD hS (lv_sub hl [1, 2, 0] rfl)
      · intro z cells slots L σ r h hzk hc hs H locs ls hP hD hS hl
        rw [f_X3_execute] at h
        refine lv_iconst (v := 4) hx hb dX3_execute_371 (by decide) ?_
        refine lv_iload hx hb dX3_execute_372 (lv_at hl 4 rfl) ?_
        refine lv_iadd hx hb dX3_execute_374 ?_
        exact ih.2.2.2.2.2.2.2.2.2.2.2.2.2.2.2.2.2.2.2.2.2.1 z _ _ (lI L 100 ((4 + ((L.1 6))))) σ _ h hzk hc hs H locs ls hP hD hS (lv_sub hl [0, 1, 2, 3] rfl)
      · intro z cells slots L σ r h hzk hc hs H locs ls hP hD hS hl
        rw [f_X3_execute] at h
        refine lv_iload hx hb dX3_execute_375 (lv_at hl 3 rfl) ?_
        obtain ⟨r1, hc1, hle1, h9⟩ := ox_ex h
        clear h
        refine kx_v (vx_runV (As := [.int (L.1 100), .int (L.1 4)]) (rest := []) ⟨hx, hb, hml, hown, hts⟩ (c_f_X3_read l hl0 dC dI cy ek a k (lI (lI lZ 1 ((L.1 100))) 2 ((L.1 4))) σ r1 hc1 z H.size) (cwV 2 hts g_f_X3_execute_X3_read_V290 rfl rfl rfl hd_f_X3_read ⟨Nat.le_of_ble_eq_true rfl, Nat.le_of_ble_eq_true rfl⟩) ⟨nb_blindF, va_recv hK hP (ci := 3) (q0 := 18) rfl rfl, (kx_pre hK hG hE hT hA hP hD hS)⟩ rfl rfl hl.1 rfl (lv_room (Nat.le_of_ble_eq_true rfl)) dX3_execute_377 ⟨Nat.le_trans (Nat.add_le_add_left hle1.1 _) (Nat.le_of_eq hc), Nat.le_trans (Nat.add_le_add_left hle1.2 _) (Nat.le_of_eq hs)⟩) hK hA hzk hP hD hS (by decide) hno hlocks ?_
        rcases h9 with ⟨h00, y1, hny1, hy⟩ | ⟨h00, hy⟩
        · subst hy
          have h := hny1
          refine Or.inl ⟨h00, fun z H locs hz1 hzk hP hD hS => ?_⟩
          try dsimp only at hl
          rw [← hz1 ((pR0 (L.2.2.1 1))) (by unfold pR0; cases (L.2.2.1 1) <;> decide)] at hl
          replace hc := (Nat.add_assoc _ _ _).trans hc
          replace hs := (Nat.add_assoc _ _ _).trans hs
          refine lv_goto (tgt := 438) hx hb dX3_execute_380 (by decide) ?_
          exact ih.2.2.2.2.2.2.2.2.2.2.2.2.2.2.2.2.2.2.2.1 z _ _ L r1.2.1 _ h hzk hc hs H locs ls hP hD hS (lv_sub hl [0, 1, 2] rfl)
        · subst hy
          exact Or.inr ⟨h00, rfl, hc, hs⟩
      · intro z cells slots L σ r h hzk hc hs H locs ls hP hD hS hl
        rw [f_X3_execute] at h
        refine lv_iconst (v := 4) hx hb dX3_execute_407 (by decide) ?_
        refine lv_iload hx hb dX3_execute_408 (lv_at hl 5 rfl) ?_
        refine lv_iadd hx hb dX3_execute_410 ?_
        exact ih.2.2.2.2.2.2.2.2.2.2.2.2.2.2.2.2.2.2.2.2.2.2.2.1 z _ _ (lI L 100 ((4 + ((L.1 6))))) σ _ h hzk hc hs H locs ls hP hD hS (lv_sub hl [0, 1, 2, 3, 4] rfl)
      · intro z cells slots L σ r h hzk hc hs H locs ls hP hD hS hl
        rw [f_X3_execute] at h
        refine lv_iload hx hb dX3_execute_411 (lv_at hl 3 rfl) ?_
        refine lv_iload hx hb dX3_execute_413 (lv_at hl 4 rfl) ?_
        refine lv_sipush (v := 192) hx hb dX3_execute_415 (by decide) ?_
        refine lv_icmp_ne (tgt := 425) hx hb dX3_execute_418 (by decide) (fun c1 => ?_) (fun c1 => ?_)
        · rw [if_neg c1] at h
          exact ih.2.2.2.2.2.2.2.2.2.2.2.2.2.2.2.2.2.2.2.2.2.2.2.2.1 z _ _ (lI (lI L 100 ((L.1 4))) 101 ((L.1 100))) σ _ h hzk hc hs H locs ls hP hD hS (lv_sub hl [0, 1, 2] rfl)
        · rw [if_pos c1] at h
          refine lv_iconst (v := 1) hx hb dX3_execute_421 (by decide) ?_
          refine lv_goto (tgt := 426) hx hb dX3_execute_422 (by decide) ?_
          exact ih.2.2.2.2.2.2.2.2.2.2.2.2.2.2.2.2.2.2.2.2.2.2.2.2.2 z _ _ (lI (lI (lI L 100 1) 101 ((L.1 4))) 102 ((L.1 100))) σ _ h hzk hc hs H locs ls hP hD hS (lv_sub hl [0, 1, 2] rfl)
      · intro z cells slots L σ r h hzk hc hs H locs ls hP hD hS hl
        rw [f_X3_execute] at h
        refine lv_iconst (v := 0) hx hb dX3_execute_425 (by decide) ?_
        exact ih.2.2.2.2.2.2.2.2.2.2.2.2.2.2.2.2.2.2.2.2.2.2.2.2.2 z _ _ (lI (lI (lI L 100 0) 101 ((L.1 100))) 102 ((L.1 101))) σ _ h hzk hc hs H locs ls hP hD hS (lv_sub hl [0, 1, 2] rfl)
      · intro z cells slots L σ r h hzk hc hs H locs ls hP hD hS hl
        rw [f_X3_execute] at h
        obtain ⟨r1, hc1, hle1, h9⟩ := ox_ex h
        clear h
        refine kx_v (vx_runV (As := [.int (L.1 102), .int (L.1 101), .int (L.1 100)]) (rest := []) ⟨hx, hb, hml, hown, hts⟩ (c_f_X3_write l hl0 dC dI cy ek a k (lI (lI (lI lZ 1 ((L.1 102))) 2 ((L.1 101))) 3 ((L.1 100))) σ r1 hc1 z H.size) (cwV 3 hts g_f_X3_execute_X3_write_V293 rfl rfl rfl hd_f_X3_write ⟨Nat.le_of_ble_eq_true rfl, Nat.le_of_ble_eq_true rfl⟩) ⟨nb_blindF, va_recv hK hP (ci := 3) (q0 := 18) rfl rfl, (kx_pre hK hG hE hT hA hP hD hS)⟩ rfl rfl hl.1 rfl (lv_room (Nat.le_of_ble_eq_true rfl)) dX3_execute_426 ⟨Nat.le_trans (Nat.add_le_add_left hle1.1 _) (Nat.le_of_eq hc), Nat.le_trans (Nat.add_le_add_left hle1.2 _) (Nat.le_of_eq hs)⟩) hK hA hzk hP hD hS (by decide) hno hlocks ?_
        rcases h9 with ⟨h00, y1, hny1, hy⟩ | ⟨h00, hy⟩
        · subst hy
          have h := hny1
          refine Or.inl ⟨h00, fun z H locs hz1 hzk hP hD hS => ?_⟩
          try dsimp only at hl
          rw [← hz1 ((pR0 (L.2.2.1 1))) (by unfold pR0; cases (L.2.2.1 1) <;> decide)] at hl
          replace hc := (Nat.add_assoc _ _ _).trans hc
          replace hs := (Nat.add_assoc _ _ _).trans hs
          refine lv_goto (tgt := 438) hx hb dX3_execute_429 (by decide) ?_
          exact ih.2.2.2.2.2.2.2.2.2.2.2.2.2.2.2.2.2.2.2.1 z _ _ L r1.2.1 _ h hzk hc hs H locs ls hP hD hS (lv_sub hl [0, 1, 2] rfl)
        · subst hy
          exact Or.inr ⟨h00, rfl, hc, hs⟩
  exact (blk k0).1 z 0 0 L0 σ0 r0 h0 (zk_rf _ _) ((Nat.zero_add _).trans hmc) ((Nat.zero_add _).trans hms) s.heap [] ls hP hD hS hl

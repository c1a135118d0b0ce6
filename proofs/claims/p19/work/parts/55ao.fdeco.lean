/-! X5_closes -/
def f_X5_closes : Nat → Nat → LV → CS → Option RS
  | 0, _, _, _ => none
  | k + 1, 0, L, σ => if ((σ.1 3702)) = ((L.1 1)) then (f_X5_closes k 1 L σ) else (ox (f_X5_refuse k 0 (lI (lI lZ 1 2) 2 ((σ.1 3703))) σ) (fun r2 => f_X5_closes k 1 L r2.2.1))
  | k + 1, 1, L, σ => ox (f_X2_advance k 0 lZ (uI σ 4005 ((((σ.1 4005)) - 1)))) (fun r1 => some ((0, 0), r1.2.1, (0, 0)))
  | _ + 1, _ + 2, _, _ => none
def o_f_X5_closes : List Cond := [.fieldLink RX5 18 "SetHouse$Parser" "lex" "LSetHouse$Lexer;", .methodLink RX5 125 yX5_refuse, .instanceMethod yX5_refuse, .selects RX5 yX5_refuse yX5_refuse, .initialized RX5, .fieldLink RX5 103 "SetHouse$Parser" "open" "I", .methodLink RX5 30 yX2_advance, .instanceMethod yX2_advance, .selects RX2 yX2_advance yX2_advance, .initialized RX2]
theorem o_f_X5_closes_good : o_f_X5_closes.all goodWord = true := by decide +kernel
def p_f_X5_closes : List Cond := o_f_X5_closes ++ ((.code yX5_refuse cX5_refuse 3 none :: p_f_X5_refuse) ++ ((.code yX2_advance cX2_advance 7 none :: p_f_X2_advance) ++ []))
theorem p_f_X5_closes_good : p_f_X5_closes.all goodWord = true := nb_all2 o_f_X5_closes_good (nb_all2 (nb_allc (by decide +kernel) p_f_X5_refuse_good) (nb_all2 (nb_allc (by decide +kernel) p_f_X2_advance_good) rfl))
def w_f_X5_closes : List Cond := .code yX5_closes cX5_closes 2 none :: (p_f_X5_closes ++ fC)
theorem w_f_X5_closes_good : w_f_X5_closes.all goodWord = true := nb_allc (by decide +kernel) (nb_all2 p_f_X5_closes_good fC_good)
theorem in_f_X5_closes_X2 : ∀ w ∈ wsX20, w ∈ w_f_X5_closes := fun _ h => List.mem_cons_of_mem _ (List.mem_append_right _ (List.mem_append_right _ (List.mem_append_right _ (List.mem_append_left _ h))))
theorem in_f_X5_closes_X5 : ∀ w ∈ wsX50, w ∈ w_f_X5_closes := fun _ h => List.mem_cons_of_mem _ (List.mem_append_right _ (List.mem_append_right _ (List.mem_append_right _ (List.mem_append_right _ (List.mem_append_right _ (List.mem_append_left _ h))))))
theorem hd_f_X5_closes : yX5_closes.cls = RX5 ∧ yX5_closes.cls ≠ "java/lang/invoke/MethodHandle" ∧ yX5_closes.cls ≠ "java/lang/invoke/VarHandle" ∧ (parseMethodDescriptor yX5_closes.desc).map (fun d => d.parameters.length) = some 1 := by decide +kernel
theorem gg_f_X5_closes_X2_advance : GoodIn w_f_X5_closes w_f_X2_advance := goodIn_sub (fun w h => (List.mem_cons.mp h).elim (fun e => (List.mem_cons_of_mem _ (List.mem_append_left _ (List.mem_append_right _ (List.mem_append_right _ (List.mem_append_left _ (List.mem_cons.mpr (Or.inl e)))))))) (fun h => (List.mem_append.mp h).elim (fun h => (List.mem_cons_of_mem _ (List.mem_append_left _ (List.mem_append_right _ (List.mem_append_right _ (List.mem_append_left _ (List.mem_cons_of_mem _ h))))))) (fun h => List.mem_cons_of_mem _ (List.mem_append_right _ h)))) w_f_X2_advance_good
theorem g_f_X5_closes_X2_advance_V30 : GoodIn w_f_X5_closes (wsV RX5 30 RX2 yX2_advance w_f_X2_advance) := goodIn_app (nb_g4 (List.mem_cons_of_mem _ (List.mem_append_left _ (List.mem_append_left _ (List.mem_of_getElem? (i := 6) rfl)))) (List.mem_cons_of_mem _ (List.mem_append_left _ (List.mem_append_left _ (List.mem_of_getElem? (i := 7) rfl)))) (List.mem_cons_of_mem _ (List.mem_append_left _ (List.mem_append_left _ (List.mem_of_getElem? (i := 8) rfl)))) (List.mem_cons_of_mem _ (List.mem_append_left _ (List.mem_append_left _ (List.mem_of_getElem? (i := 9) rfl)))) (by decide +kernel)) gg_f_X5_closes_X2_advance
theorem gg_f_X5_closes_X5_refuse : GoodIn w_f_X5_closes w_f_X5_refuse := goodIn_sub (fun w h => (List.mem_cons.mp h).elim (fun e => (List.mem_cons_of_mem _ (List.mem_append_left _ (List.mem_append_right _ (List.mem_append_left _ (List.mem_cons.mpr (Or.inl e))))))) (fun h => (List.mem_append.mp h).elim (fun h => (List.mem_cons_of_mem _ (List.mem_append_left _ (List.mem_append_right _ (List.mem_append_left _ (List.mem_cons_of_mem _ h)))))) (fun h => List.mem_cons_of_mem _ (List.mem_append_right _ h)))) w_f_X5_refuse_good
theorem g_f_X5_closes_X5_refuse_V125 : GoodIn w_f_X5_closes (wsV RX5 125 RX5 yX5_refuse w_f_X5_refuse) := goodIn_app (nb_g4 (List.mem_cons_of_mem _ (List.mem_append_left _ (List.mem_append_left _ (List.mem_of_getElem? (i := 1) rfl)))) (List.mem_cons_of_mem _ (List.mem_append_left _ (List.mem_append_left _ (List.mem_of_getElem? (i := 2) rfl)))) (List.mem_cons_of_mem _ (List.mem_append_left _ (List.mem_append_left _ (List.mem_of_getElem? (i := 3) rfl)))) (List.mem_cons_of_mem _ (List.mem_append_left _ (List.mem_append_left _ (List.mem_of_getElem? (i := 4) rfl)))) (by decide +kernel)) gg_f_X5_closes_X5_refuse
set_option maxHeartbeats 40000000 in
set_option maxRecDepth 100000 in
theorem c_f_X5_closes (l : Launch) (hl0 : l.stackTraces = false) (dC : Nat → ClassId) (dI : Nat → Nat → Nat) (cy : Nat → ClassId) (ek a : Nat → Nat) (k0 : Nat) (L0 : LV) (σ0 : CS) (r0 : RS) (h0 : f_X5_closes k0 0 L0 σ0 = some r0) (z : Nat → Nat) (sz : Nat) : vx_Met l yX5_closes w_f_X5_closes ({ frames := 7, cells := r0.2.2.1, slots := r0.2.2.2, locals := 126 }) (va_Pc [.ref (a 40), .int (L0.1 1)] (nInF (dC, dI) cy ek sz (vC cy a z σ0))) (xV dC dI cy a (va_A (vC cy a z σ0) sz) [] z r0) (xX dC dI cy a (va_A (vC cy a z σ0) sz) [] z r0) r0.2.2.1 r0.2.2.2 (va_A (vC cy a z σ0) sz) := by
  refine vx_ofW (cc := cX5_closes) (maxL := 2) (ret := none) (by decide) rfl ?_
  intro p e s m args below meth c s₁ B hml hno hv
  obtain ⟨rfl, ⟨⟨hsz, hP, hK, hD0, hG⟩, hE⟩, hT⟩ := hv
  have hx := B.exec
  have hb := B.bytes
  have hr := B.returns
  have hts := atoms_spec (ws := w_f_X5_closes) B.pre
  have hown : s.vm.findClass RX5 = some m.cls := findClass_of_methodNamed B.named
  have hlocks := B.notSynchronized
  subst hsz
  have hD := hD0.self (sz := s.heap.size)
  generalize hAe : va_A (vC cy a z σ0) s.heap.size = A at hD hE hT ⊢
  have hA : ∀ q : Nat, s.heap.size ≤ q → A q := fun q h => by rw [← hAe]; exact Or.inr h
  have hS : va_S A s.heap s.heap [] := va_S.rf
  have hl := lv_entry ([.ref (a 40), .int (L0.1 1)]) (n := 2) (Nat.le_of_ble_eq_true rfl)
  rw [lg_entry_eq]
  generalize (lg_sl ([.ref (a 40), .int (L0.1 1)]) ++ List.replicate (2 - (lg_sl ([.ref (a 40), .int (L0.1 1)])).length) Slot.unset).toArray = ls at hl ⊢
  have hl : lv_has ls 2 [(0, .ref (a 40)), (1, .int (L0.1 1))] := hl
  generalize hmc : r0.2.2.1 = mc
  generalize hms : r0.2.2.2 = ms
  have blk : ∀ k : Nat, (bX p l e (headSpec w_f_X5_closes ({ frames := 7, cells := mc, slots := ms, locals := 126 })).room s m #[.ref (a 40), .int (L0.1 1)] below meth c dC dI cy a A (fun r => vx_MQ below (xV dC dI cy a A [] z r) (xX dC dI cy a A [] z r) #[.ref (a 40), .int (L0.1 1)] s mc ms A) [] z mc ms 2 (f_X5_closes k 0) (fun z L => [(0, .ref (a 40)), (1, .int (L.1 1))]) 0 (fun z L => [])) ∧ (bX p l e (headSpec w_f_X5_closes ({ frames := 7, cells := mc, slots := ms, locals := 126 })).room s m #[.ref (a 40), .int (L0.1 1)] below meth c dC dI cy a A (fun r => vx_MQ below (xV dC dI cy a A [] z r) (xX dC dI cy a A [] z r) #[.ref (a 40), .int (L0.1 1)] s mc ms A) [] z mc ms 2 (f_X5_closes k 1) (fun z L => [(0, .ref (a 40))]) 23 (fun z L => [])) := by
    intro k
    induction k with
    | zero => exact ⟨fun z c1 c2 L σ r h => (by cases h), fun z c1 c2 L σ r h => (by cases h)⟩
    | succ k ih =>
      refine ⟨?_, ?_⟩
      · intro z cells slots L σ r h hzk hc hs H locs ls hP hD hS hl
        rw [f_X5_closes] at h
        refine lv_aload_n hx hb dX5_closes_0 rfl (lv_at hl 0 rfl) ?_
        refine hg_40_0 hx hb hts in_f_X5_closes_X5 hown hK hP (hts _ (List.mem_cons_of_mem _ (List.mem_append_left _ (List.mem_append_left _ (List.mem_of_getElem? (i := 0) rfl))))) dX5_closes_1 ?_
        refine hg_37_2n hx hb hts in_f_X5_closes_X2 hown hK hP (va_Nw.use rfl (hG.1 _ (List.mem_of_getElem? (i := 52) rfl))) dX5_closes_4 ?_
        refine lv_iload_n hx hb dX5_closes_7 rfl (lv_at hl 1 rfl) ?_
        refine lv_icmp_eq (tgt := 23) hx hb dX5_closes_8 (by decide) (fun c1 => ?_) (fun c1 => ?_)
        · rw [if_pos c1] at h
          exact ih.2 z _ _ L σ _ h hzk hc hs H locs ls hP hD hS (lv_sub hl [0] rfl)
        · rw [if_neg c1] at h
          refine lv_aload_n hx hb dX5_closes_11 rfl (lv_at hl 0 rfl) ?_
          refine lv_iconst (v := 2) hx hb dX5_closes_12 (by decide) ?_
          refine lv_aload_n hx hb dX5_closes_13 rfl (lv_at hl 0 rfl) ?_
          refine hg_40_0 hx hb hts in_f_X5_closes_X5 hown hK hP (hts _ (List.mem_cons_of_mem _ (List.mem_append_left _ (List.mem_append_left _ (List.mem_of_getElem? (i := 0) rfl))))) dX5_closes_14 ?_
          refine hg_37_3n hx hb hts in_f_X5_closes_X2 hown hK hP (va_Nw.use rfl (hG.1 _ (List.mem_of_getElem? (i := 54) rfl))) dX5_closes_17 ?_
          obtain ⟨r2, hc2, hle2, h9⟩ := ox_ex h
          clear h
          refine kx_v (vx_runV (As := [.int 2, .int (σ.1 3703)]) (rest := []) ⟨hx, hb, hml, hown, hts⟩ (c_f_X5_refuse l hl0 dC dI cy ek a k (lI (lI lZ 1 2) 2 ((σ.1 3703))) σ r2 hc2 z H.size) (cwV 2 hts g_f_X5_closes_X5_refuse_V125 rfl rfl rfl hd_f_X5_refuse ⟨Nat.le_of_ble_eq_true rfl, Nat.le_of_ble_eq_true rfl⟩) ⟨nb_blindF, va_recv hK hP (ci := 4) (q0 := 40) rfl rfl, (kx_pre hK hG hE hT hA hP hD hS)⟩ rfl rfl hl.1 rfl (lv_room (Nat.le_of_ble_eq_true rfl)) dX5_closes_20 ⟨Nat.le_trans (Nat.add_le_add_left hle2.1 _) (Nat.le_of_eq hc), Nat.le_trans (Nat.add_le_add_left hle2.2 _) (Nat.le_of_eq hs)⟩) hK hA hzk hP hD hS (by decide) hno hlocks ?_
          rcases h9 with ⟨h00, y2, hny2, hy⟩ | ⟨h00, hy⟩
          · subst hy
            have h := hny2
            refine Or.inl ⟨h00, fun u H locs hz2 hzk hP hD hS => ?_⟩
            obtain rfl := (zk_nil hz2).symm
            replace hc := (Nat.add_assoc _ _ _).trans hc
            replace hs := (Nat.add_assoc _ _ _).trans hs
            exact ih.2 z _ _ L r2.2.1 _ h hzk hc hs H locs ls hP hD hS (lv_sub hl [0] rfl)
          · subst hy
            exact Or.inr ⟨h00, rfl, hc, hs⟩
      · intro z cells slots L σ r h hzk hc hs H locs ls hP hD hS hl
        rw [f_X5_closes] at h
        refine lv_aload_n hx hb dX5_closes_23 rfl (lv_at hl 0 rfl) ?_
        refine lv_dup hx hb dX5_closes_24 rfl ?_
        refine hg_40_5 hx hb hts in_f_X5_closes_X5 hown hK hP (hts _ (List.mem_cons_of_mem _ (List.mem_append_left _ (List.mem_append_left _ (List.mem_of_getElem? (i := 5) rfl))))) dX5_closes_25 ?_
        refine lv_iconst (v := 1) hx hb dX5_closes_28 (by decide) ?_
        refine lv_isub hx hb dX5_closes_29 ?_
        refine hp_40_5 hx hb hts in_f_X5_closes_X5 hown hK hP hD hS (hts _ (List.mem_cons_of_mem _ (List.mem_append_left _ (List.mem_append_left _ (List.mem_of_getElem? (i := 5) rfl))))) dX5_closes_30 (fun H locs hP hD hS => ?_)
        refine lv_aload_n hx hb dX5_closes_33 rfl (lv_at hl 0 rfl) ?_
        refine hg_40_0 hx hb hts in_f_X5_closes_X5 hown hK hP (hts _ (List.mem_cons_of_mem _ (List.mem_append_left _ (List.mem_append_left _ (List.mem_of_getElem? (i := 0) rfl))))) dX5_closes_34 ?_
        obtain ⟨r1, hc1, hle1, h9⟩ := ox_ex h
        clear h
        refine kx_v (vx_runV (As := []) (rest := []) ⟨hx, hb, hml, hown, hts⟩ (c_f_X2_advance l hl0 dC dI cy ek a k lZ (uI σ 4005 ((((σ.1 4005)) - 1))) r1 hc1 z H.size) (cwV 0 hts g_f_X5_closes_X2_advance_V30 rfl rfl rfl hd_f_X2_advance ⟨Nat.le_of_ble_eq_true rfl, Nat.le_of_ble_eq_true rfl⟩) ⟨nb_blindF, va_recv hK hP (ci := 2) (q0 := 37) rfl rfl, (kx_pre hK hG hE hT hA hP hD hS)⟩ rfl rfl hl.1 rfl (lv_room (Nat.le_of_ble_eq_true rfl)) dX5_closes_37 ⟨Nat.le_trans (Nat.add_le_add_left hle1.1 _) (Nat.le_of_eq hc), Nat.le_trans (Nat.add_le_add_left hle1.2 _) (Nat.le_of_eq hs)⟩) hK hA hzk hP hD hS (by decide) hno hlocks ?_
        rcases h9 with ⟨h00, y1, hny1, hy⟩ | ⟨h00, hy⟩
        · subst hy
          have h := hny1
          refine Or.inl ⟨h00, fun u H locs hz1 hzk hP hD hS => ?_⟩
          obtain rfl := (zk_nil hz1).symm
          replace hc := (Nat.add_assoc _ _ _).trans hc
          replace hs := (Nat.add_assoc _ _ _).trans hs
          obtain rfl := Option.some.inj h
          subst hc
          subst hs
          exact xr_v hx hb hr hK hzk hP hD hS hlocks dX5_closes_40
        · subst hy
          exact Or.inr ⟨h00, rfl, hc, hs⟩
  exact (blk k0).1 z 0 0 L0 σ0 r0 h0 (zk_rf _ _) ((Nat.zero_add _).trans hmc) ((Nat.zero_add _).trans hms) s.heap [] ls hP hD hS hl
/-! X5_widenMarks -/
def f_X5_widenMarks : Nat → Nat → LV → CS → Option RS
  | 0, _, _, _ => none
  | k + 1, 0, L, σ => if ((((σ.1 4011)) + ((L.1 1)))) ≤ ((Int32.ofNat (sN σ 41))) then (f_X5_widenMarks k 1 L σ) else (if 21504 ≤ ((Int32.ofNat (sN σ 41))) then (f_X5_widenMarks k 1 L σ) else (if ¬ (21504 : Int32) < 0 ∧ (21504 : Int32).toNatClampNeg < 134217728 ∧ (sN σ 41) < 2147483648 then (if (sN σ 41) < (21504 : Int32).toNatClampNeg then (adR (1, (21504 : Int32).toNatClampNeg) (f_X5_widenMarks k 1 L (uZ σ 41 (21504 : Int32).toNatClampNeg))) else none) else none))
  | k + 1, 1, L, σ => if ((((σ.1 4011)) + ((L.1 1)))) ≤ ((Int32.ofNat (sN σ 41))) then (f_X5_widenMarks k 2 L σ) else (some ((1, 0), σ, (1, 6)))
  | k + 1, 2, L, σ => some ((0, 0), σ, (0, 0))
  | _ + 1, _ + 3, _, _ => none
def o_f_X5_widenMarks : List Cond := [.fieldLink RX5 112 "SetHouse$Parser" "marked" "I", .fieldLink RX5 9 "SetHouse$Parser" "marks" "[I", .methodLink RX5 132 yJ7_copyOf_59c91, .static yJ7_copyOf_59c91, .initialized RJ7, .classLink RX5 70 "java/lang/IllegalArgumentException", .initialized "java/lang/IllegalArgumentException"]
theorem o_f_X5_widenMarks_good : o_f_X5_widenMarks.all goodWord = true := by decide +kernel
def p_f_X5_widenMarks : List Cond := o_f_X5_widenMarks ++ ((.code yJ7_copyOf_59c91 cJ7_copyOf_59c91 3 (some (.array .int)) :: p_f_J7_copyOf_59c91) ++ (((vx_at0 RX5 124 "java/lang/IllegalArgumentException" ["java/lang/RuntimeException", "java/lang/Exception"]).filter goodWord) ++ []))
theorem p_f_X5_widenMarks_good : p_f_X5_widenMarks.all goodWord = true := nb_all2 o_f_X5_widenMarks_good (nb_all2 (nb_allc (by decide +kernel) p_f_J7_copyOf_59c91_good) (nb_all2 (nb_fg _) rfl))
def w_f_X5_widenMarks : List Cond := .code yX5_widenMarks cX5_widenMarks 2 none :: (p_f_X5_widenMarks ++ fC)
theorem w_f_X5_widenMarks_good : w_f_X5_widenMarks.all goodWord = true := nb_allc (by decide +kernel) (nb_all2 p_f_X5_widenMarks_good fC_good)
theorem in_f_X5_widenMarks_X5 : ∀ w ∈ wsX50, w ∈ w_f_X5_widenMarks := fun _ h => List.mem_cons_of_mem _ (List.mem_append_right _ (List.mem_append_right _ (List.mem_append_right _ (List.mem_append_right _ (List.mem_append_right _ (List.mem_append_left _ h))))))
theorem hd_f_X5_widenMarks : yX5_widenMarks.cls = RX5 ∧ yX5_widenMarks.cls ≠ "java/lang/invoke/MethodHandle" ∧ yX5_widenMarks.cls ≠ "java/lang/invoke/VarHandle" ∧ (parseMethodDescriptor yX5_widenMarks.desc).map (fun d => d.parameters.length) = some 1 := by decide +kernel
theorem gg_f_X5_widenMarks_J7_copyOf_59c91 : GoodIn w_f_X5_widenMarks w_f_J7_copyOf_59c91 := goodIn_sub (fun w h => (List.mem_cons.mp h).elim (fun e => (List.mem_cons_of_mem _ (List.mem_append_left _ (List.mem_append_right _ (List.mem_append_left _ (List.mem_cons.mpr (Or.inl e))))))) (fun h => (List.mem_append.mp h).elim (fun h => (List.mem_cons_of_mem _ (List.mem_append_left _ (List.mem_append_right _ (List.mem_append_left _ (List.mem_cons_of_mem _ h)))))) (fun h => List.mem_cons_of_mem _ (List.mem_append_right _ h)))) w_f_J7_copyOf_59c91_good
theorem g_f_X5_widenMarks_J7_copyOf_59c91_S132 : GoodIn w_f_X5_widenMarks (va_wsS RX5 132 yJ7_copyOf_59c91 w_f_J7_copyOf_59c91) := goodIn_app (nb_g3 (List.mem_cons_of_mem _ (List.mem_append_left _ (List.mem_append_left _ (List.mem_of_getElem? (i := 2) rfl)))) (List.mem_cons_of_mem _ (List.mem_append_left _ (List.mem_append_left _ (List.mem_of_getElem? (i := 3) rfl)))) (List.mem_cons_of_mem _ (List.mem_append_left _ (List.mem_append_left _ (List.mem_of_getElem? (i := 4) rfl)))) (by decide +kernel)) gg_f_X5_widenMarks_J7_copyOf_59c91
set_option maxHeartbeats 40000000 in
set_option maxRecDepth 100000 in
theorem c_f_X5_widenMarks (l : Launch) (hl0 : l.stackTraces = false) (dC : Nat → ClassId) (dI : Nat → Nat → Nat) (cy : Nat → ClassId) (ek a : Nat → Nat) (k0 : Nat) (L0 : LV) (σ0 : CS) (r0 : RS) (h0 : f_X5_widenMarks k0 0 L0 σ0 = some r0) (z : Nat → Nat) (sz : Nat) : vx_Met l yX5_widenMarks w_f_X5_widenMarks ({ frames := 6, cells := r0.2.2.1, slots := r0.2.2.2, locals := 100 }) (va_Pc [.ref (a 40), .int (L0.1 1)] (nInF (dC, dI) cy ek sz (vC cy a z σ0))) (xV dC dI cy a (va_A (vC cy a z σ0) sz) [41] z r0) (xX dC dI cy a (va_A (vC cy a z σ0) sz) [41] z r0) r0.2.2.1 r0.2.2.2 (va_A (vC cy a z σ0) sz) := by
  refine vx_ofW (cc := cX5_widenMarks) (maxL := 2) (ret := none) (by decide) rfl ?_
  intro p e s m args below meth c s₁ B hml hno hv
  obtain ⟨rfl, ⟨⟨hsz, hP, hK, hD0, hG⟩, hE⟩, hT⟩ := hv
  have hx := B.exec
  have hb := B.bytes
  have hr := B.returns
  have hts := atoms_spec (ws := w_f_X5_widenMarks) B.pre
  have hown : s.vm.findClass RX5 = some m.cls := findClass_of_methodNamed B.named
  have hlocks := B.notSynchronized
  subst hsz
  have hD := hD0.self (sz := s.heap.size)
  generalize hAe : va_A (vC cy a z σ0) s.heap.size = A at hD hE hT ⊢
  have hA : ∀ q : Nat, s.heap.size ≤ q → A q := fun q h => by rw [← hAe]; exact Or.inr h
  have hS : va_S A s.heap s.heap [] := va_S.rf
  have hl := lv_entry ([.ref (a 40), .int (L0.1 1)]) (n := 2) (Nat.le_of_ble_eq_true rfl)
  rw [lg_entry_eq]
  generalize (lg_sl ([.ref (a 40), .int (L0.1 1)]) ++ List.replicate (2 - (lg_sl ([.ref (a 40), .int (L0.1 1)])).length) Slot.unset).toArray = ls at hl ⊢
  have hl : lv_has ls 2 [(0, .ref (a 40)), (1, .int (L0.1 1))] := hl
  generalize hmc : r0.2.2.1 = mc
  generalize hms : r0.2.2.2 = ms
  have blk : ∀ k : Nat, (bX p l e (headSpec w_f_X5_widenMarks ({ frames := 6, cells := mc, slots := ms, locals := 100 })).room s m #[.ref (a 40), .int (L0.1 1)] below meth c dC dI cy a A (fun r => vx_MQ below (xV dC dI cy a A [41] z r) (xX dC dI cy a A [41] z r) #[.ref (a 40), .int (L0.1 1)] s mc ms A) [41] z mc ms 2 (f_X5_widenMarks k 0) (fun z L => [(0, .ref (a 40)), (1, .int (L.1 1))]) 0 (fun z L => [])) ∧ (bX p l e (headSpec w_f_X5_widenMarks ({ frames := 6, cells := mc, slots := ms, locals := 100 })).room s m #[.ref (a 40), .int (L0.1 1)] below meth c dC dI cy a A (fun r => vx_MQ below (xV dC dI cy a A [41] z r) (xX dC dI cy a A [41] z r) #[.ref (a 40), .int (L0.1 1)] s mc ms A) [41] z mc ms 2 (f_X5_widenMarks k 1) (fun z L => [(0, .ref (a 40)), (1, .int (L.1 1))]) 39 (fun z L => [])) ∧ (bX p l e (headSpec w_f_X5_widenMarks ({ frames := 6, cells := mc, slots := ms, locals := 100 })).room s m #[.ref (a 40), .int (L0.1 1)] below meth c dC dI cy a A (fun r => vx_MQ below (xV dC dI cy a A [41] z r) (xX dC dI cy a A [41] z r) #[.ref (a 40), .int (L0.1 1)] s mc ms A) [41] z mc ms 2 (f_X5_widenMarks k 2) (fun z L => []) 61 (fun z L => [])) := by
    intro k
    induction k with
    | zero => exact ⟨fun z c1 c2 L σ r h => (by cases h), fun z c1 c2 L σ r h => (by cases h), fun z c1 c2 L σ r h => (by cases h)⟩
    | succ k ih =>
      refine ⟨?_, ?_, ?_⟩
      · intro z cells slots L σ r h hzk hc hs H locs ls hP hD hS hl
        rw [f_X5_widenMarks] at h
        refine lv_aload_n hx hb dX5_widenMarks_0 rfl (lv_at hl 0 rfl) ?_
        refine hg_40_11 hx hb hts in_f_X5_widenMarks_X5 hown hK hP (hts _ (List.mem_cons_of_mem _ (List.mem_append_left _ (List.mem_append_left _ (List.mem_of_getElem? (i := 0) rfl))))) dX5_widenMarks_1 ?_
        refine lv_iload_n hx hb dX5_widenMarks_4 rfl (lv_at hl 1 rfl) ?_
        refine lv_iadd hx hb dX5_widenMarks_5 ?_
        refine lv_aload_n hx hb dX5_widenMarks_6 rfl (lv_at hl 0 rfl) ?_
        refine hg_40_10 hx hb hts in_f_X5_widenMarks_X5 hown hK hP (hts _ (List.mem_cons_of_mem _ (List.mem_append_left _ (List.mem_append_left _ (List.mem_of_getElem? (i := 1) rfl))))) dX5_widenMarks_7 ?_
        refine hn_41 hx hb hK hP dX5_widenMarks_10 ?_
        refine lv_icmp_le (tgt := 39) hx hb dX5_widenMarks_11 (by decide) (fun c1 => ?_) (fun c1 => ?_)
        · rw [if_pos c1] at h
          exact ih.2.1 z _ _ L σ _ h hzk hc hs H locs ls hP hD hS (lv_sub hl [0, 1] rfl)
        · rw [if_neg c1] at h
          refine lv_aload_n hx hb dX5_widenMarks_14 rfl (lv_at hl 0 rfl) ?_
          refine hg_40_10 hx hb hts in_f_X5_widenMarks_X5 hown hK hP (hts _ (List.mem_cons_of_mem _ (List.mem_append_left _ (List.mem_append_left _ (List.mem_of_getElem? (i := 1) rfl))))) dX5_widenMarks_15 ?_
          refine hn_41 hx hb hK hP dX5_widenMarks_18 ?_
          refine lv_sipush (v := 21504) hx hb dX5_widenMarks_19 (by decide) ?_
          refine lv_icmp_ge (tgt := 39) hx hb dX5_widenMarks_22 (by decide) (fun c2 => ?_) (fun c2 => ?_)
          · rw [if_pos c2] at h
            exact ih.2.1 z _ _ L σ _ h hzk hc hs H locs ls hP hD hS (lv_sub hl [0, 1] rfl)
          · rw [if_neg c2] at h
            refine lv_aload_n hx hb dX5_widenMarks_25 rfl (lv_at hl 0 rfl) ?_
            refine lv_aload_n hx hb dX5_widenMarks_26 rfl (lv_at hl 0 rfl) ?_
            refine hg_40_10 hx hb hts in_f_X5_widenMarks_X5 hown hK hP (hts _ (List.mem_cons_of_mem _ (List.mem_append_left _ (List.mem_append_left _ (List.mem_of_getElem? (i := 1) rfl))))) dX5_widenMarks_27 ?_
            refine lv_sipush (v := 21504) hx hb dX5_widenMarks_30 (by decide) ?_
            obtain ⟨q3, h⟩ := kr_ite1 h
            obtain ⟨q4, h⟩ := kr_ite1 h
            obtain ⟨y5, hny5, hy⟩ := adR_ex h
            subst hy
            have h := hny5
            refine hw_41_new ⟨hx, hb, hml, hown, hts⟩ (va_cwS 2 hts g_f_X5_widenMarks_J7_copyOf_59c91_S132 rfl rfl rfl (by decide +kernel) ⟨Nat.le_of_ble_eq_true rfl, Nat.le_of_ble_eq_true rfl⟩) in_f_X5_widenMarks_X5 hK hG hA hP hD hS q3 q4 hl.1 (Nat.le_of_ble_eq_true rfl) dX5_widenMarks_33 (hts _ (List.mem_cons_of_mem _ (List.mem_append_left _ (List.mem_append_left _ (List.mem_of_getElem? (i := 1) rfl))))) dX5_widenMarks_36 (Nat.le_trans (Nat.add_le_add_left (Nat.le_add_right _ _) _) (Nat.le_of_eq hc)) (Nat.le_trans (Nat.add_le_add_left (Nat.le_add_right _ _) _) (Nat.le_of_eq hs)) (fun z H locs hz5 hP hD hS => ?_)
            have hzk := zk_tr hzk hz5 (by decide)
            replace hc := (Nat.add_assoc _ _ _).trans hc
            replace hs := (Nat.add_assoc _ _ _).trans hs
            exact ih.2.1 z _ _ L (uZ σ 41 (21504 : Int32).toNatClampNeg) _ h hzk hc hs H locs ls hP hD hS (lv_sub hl [0, 1] rfl)
      · intro z cells slots L σ r h hzk hc hs H locs ls hP hD hS hl
        rw [f_X5_widenMarks] at h
        refine lv_aload_n hx hb dX5_widenMarks_39 rfl (lv_at hl 0 rfl) ?_
        refine hg_40_11 hx hb hts in_f_X5_widenMarks_X5 hown hK hP (hts _ (List.mem_cons_of_mem _ (List.mem_append_left _ (List.mem_append_left _ (List.mem_of_getElem? (i := 0) rfl))))) dX5_widenMarks_40 ?_
        refine lv_iload_n hx hb dX5_widenMarks_43 rfl (lv_at hl 1 rfl) ?_
        refine lv_iadd hx hb dX5_widenMarks_44 ?_
        refine lv_aload_n hx hb dX5_widenMarks_45 rfl (lv_at hl 0 rfl) ?_
        refine hg_40_10 hx hb hts in_f_X5_widenMarks_X5 hown hK hP (hts _ (List.mem_cons_of_mem _ (List.mem_append_left _ (List.mem_append_left _ (List.mem_of_getElem? (i := 1) rfl))))) dX5_widenMarks_46 ?_
        refine hn_41 hx hb hK hP dX5_widenMarks_49 ?_
        refine lv_icmp_le (tgt := 61) hx hb dX5_widenMarks_50 (by decide) (fun c1 => ?_) (fun c1 => ?_)
        · rw [if_pos c1] at h
          exact ih.2.2 z _ _ L σ _ h hzk hc hs H locs ls hP hD hS (lv_sub hl [] rfl)
        · rw [if_neg c1] at h
          obtain rfl := Option.some.inj h
          exact vx_throw0 (cls := "java/lang/IllegalArgumentException") (names := ["java/lang/RuntimeException", "java/lang/Exception"]) hx hb hl0 hown (by decide) (by decide) (hts _ (List.mem_cons_of_mem _ (List.mem_append_left _ (List.mem_append_left _ (List.mem_of_getElem? (i := 5) rfl))))) (hts _ (List.mem_cons_of_mem _ (List.mem_append_left _ (List.mem_append_left _ (List.mem_of_getElem? (i := 6) rfl))))) (vx_hat (B := [.castable "java/lang/IllegalArgumentException" "java/lang/IllegalArgumentException", .declares (Bundle.init0 "java/lang/RuntimeException"), .declares (Bundle.init0 "java/lang/Exception"), .declares (Bundle.init0 Bundle.tN)]) (fun w h => hts w (List.mem_cons_of_mem _ (List.mem_append_left _ (List.mem_append_right _ (List.mem_append_right _ (List.mem_append_left _ h)))))) (by decide +kernel) (vx_c (va_Nw.use (by decide +kernel) (hT.2.2.1 _ (List.mem_of_getElem? (i := 1) rfl))) (vx_c (va_Nw.use (by decide +kernel) (hT.2.2.1 _ (List.mem_of_getElem? (i := 4) rfl))) (vx_c (va_Nw.use (by decide +kernel) (hT.2.2.1 _ (List.mem_of_getElem? (i := 5) rfl))) (vx_c (va_Nw.use (by decide +kernel) (hT.2.2.1 _ (List.mem_of_getElem? (i := 6) rfl))) vx_n))))) (fun w h => List.all_eq_true.mp (by decide +kernel : (Cond.classLink RX5 70 "java/lang/IllegalArgumentException" :: Cond.initialized "java/lang/IllegalArgumentException" :: (vx_at0 RX5 124 "java/lang/IllegalArgumentException" ["java/lang/RuntimeException", "java/lang/Exception"])).all vx_ot = true) w h) hT.1 hT.2.1 hS (hl.1.trans hml.symm) dX5_widenMarks_53 dX5_widenMarks_56 dX5_widenMarks_57 dX5_widenMarks_60 (fun x h => (hno x h).elim) (Nat.le_of_ble_eq_true rfl) (Nat.le_of_ble_eq_true rfl) (Nat.le_of_eq hc) (Nat.le_of_eq hs) hlocks (xt_x (n := 1) (by decide) hK hzk hP hD hS) hS.2.2 (Nat.le_of_eq hc) (Nat.le_of_eq hs)
      · intro z cells slots L σ r h hzk hc hs H locs ls hP hD hS hl
        rw [f_X5_widenMarks] at h
        obtain rfl := Option.some.inj h
        subst hc
        subst hs
        exact xr_v hx hb hr hK hzk hP hD hS hlocks dX5_widenMarks_61
  exact (blk k0).1 z 0 0 L0 σ0 r0 h0 (zk_rf _ _) ((Nat.zero_add _).trans hmc) ((Nat.zero_add _).trans hms) s.heap [] ls hP hD hS hl
/-! X5_postpone -/
def f_X5_postpone : Nat → Nat → LV → CS → Option RS
  | 0, _, _, _ => none
  | k + 1, 0, L, σ => ox (f_X5_widenMarks k 0 (lI lZ 1 3) σ) (fun r1 => if ¬ (((r1.2.1.1 4011)) < 0 ∨ (sN r1.2.1 41) ≤ ((r1.2.1.1 4011)).toNatClampNeg) then (if ¬ ((((((uA r1.2.1 41 ((r1.2.1.1 4011)).toNatClampNeg ((L.1 1))).1 4011)) + 1)) < 0 ∨ (sN (uA r1.2.1 41 ((r1.2.1.1 4011)).toNatClampNeg ((L.1 1))) 41) ≤ (((((uA r1.2.1 41 ((r1.2.1.1 4011)).toNatClampNeg ((L.1 1))).1 4011)) + 1)).toNatClampNeg) then (if ¬ ((((((uA (uA r1.2.1 41 ((r1.2.1.1 4011)).toNatClampNeg ((L.1 1))) 41 (((((uA r1.2.1 41 ((r1.2.1.1 4011)).toNatClampNeg ((L.1 1))).1 4011)) + 1)).toNatClampNeg ((L.1 2))).1 4011)) + 2)) < 0 ∨ (sN (uA (uA r1.2.1 41 ((r1.2.1.1 4011)).toNatClampNeg ((L.1 1))) 41 (((((uA r1.2.1 41 ((r1.2.1.1 4011)).toNatClampNeg ((L.1 1))).1 4011)) + 1)).toNatClampNeg ((L.1 2))) 41) ≤ (((((uA (uA r1.2.1 41 ((r1.2.1.1 4011)).toNatClampNeg ((L.1 1))) 41 (((((uA r1.2.1 41 ((r1.2.1.1 4011)).toNatClampNeg ((L.1 1))).1 4011)) + 1)).toNatClampNeg ((L.1 2))).1 4011)) + 2)).toNatClampNeg) then (f_X5_postpone k 1 L (uA (uA (uA r1.2.1 41 ((r1.2.1.1 4011)).toNatClampNeg ((L.1 1))) 41 (((((uA r1.2.1 41 ((r1.2.1.1 4011)).toNatClampNeg ((L.1 1))).1 4011)) + 1)).toNatClampNeg ((L.1 2))) 41 (((((uA (uA r1.2.1 41 ((r1.2.1.1 4011)).toNatClampNeg ((L.1 1))) 41 (((((uA r1.2.1 41 ((r1.2.1.1 4011)).toNatClampNeg ((L.1 1))).1 4011)) + 1)).toNatClampNeg ((L.1 2))).1 4011)) + 2)).toNatClampNeg ((L.1 3)))) else none) else none) else none)
  | k + 1, 1, L, σ => some ((0, 0), (uI σ 4011 ((((σ.1 4011)) + 3))), (0, 0))
  | _ + 1, _ + 2, _, _ => none
def o_f_X5_postpone : List Cond := [.methodLink RX5 129 yX5_widenMarks, .instanceMethod yX5_widenMarks, .selects RX5 yX5_widenMarks yX5_widenMarks, .initialized RX5, .fieldLink RX5 9 "SetHouse$Parser" "marks" "[I", .fieldLink RX5 112 "SetHouse$Parser" "marked" "I"]
theorem o_f_X5_postpone_good : o_f_X5_postpone.all goodWord = true := by decide +kernel
def p_f_X5_postpone : List Cond := o_f_X5_postpone ++ ((.code yX5_widenMarks cX5_widenMarks 2 none :: p_f_X5_widenMarks) ++ [])
theorem p_f_X5_postpone_good : p_f_X5_postpone.all goodWord = true := nb_all2 o_f_X5_postpone_good (nb_all2 (nb_allc (by decide +kernel) p_f_X5_widenMarks_good) rfl)
def w_f_X5_postpone : List Cond := .code yX5_postpone cX5_postpone 4 none :: (p_f_X5_postpone ++ fC)
theorem w_f_X5_postpone_good : w_f_X5_postpone.all goodWord = true := nb_allc (by decide +kernel) (nb_all2 p_f_X5_postpone_good fC_good)
theorem in_f_X5_postpone_X5 : ∀ w ∈ wsX50, w ∈ w_f_X5_postpone := fun _ h => List.mem_cons_of_mem _ (List.mem_append_right _ (List.mem_append_right _ (List.mem_append_right _ (List.mem_append_right _ (List.mem_append_right _ (List.mem_append_left _ h))))))
theorem hd_f_X5_postpone : yX5_postpone.cls = RX5 ∧ yX5_postpone.cls ≠ "java/lang/invoke/MethodHandle" ∧ yX5_postpone.cls ≠ "java/lang/invoke/VarHandle" ∧ (parseMethodDescriptor yX5_postpone.desc).map (fun d => d.parameters.length) = some 3 := by decide +kernel
theorem gg_f_X5_postpone_X5_widenMarks : GoodIn w_f_X5_postpone w_f_X5_widenMarks := goodIn_sub (fun w h => (List.mem_cons.mp h).elim (fun e => (List.mem_cons_of_mem _ (List.mem_append_left _ (List.mem_append_right _ (List.mem_append_left _ (List.mem_cons.mpr (Or.inl e))))))) (fun h => (List.mem_append.mp h).elim (fun h => (List.mem_cons_of_mem _ (List.mem_append_left _ (List.mem_append_right _ (List.mem_append_left _ (List.mem_cons_of_mem _ h)))))) (fun h => List.mem_cons_of_mem _ (List.mem_append_right _ h)))) w_f_X5_widenMarks_good
theorem g_f_X5_postpone_X5_widenMarks_V129 : GoodIn w_f_X5_postpone (wsV RX5 129 RX5 yX5_widenMarks w_f_X5_widenMarks) := goodIn_app (nb_g4 (List.mem_cons_of_mem _ (List.mem_append_left _ (List.mem_append_left _ (List.mem_of_getElem? (i := 0) rfl)))) (List.mem_cons_of_mem _ (List.mem_append_left _ (List.mem_append_left _ (List.mem_of_getElem? (i := 1) rfl)))) (List.mem_cons_of_mem _ (List.mem_append_left _ (List.mem_append_left _ (List.mem_of_getElem? (i := 2) rfl)))) (List.mem_cons_of_mem _ (List.mem_append_left _ (List.mem_append_left _ (List.mem_of_getElem? (i := 3) rfl)))) (by decide +kernel)) gg_f_X5_postpone_X5_widenMarks
set_option maxHeartbeats 40000000 in
set_option maxRecDepth 100000 in
theorem c_f_X5_postpone (l : Launch) (hl0 : l.stackTraces = false) (dC : Nat → ClassId) (dI : Nat → Nat → Nat) (cy : Nat → ClassId) (ek a : Nat → Nat) (k0 : Nat) (L0 : LV) (σ0 : CS) (r0 : RS) (h0 : f_X5_postpone k0 0 L0 σ0 = some r0) (z : Nat → Nat) (sz : Nat) : vx_Met l yX5_postpone w_f_X5_postpone ({ frames := 7, cells := r0.2.2.1, slots := r0.2.2.2, locals := 121 }) (va_Pc [.ref (a 40), .int (L0.1 1), .int (L0.1 2), .int (L0.1 3)] (nInF (dC, dI) cy ek sz (vC cy a z σ0))) (xV dC dI cy a (va_A (vC cy a z σ0) sz) [41] z r0) (xX dC dI cy a (va_A (vC cy a z σ0) sz) [41] z r0) r0.2.2.1 r0.2.2.2 (va_A (vC cy a z σ0) sz) := by
  refine vx_ofW (cc := cX5_postpone) (maxL := 4) (ret := none) (by decide) rfl ?_
  intro p e s m args below meth c s₁ B hml hno hv
  obtain ⟨rfl, ⟨⟨hsz, hP, hK, hD0, hG⟩, hE⟩, hT⟩ := hv
  have hx := B.exec
  have hb := B.bytes
  have hr := B.returns
  have hts := atoms_spec (ws := w_f_X5_postpone) B.pre
  have hown : s.vm.findClass RX5 = some m.cls := findClass_of_methodNamed B.named
  have hlocks := B.notSynchronized
  subst hsz
  have hD := hD0.self (sz := s.heap.size)
  generalize hAe : va_A (vC cy a z σ0) s.heap.size = A at hD hE hT ⊢
  have hA : ∀ q : Nat, s.heap.size ≤ q → A q := fun q h => by rw [← hAe]; exact Or.inr h
  have hS : va_S A s.heap s.heap [] := va_S.rf
  have hl := lv_entry ([.ref (a 40), .int (L0.1 1), .int (L0.1 2), .int (L0.1 3)]) (n := 4) (Nat.le_of_ble_eq_true rfl)
  rw [lg_entry_eq]
  generalize (lg_sl ([.ref (a 40), .int (L0.1 1), .int (L0.1 2), .int (L0.1 3)]) ++ List.replicate (4 - (lg_sl ([.ref (a 40), .int (L0.1 1), .int (L0.1 2), .int (L0.1 3)])).length) Slot.unset).toArray = ls at hl ⊢
  have hl : lv_has ls 4 [(0, .ref (a 40)), (1, .int (L0.1 1)), (2, .int (L0.1 2)), (3, .int (L0.1 3))] := hl
  generalize hmc : r0.2.2.1 = mc
  generalize hms : r0.2.2.2 = ms
  have blk : ∀ k : Nat, (bX p l e (headSpec w_f_X5_postpone ({ frames := 7, cells := mc, slots := ms, locals := 121 })).room s m #[.ref (a 40), .int (L0.1 1), .int (L0.1 2), .int (L0.1 3)] below meth c dC dI cy a A (fun r => vx_MQ below (xV dC dI cy a A [41] z r) (xX dC dI cy a A [41] z r) #[.ref (a 40), .int (L0.1 1), .int (L0.1 2), .int (L0.1 3)] s mc ms A) [41] z mc ms 4 (f_X5_postpone k 0) (fun z L => [(0, .ref (a 40)), (1, .int (L.1 1)), (2, .int (L.1 2)), (3, .int (L.1 3))]) 0 (fun z L => [])) ∧ (bX p l e (headSpec w_f_X5_postpone ({ frames := 7, cells := mc, slots := ms, locals := 121 })).room s m #[.ref (a 40), .int (L0.1 1), .int (L0.1 2), .int (L0.1 3)] below meth c dC dI cy a A (fun r => vx_MQ below (xV dC dI cy a A [41] z r) (xX dC dI cy a A [41] z r) #[.ref (a 40), .int (L0.1 1), .int (L0.1 2), .int (L0.1 3)] s mc ms A) [41] z mc ms 4 (f_X5_postpone k 1) (fun z L => [(0, .ref (a 40))]) 39 (fun z L => [])) := by
    intro k
    induction k with
    | zero => exact ⟨fun z c1 c2 L σ r h => (by cases h), fun z c1 c2 L σ r h => (by cases h)⟩
    | succ k ih =>
      refine ⟨?_, ?_⟩
      · intro z cells slots L σ r h hzk hc hs H locs ls hP hD hS hl
        rw [f_X5_postpone] at h
        refine lv_aload_n hx hb dX5_postpone_0 rfl (lv_at hl 0 rfl) ?_
        refine lv_iconst (v := 3) hx hb dX5_postpone_1 (by decide) ?_
        obtain ⟨r1, hc1, hle1, h9⟩ := ox_ex h
        clear h
        refine kx_v (vx_runV (As := [.int 3]) (rest := []) ⟨hx, hb, hml, hown, hts⟩ (c_f_X5_widenMarks l hl0 dC dI cy ek a k (lI lZ 1 3) σ r1 hc1 z H.size) (cwV 1 hts g_f_X5_postpone_X5_widenMarks_V129 rfl rfl rfl hd_f_X5_widenMarks ⟨Nat.le_of_ble_eq_true rfl, Nat.le_of_ble_eq_true rfl⟩) ⟨nb_blindF, va_recv hK hP (ci := 4) (q0 := 40) rfl rfl, (kx_pre hK hG hE hT hA hP hD hS)⟩ rfl rfl hl.1 rfl (lv_room (Nat.le_of_ble_eq_true rfl)) dX5_postpone_2 ⟨Nat.le_trans (Nat.add_le_add_left hle1.1 _) (Nat.le_of_eq hc), Nat.le_trans (Nat.add_le_add_left hle1.2 _) (Nat.le_of_eq hs)⟩) hK hA hzk hP hD hS (by decide) hno hlocks ?_
        rcases h9 with ⟨h00, y1, hny1, hy⟩ | ⟨h00, hy⟩
        · subst hy
          have h := hny1
          refine Or.inl ⟨h00, fun z H locs hz1 hzk hP hD hS => ?_⟩
          replace hc := (Nat.add_assoc _ _ _).trans hc
          replace hs := (Nat.add_assoc _ _ _).trans hs
          refine lv_aload_n hx hb dX5_postpone_5 rfl (lv_at hl 0 rfl) ?_
          refine hg_40_10 hx hb hts in_f_X5_postpone_X5 hown hK hP (hts _ (List.mem_cons_of_mem _ (List.mem_append_left _ (List.mem_append_left _ (List.mem_of_getElem? (i := 4) rfl))))) dX5_postpone_6 ?_
          refine lv_aload_n hx hb dX5_postpone_9 rfl (lv_at hl 0 rfl) ?_
          refine hg_40_11 hx hb hts in_f_X5_postpone_X5 hown hK hP (hts _ (List.mem_cons_of_mem _ (List.mem_append_left _ (List.mem_append_left _ (List.mem_of_getElem? (i := 5) rfl))))) dX5_postpone_10 ?_
          refine lv_iload_n hx hb dX5_postpone_13 rfl (lv_at hl 1 rfl) ?_
          obtain ⟨q2, h⟩ := kr_ite1 h
          refine hs_41 hx hb hK hP hD hS q2 dX5_postpone_14 (fun H locs hP hD hS => ?_)
          refine lv_aload_n hx hb dX5_postpone_15 rfl (lv_at hl 0 rfl) ?_
          refine hg_40_10 hx hb hts in_f_X5_postpone_X5 hown hK hP (hts _ (List.mem_cons_of_mem _ (List.mem_append_left _ (List.mem_append_left _ (List.mem_of_getElem? (i := 4) rfl))))) dX5_postpone_16 ?_
          refine lv_aload_n hx hb dX5_postpone_19 rfl (lv_at hl 0 rfl) ?_
          refine hg_40_11 hx hb hts in_f_X5_postpone_X5 hown hK hP (hts _ (List.mem_cons_of_mem _ (List.mem_append_left _ (List.mem_append_left _ (List.mem_of_getElem? (i := 5) rfl))))) dX5_postpone_20 ?_
          refine lv_iconst (v := 1) hx hb dX5_postpone_23 (by decide) ?_
          refine lv_iadd hx hb dX5_postpone_24 ?_
          refine lv_iload_n hx hb dX5_postpone_25 rfl (lv_at hl 2 rfl) ?_
          obtain ⟨q3, h⟩ := kr_ite1 h
          refine hs_41 hx hb hK hP hD hS q3 dX5_postpone_26 (fun H locs hP hD hS => ?_)
          refine lv_aload_n hx hb dX5_postpone_27 rfl (lv_at hl 0 rfl) ?_
          refine hg_40_10 hx hb hts in_f_X5_postpone_X5 hown hK hP (hts _ (List.mem_cons_of_mem _ (List.mem_append_left _ (List.mem_append_left _ (List.mem_of_getElem? (i := 4) rfl))))) dX5_postpone_28 ?_
          refine lv_aload_n hx hb dX5_postpone_31 rfl (lv_at hl 0 rfl) ?_
          refine hg_40_11 hx hb hts in_f_X5_postpone_X5 hown hK hP (hts _ (List.mem_cons_of_mem _ (List.mem_append_left _ (List.mem_append_left _ (List.mem_of_getElem? (i := 5) rfl))))) dX5_postpone_32 ?_
          refine lv_iconst (v := 2) hx hb dX5_postpone_35 (by decide) ?_
          refine lv_iadd hx hb dX5_postpone_36 ?_
          refine lv_iload_n hx hb dX5_postpone_37 rfl (lv_at hl 3 rfl) ?_
          obtain ⟨q4, h⟩ := kr_ite1 h
          refine hs_41 hx hb hK hP hD hS q4 dX5_postpone_38 (fun H locs hP hD hS => ?_)
          exact ih.2 z _ _ L (uA (uA (uA r1.2.1 41 ((r1.2.1.1 4011)).toNatClampNeg ((L.1 1))) 41 (((((uA r1.2.1 41 ((r1.2.1.1 4011)).toNatClampNeg ((L.1 1))).1 4011)) + 1)).toNatClampNeg ((L.1 2))) 41 (((((uA (uA r1.2.1 41 ((r1.2.1.1 4011)).toNatClampNeg ((L.1 1))) 41 (((((uA r1.2.1 41 ((r1.2.1.1 4011)).toNatClampNeg ((L.1 1))).1 4011)) + 1)).toNatClampNeg ((L.1 2))).1 4011)) + 2)).toNatClampNeg ((L.1 3))) _ h hzk hc hs H locs ls hP hD hS (lv_sub hl [0] rfl)
        · subst hy
          exact Or.inr ⟨h00, rfl, hc, hs⟩
      · intro z cells slots L σ r h hzk hc hs H locs ls hP hD hS hl
        rw [f_X5_postpone] at h
        refine lv_aload_n hx hb dX5_postpone_39 rfl (lv_at hl 0 rfl) ?_
        refine lv_aload_n hx hb dX5_postpone_40 rfl (lv_at hl 0 rfl) ?_
        refine hg_40_11 hx hb hts in_f_X5_postpone_X5 hown hK hP (hts _ (List.mem_cons_of_mem _ (List.mem_append_left _ (List.mem_append_left _ (List.mem_of_getElem? (i := 5) rfl))))) dX5_postpone_41 ?_
        refine lv_iconst (v := 3) hx hb dX5_postpone_44 (by decide) ?_
        refine lv_iadd hx hb dX5_postpone_45 ?_
        refine hp_40_11 hx hb hts in_f_X5_postpone_X5 hown hK hP hD hS (hts _ (List.mem_cons_of_mem _ (List.mem_append_left _ (List.mem_append_left _ (List.mem_of_getElem? (i := 5) rfl))))) dX5_postpone_46 (fun H locs hP hD hS => ?_)
        obtain rfl := Option.some.inj h
        subst hc
        subst hs
        exact xr_v hx hb hr hK hzk hP hD hS hlocks dX5_postpone_49
  exact (blk k0).1 z 0 0 L0 σ0 r0 h0 (zk_rf _ _) ((Nat.zero_add _).trans hmc) ((Nat.zero_add _).trans hms) s.heap [] ls hP hD hS hl
/-! X5_prefix -/
def f_X5_prefix : Nat → Nat → LV → CS → Option RS
  | 0, _, _, _ => none
  | k + 1, 0, L, σ => if ((σ.1 3702)) = 66 then (if ((σ.1 4011)) = ((L.1 1)) then (f_X5_prefix k 3 (lI (lI L 3 ((σ.1 3702))) 100 ((L.1 2))) σ) else (f_X5_prefix k 2 (lI L 3 ((σ.1 3702))) σ)) else (f_X5_prefix k 1 (lI L 3 ((σ.1 3702))) σ)
  | k + 1, 1, L, σ => f_X5_prefix k 4 (lI L 100 0) σ
  | k + 1, 2, L, σ => op (y_X5_postponedLevel k 0 (lI lZ 1 ((L.1 1))) σ) (fun r1 => f_X5_prefix k 3 (lI L 100 r1.1) r1.2)
  | k + 1, 3, L, σ => if 2 < ((L.1 100)) then (f_X5_prefix k 1 L σ) else (f_X5_prefix k 4 (lI L 100 1) σ)
  | k + 1, 4, L, σ => if ((L.1 3)) = 6 then (f_X5_prefix k 6 (lI (lI L 4 ((L.1 100))) 100 0) σ) else (f_X5_prefix k 5 (lI L 4 ((L.1 100))) σ)
  | k + 1, 5, L, σ => if ((L.1 3)) = 8 then (f_X5_prefix k 6 (lI L 100 1) σ) else (f_X5_prefix k 7 L σ)
  | k + 1, 6, L, σ => if ((L.1 4)) = 0 then (if ((L.1 100)) = ((-1)) then (if ((L.1 3)) = 7 then (f_X5_prefix k 8 (lI L 5 ((L.1 100))) σ) else (if ((L.1 3)) = 26 then (f_X5_prefix k 8 (lI L 5 ((L.1 100))) σ) else (some ((0, 0), σ, (0, 0))))) else (f_X5_prefix k 8 (lI L 5 ((L.1 100))) σ)) else (f_X5_prefix k 8 (lI L 5 ((L.1 100))) σ)
  | k + 1, 7, L, σ => if ((L.1 3)) = 81 then (f_X5_prefix k 6 (lI L 100 2) σ) else (f_X5_prefix k 9 L σ)
  | k + 1, 8, L, σ => if ((σ.1 4005)) < 20 then (f_X5_prefix k 10 L σ) else (ox (f_X5_refuse k 0 (lI (lI lZ 1 3) 2 ((σ.1 3703))) σ) (fun r2 => f_X5_prefix k 10 L r2.2.1))
  | k + 1, 9, L, σ => if ((L.1 3)) = 80 then (f_X5_prefix k 6 (lI L 100 3) σ) else (f_X5_prefix k 11 L σ)
  | k + 1, 10, L, σ => ox (f_X2_advance k 0 lZ (uI σ 4005 ((((σ.1 4005)) + 1)))) (fun r1 => if ((L.1 4)) = 0 then (f_X5_prefix k 12 L r1.2.1) else (ox (f_X5_postpone k 0 (lI (lI (lI lZ 1 2) 2 9) 3 0) r1.2.1) (fun r3 => f_X5_prefix k 13 L r3.2.1)))
  | k + 1, 11, L, σ => f_X5_prefix k 6 (lI L 100 ((-1))) σ
  | k + 1, 12, L, σ => if ((L.1 5)) = ((-1)) then (if ((L.1 3)) = 7 then (f_X5_prefix k 16 (lI (lI L 100 160) 101 7) σ) else (f_X5_prefix k 15 (lI L 100 7) σ)) else (f_X5_prefix k 14 L σ)
  | k + 1, 13, L, σ => some ((0, 1), σ, (0, 0))
  | k + 1, 14, L, σ => ox (f_X5_expect k 0 (lI lZ 1 27) σ) (fun r1 => ox (f_X5_postpone k 0 (lI (lI (lI lZ 1 7) 2 112) 3 ((L.1 5))) r1.2.1) (fun r2 => f_X5_prefix k 13 L r2.2.1))
  | k + 1, 15, L, σ => f_X5_prefix k 16 (lI (lI L 100 161) 101 ((L.1 100))) σ
  | k + 1, 16, L, σ => ox (f_X5_postpone k 0 (lI (lI (lI lZ 1 ((L.1 101))) 2 ((L.1 100))) 3 0) σ) (fun r1 => f_X5_prefix k 13 L r1.2.1)
  | _ + 1, _ + 17, _, _ => none
def o_f_X5_prefix : List Cond := [.fieldLink RX5 18 "SetHouse$Parser" "lex" "LSetHouse$Lexer;", .fieldLink RX5 112 "SetHouse$Parser" "marked" "I", .methodLink RX5 369 yX5_postponedLevel, .instanceMethod yX5_postponedLevel, .selects RX5 yX5_postponedLevel yX5_postponedLevel, .initialized RX5, .fieldLink RX5 103 "SetHouse$Parser" "open" "I", .methodLink RX5 125 yX5_refuse, .instanceMethod yX5_refuse, .selects RX5 yX5_refuse yX5_refuse, .methodLink RX5 30 yX2_advance, .instanceMethod yX2_advance, .selects RX2 yX2_advance yX2_advance, .initialized RX2, .methodLink RX5 372 yX5_postpone, .instanceMethod yX5_postpone, .selects RX5 yX5_postpone yX5_postpone, .methodLink RX5 141 yX5_expect, .instanceMethod yX5_expect, .selects RX5 yX5_expect yX5_expect]
theorem o_f_X5_prefix_good : o_f_X5_prefix.all goodWord = true := by decide +kernel
def p_f_X5_prefix : List Cond := o_f_X5_prefix ++ ((.code yX5_postponedLevel cX5_postponedLevel 2 (some .int) :: p_y_X5_postponedLevel) ++ ((.code yX5_refuse cX5_refuse 3 none :: p_f_X5_refuse) ++ ((.code yX2_advance cX2_advance 7 none :: p_f_X2_advance) ++ ((.code yX5_postpone cX5_postpone 4 none :: p_f_X5_postpone) ++ ((.code yX5_expect cX5_expect 2 none :: p_f_X5_expect) ++ [])))))
theorem p_f_X5_prefix_good : p_f_X5_prefix.all goodWord = true := nb_all2 o_f_X5_prefix_good (nb_all2 (nb_allc (by decide +kernel) p_y_X5_postponedLevel_good) (nb_all2 (nb_allc (by decide +kernel) p_f_X5_refuse_good) (nb_all2 (nb_allc (by decide +kernel) p_f_X2_advance_good) (nb_all2 (nb_allc (by decide +kernel) p_f_X5_postpone_good) (nb_all2 (nb_allc (by decide +kernel) p_f_X5_expect_good) rfl)))))
def w_f_X5_prefix : List Cond := .code yX5_prefix cX5_prefix 6 (some .boolean) :: (p_f_X5_prefix ++ fC)
theorem w_f_X5_prefix_good : w_f_X5_prefix.all goodWord = true := nb_allc (by decide +kernel) (nb_all2 p_f_X5_prefix_good fC_good)
theorem in_f_X5_prefix_X2 : ∀ w ∈ wsX20, w ∈ w_f_X5_prefix := fun _ h => List.mem_cons_of_mem _ (List.mem_append_right _ (List.mem_append_right _ (List.mem_append_right _ (List.mem_append_left _ h))))
theorem in_f_X5_prefix_X5 : ∀ w ∈ wsX50, w ∈ w_f_X5_prefix := fun _ h => List.mem_cons_of_mem _ (List.mem_append_right _ (List.mem_append_right _ (List.mem_append_right _ (List.mem_append_right _ (List.mem_append_right _ (List.mem_append_left _ h))))))
theorem hd_f_X5_prefix : yX5_prefix.cls = RX5 ∧ yX5_prefix.cls ≠ "java/lang/invoke/MethodHandle" ∧ yX5_prefix.cls ≠ "java/lang/invoke/VarHandle" ∧ (parseMethodDescriptor yX5_prefix.desc).map (fun d => d.parameters.length) = some 2 := by decide +kernel
theorem gg_f_X5_prefix_X2_advance : GoodIn w_f_X5_prefix w_f_X2_advance := goodIn_sub (fun w h => (List.mem_cons.mp h).elim (fun e => (List.mem_cons_of_mem _ (List.mem_append_left _ (List.mem_append_right _ (List.mem_append_right _ (List.mem_append_right _ (List.mem_append_left _ (List.mem_cons.mpr (Or.inl e))))))))) (fun h => (List.mem_append.mp h).elim (fun h => (List.mem_cons_of_mem _ (List.mem_append_left _ (List.mem_append_right _ (List.mem_append_right _ (List.mem_append_right _ (List.mem_append_left _ (List.mem_cons_of_mem _ h)))))))) (fun h => List.mem_cons_of_mem _ (List.mem_append_right _ h)))) w_f_X2_advance_good
theorem g_f_X5_prefix_X2_advance_V30 : GoodIn w_f_X5_prefix (wsV RX5 30 RX2 yX2_advance w_f_X2_advance) := goodIn_app (nb_g4 (List.mem_cons_of_mem _ (List.mem_append_left _ (List.mem_append_left _ (List.mem_of_getElem? (i := 10) rfl)))) (List.mem_cons_of_mem _ (List.mem_append_left _ (List.mem_append_left _ (List.mem_of_getElem? (i := 11) rfl)))) (List.mem_cons_of_mem _ (List.mem_append_left _ (List.mem_append_left _ (List.mem_of_getElem? (i := 12) rfl)))) (List.mem_cons_of_mem _ (List.mem_append_left _ (List.mem_append_left _ (List.mem_of_getElem? (i := 13) rfl)))) (by decide +kernel)) gg_f_X5_prefix_X2_advance
theorem gg_f_X5_prefix_X5_expect : GoodIn w_f_X5_prefix w_f_X5_expect := goodIn_sub (fun w h => (List.mem_cons.mp h).elim (fun e => (List.mem_cons_of_mem _ (List.mem_append_left _ (List.mem_append_right _ (List.mem_append_right _ (List.mem_append_right _ (List.mem_append_right _ (List.mem_append_right _ (List.mem_append_left _ (List.mem_cons.mpr (Or.inl e))))))))))) (fun h => (List.mem_append.mp h).elim (fun h => (List.mem_cons_of_mem _ (List.mem_append_left _ (List.mem_append_right _ (List.mem_append_right _ (List.mem_append_right _ (List.mem_append_right _ (List.mem_append_right _ (List.mem_append_left _ (List.mem_cons_of_mem _ h)))))))))) (fun h => List.mem_cons_of_mem _ (List.mem_append_right _ h)))) w_f_X5_expect_good
theorem g_f_X5_prefix_X5_expect_V141 : GoodIn w_f_X5_prefix (wsV RX5 141 RX5 yX5_expect w_f_X5_expect) := goodIn_app (nb_g4 (List.mem_cons_of_mem _ (List.mem_append_left _ (List.mem_append_left _ (List.mem_of_getElem? (i := 17) rfl)))) (List.mem_cons_of_mem _ (List.mem_append_left _ (List.mem_append_left _ (List.mem_of_getElem? (i := 18) rfl)))) (List.mem_cons_of_mem _ (List.mem_append_left _ (List.mem_append_left _ (List.mem_of_getElem? (i := 19) rfl)))) (List.mem_cons_of_mem _ (List.mem_append_left _ (List.mem_append_left _ (List.mem_of_getElem? (i := 5) rfl)))) (by decide +kernel)) gg_f_X5_prefix_X5_expect
theorem gg_f_X5_prefix_X5_postpone : GoodIn w_f_X5_prefix w_f_X5_postpone := goodIn_sub (fun w h => (List.mem_cons.mp h).elim (fun e => (List.mem_cons_of_mem _ (List.mem_append_left _ (List.mem_append_right _ (List.mem_append_right _ (List.mem_append_right _ (List.mem_append_right _ (List.mem_append_left _ (List.mem_cons.mpr (Or.inl e)))))))))) (fun h => (List.mem_append.mp h).elim (fun h => (List.mem_cons_of_mem _ (List.mem_append_left _ (List.mem_append_right _ (List.mem_append_right _ (List.mem_append_right _ (List.mem_append_right _ (List.mem_append_left _ (List.mem_cons_of_mem _ h))))))))) (fun h => List.mem_cons_of_mem _ (List.mem_append_right _ h)))) w_f_X5_postpone_good
theorem g_f_X5_prefix_X5_postpone_V372 : GoodIn w_f_X5_prefix (wsV RX5 372 RX5 yX5_postpone w_f_X5_postpone) := goodIn_app (nb_g4 (List.mem_cons_of_mem _ (List.mem_append_left _ (List.mem_append_left _ (List.mem_of_getElem? (i := 14) rfl)))) (List.mem_cons_of_mem _ (List.mem_append_left _ (List.mem_append_left _ (List.mem_of_getElem? (i := 15) rfl)))) (List.mem_cons_of_mem _ (List.mem_append_left _ (List.mem_append_left _ (List.mem_of_getElem? (i := 16) rfl)))) (List.mem_cons_of_mem _ (List.mem_append_left _ (List.mem_append_left _ (List.mem_of_getElem? (i := 5) rfl)))) (by decide +kernel)) gg_f_X5_prefix_X5_postpone
theorem gg_f_X5_prefix_X5_refuse : GoodIn w_f_X5_prefix w_f_X5_refuse := goodIn_sub (fun w h => (List.mem_cons.mp h).elim (fun e => (List.mem_cons_of_mem _ (List.mem_append_left _ (List.mem_append_right _ (List.mem_append_right _ (List.mem_append_left _ (List.mem_cons.mpr (Or.inl e)))))))) (fun h => (List.mem_append.mp h).elim (fun h => (List.mem_cons_of_mem _ (List.mem_append_left _ (List.mem_append_right _ (List.mem_append_right _ (List.mem_append_left _ (List.mem_cons_of_mem _ h))))))) (fun h => List.mem_cons_of_mem _ (List.mem_append_right _ h)))) w_f_X5_refuse_good
theorem g_f_X5_prefix_X5_refuse_V125 : GoodIn w_f_X5_prefix (wsV RX5 125 RX5 yX5_refuse w_f_X5_refuse) := goodIn_app (nb_g4 (List.mem_cons_of_mem _ (List.mem_append_left _ (List.mem_append_left _ (List.mem_of_getElem? (i := 7) rfl)))) (List.mem_cons_of_mem _ (List.mem_append_left _ (List.mem_append_left _ (List.mem_of_getElem? (i := 8) rfl)))) (List.mem_cons_of_mem _ (List.mem_append_left _ (List.mem_append_left _ (List.mem_of_getElem? (i := 9) rfl)))) (List.mem_cons_of_mem _ (List.mem_append_left _ (List.mem_append_left _ (List.mem_of_getElem? (i := 5) rfl)))) (by decide +kernel)) gg_f_X5_prefix_X5_refuse
theorem gg_f_X5_prefix_X5_postponedLevel : GoodIn w_f_X5_prefix w_y_X5_postponedLevel := goodIn_sub (fun w h => (List.mem_cons.mp h).elim (fun e => (List.mem_cons_of_mem _ (List.mem_append_left _ (List.mem_append_right _ (List.mem_append_left _ (List.mem_cons.mpr (Or.inl e))))))) (fun h => (List.mem_append.mp h).elim (fun h => (List.mem_cons_of_mem _ (List.mem_append_left _ (List.mem_append_right _ (List.mem_append_left _ (List.mem_cons_of_mem _ h)))))) (fun h => List.mem_cons_of_mem _ (List.mem_append_right _ h)))) w_y_X5_postponedLevel_good
theorem g_y_X5_prefix_X5_postponedLevel_V369 : GoodIn w_f_X5_prefix (wsV RX5 369 RX5 yX5_postponedLevel w_y_X5_postponedLevel) := goodIn_app (nb_g4 (List.mem_cons_of_mem _ (List.mem_append_left _ (List.mem_append_left _ (List.mem_of_getElem? (i := 2) rfl)))) (List.mem_cons_of_mem _ (List.mem_append_left _ (List.mem_append_left _ (List.mem_of_getElem? (i := 3) rfl)))) (List.mem_cons_of_mem _ (List.mem_append_left _ (List.mem_append_left _ (List.mem_of_getElem? (i := 4) rfl)))) (List.mem_cons_of_mem _ (List.mem_append_left _ (List.mem_append_left _ (List.mem_of_getElem? (i := 5) rfl)))) (by decide +kernel)) gg_f_X5_prefix_X5_postponedLevel
set_option maxHeartbeats 40000000 in
set_option maxRecDepth 100000 in
theorem c_f_X5_prefix (l : Launch) (hl0 : l.stackTraces = false) (dC : Nat → ClassId) (dI : Nat → Nat → Nat) (cy : Nat → ClassId) (ek a : Nat → Nat) (k0 : Nat) (L0 : LV) (σ0 : CS) (r0 : RS) (h0 : f_X5_prefix k0 0 L0 σ0 = some r0) (z : Nat → Nat) (sz : Nat) : vx_Met l yX5_prefix w_f_X5_prefix ({ frames := 8, cells := r0.2.2.1, slots := r0.2.2.2, locals := 147 }) (va_Pc [.ref (a 40), .int (L0.1 1), .int (L0.1 2)] (nInF (dC, dI) cy ek sz (vC cy a z σ0))) (xI dC dI cy a (va_A (vC cy a z σ0) sz) [41] z r0) (xX dC dI cy a (va_A (vC cy a z σ0) sz) [41] z r0) r0.2.2.1 r0.2.2.2 (va_A (vC cy a z σ0) sz) := by
  refine vx_ofW (cc := cX5_prefix) (maxL := 6) (ret := (some .boolean)) (by decide) rfl ?_
  intro p e s m args below meth c s₁ B hml hno hv
  obtain ⟨rfl, ⟨⟨hsz, hP, hK, hD0, hG⟩, hE⟩, hT⟩ := hv
  have hx := B.exec
  have hb := B.bytes
  have hr := B.returns
  have hts := atoms_spec (ws := w_f_X5_prefix) B.pre
  have hown : s.vm.findClass RX5 = some m.cls := findClass_of_methodNamed B.named
  have hlocks := B.notSynchronized
  subst hsz
  have hD := hD0.self (sz := s.heap.size)
  generalize hAe : va_A (vC cy a z σ0) s.heap.size = A at hD hE hT ⊢
  have hA : ∀ q : Nat, s.heap.size ≤ q → A q := fun q h => by rw [← hAe]; exact Or.inr h
  have hS : va_S A s.heap s.heap [] := va_S.rf
  have hl := lv_entry ([.ref (a 40), .int (L0.1 1), .int (L0.1 2)]) (n := 6) (Nat.le_of_ble_eq_true rfl)
  rw [lg_entry_eq]
  generalize (lg_sl ([.ref (a 40), .int (L0.1 1), .int (L0.1 2)]) ++ List.replicate (6 - (lg_sl ([.ref (a 40), .int (L0.1 1), .int (L0.1 2)])).length) Slot.unset).toArray = ls at hl ⊢
  have hl : lv_has ls 6 [(0, .ref (a 40)), (1, .int (L0.1 1)), (2, .int (L0.1 2))] := hl
  generalize hmc : r0.2.2.1 = mc
  generalize hms : r0.2.2.2 = ms
  have blk : ∀ k : Nat, (bX p l e (headSpec w_f_X5_prefix ({ frames := 8, cells := mc, slots := ms, locals := 147 })).room s m #[.ref (a 40), .int (L0.1 1), .int (L0.1 2)] below meth c dC dI cy a A (fun r => vx_MQ below (xI dC dI cy a A [41] z r) (xX dC dI cy a A [41] z r) #[.ref (a 40), .int (L0.1 1), .int (L0.1 2)] s mc ms A) [41] z mc ms 6 (f_X5_prefix k 0) (fun z L => [(0, .ref (a 40)), (1, .int (L.1 1)), (2, .int (L.1 2))]) 0 (fun z L => [])) ∧ (bX p l e (headSpec w_f_X5_prefix ({ frames := 8, cells := mc, slots := ms, locals := 147 })).room s m #[.ref (a 40), .int (L0.1 1), .int (L0.1 2)] below meth c dC dI cy a A (fun r => vx_MQ below (xI dC dI cy a A [41] z r) (xX dC dI cy a A [41] z r) #[.ref (a 40), .int (L0.1 1), .int (L0.1 2)] s mc ms A) [41] z mc ms 6 (f_X5_prefix k 1) (fun z L => [(0, .ref (a 40)), (3, .int (L.1 3))]) 39 (fun z L => [])) ∧ (bX p l e (headSpec w_f_X5_prefix ({ frames := 8, cells := mc, slots := ms, locals := 147 })).room s m #[.ref (a 40), .int (L0.1 1), .int (L0.1 2)] below meth c dC dI cy a A (fun r => vx_MQ below (xI dC dI cy a A [41] z r) (xX dC dI cy a A [41] z r) #[.ref (a 40), .int (L0.1 1), .int (L0.1 2)] s mc ms A) [41] z mc ms 6 (f_X5_prefix k 2) (fun z L => [(0, .ref (a 40)), (1, .int (L.1 1)), (3, .int (L.1 3))]) 26 (fun z L => [])) ∧ (bX p l e (headSpec w_f_X5_prefix ({ frames := 8, cells := mc, slots := ms, locals := 147 })).room s m #[.ref (a 40), .int (L0.1 1), .int (L0.1 2)] below meth c dC dI cy a A (fun r => vx_MQ below (xI dC dI cy a A [41] z r) (xX dC dI cy a A [41] z r) #[.ref (a 40), .int (L0.1 1), .int (L0.1 2)] s mc ms A) [41] z mc ms 6 (f_X5_prefix k 3) (fun z L => [(0, .ref (a 40)), (3, .int (L.1 3))]) 31 (fun z L => [.int (L.1 100)])) ∧ (bX p l e (headSpec w_f_X5_prefix ({ frames := 8, cells := mc, slots := ms, locals := 147 })).room s m #[.ref (a 40), .int (L0.1 1), .int (L0.1 2)] below meth c dC dI cy a A (fun r => vx_MQ below (xI dC dI cy a A [41] z r) (xX dC dI cy a A [41] z r) #[.ref (a 40), .int (L0.1 1), .int (L0.1 2)] s mc ms A) [41] z mc ms 6 (f_X5_prefix k 4) (fun z L => [(0, .ref (a 40)), (3, .int (L.1 3))]) 40 (fun z L => [.int (L.1 100)])) ∧ (bX p l e (headSpec w_f_X5_prefix ({ frames := 8, cells := mc, slots := ms, locals := 147 })).room s m #[.ref (a 40), .int (L0.1 1), .int (L0.1 2)] below meth c dC dI cy a A (fun r => vx_MQ below (xI dC dI cy a A [41] z r) (xX dC dI cy a A [41] z r) #[.ref (a 40), .int (L0.1 1), .int (L0.1 2)] s mc ms A) [41] z mc ms 6 (f_X5_prefix k 5) (fun z L => [(0, .ref (a 40)), (3, .int (L.1 3)), (4, .int (L.1 4))]) 52 (fun z L => [])) ∧ (bX p l e (headSpec w_f_X5_prefix ({ frames := 8, cells := mc, slots := ms, locals := 147 })).room s m #[.ref (a 40), .int (L0.1 1), .int (L0.1 2)] below meth c dC dI cy a A (fun r => vx_MQ below (xI dC dI cy a A [41] z r) (xX dC dI cy a A [41] z r) #[.ref (a 40), .int (L0.1 1), .int (L0.1 2)] s mc ms A) [41] z mc ms 6 (f_X5_prefix k 6) (fun z L => [(0, .ref (a 40)), (3, .int (L.1 3)), (4, .int (L.1 4))]) 83 (fun z L => [.int (L.1 100)])) ∧ (bX p l e (headSpec w_f_X5_prefix ({ frames := 8, cells := mc, slots := ms, locals := 147 })).room s m #[.ref (a 40), .int (L0.1 1), .int (L0.1 2)] below meth c dC dI cy a A (fun r => vx_MQ below (xI dC dI cy a A [41] z r) (xX dC dI cy a A [41] z r) #[.ref (a 40), .int (L0.1 1), .int (L0.1 2)] s mc ms A) [41] z mc ms 6 (f_X5_prefix k 7) (fun z L => [(0, .ref (a 40)), (3, .int (L.1 3)), (4, .int (L.1 4))]) 62 (fun z L => [])) ∧ (bX p l e (headSpec w_f_X5_prefix ({ frames := 8, cells := mc, slots := ms, locals := 147 })).room s m #[.ref (a 40), .int (L0.1 1), .int (L0.1 2)] below meth c dC dI cy a A (fun r => vx_MQ below (xI dC dI cy a A [41] z r) (xX dC dI cy a A [41] z r) #[.ref (a 40), .int (L0.1 1), .int (L0.1 2)] s mc ms A) [41] z mc ms 6 (f_X5_prefix k 8) (fun z L => [(0, .ref (a 40)), (3, .int (L.1 3)), (4, .int (L.1 4)), (5, .int (L.1 5))]) 110 (fun z L => [])) ∧ (bX p l e (headSpec w_f_X5_prefix ({ frames := 8, cells := mc, slots := ms, locals := 147 })).room s m #[.ref (a 40), .int (L0.1 1), .int (L0.1 2)] below meth c dC dI cy a A (fun r => vx_MQ below (xI dC dI cy a A [41] z r) (xX dC dI cy a A [41] z r) #[.ref (a 40), .int (L0.1 1), .int (L0.1 2)] s mc ms A) [41] z mc ms 6 (f_X5_prefix k 9) (fun z L => [(0, .ref (a 40)), (3, .int (L.1 3)), (4, .int (L.1 4))]) 72 (fun z L => [])) ∧ (bX p l e (headSpec w_f_X5_prefix ({ frames := 8, cells := mc, slots := ms, locals := 147 })).room s m #[.ref (a 40), .int (L0.1 1), .int (L0.1 2)] below meth c dC dI cy a A (fun r => vx_MQ below (xI dC dI cy a A [41] z r) (xX dC dI cy a A [41] z r) #[.ref (a 40), .int (L0.1 1), .int (L0.1 2)] s mc ms A) [41] z mc ms 6 (f_X5_prefix k 10) (fun z L => [(0, .ref (a 40)), (3, .int (L.1 3)), (4, .int (L.1 4)), (5, .int (L.1 5))]) 131 (fun z L => [])) ∧ (bX p l e (headSpec w_f_X5_prefix ({ frames := 8, cells := mc, slots := ms, locals := 147 })).room s m #[.ref (a 40), .int (L0.1 1), .int (L0.1 2)] below meth c dC dI cy a A (fun r => vx_MQ below (xI dC dI cy a A [41] z r) (xX dC dI cy a A [41] z r) #[.ref (a 40), .int (L0.1 1), .int (L0.1 2)] s mc ms A) [41] z mc ms 6 (f_X5_prefix k 11) (fun z L => [(0, .ref (a 40)), (3, .int (L.1 3)), (4, .int (L.1 4))]) 82 (fun z L => [])) ∧ (bX p l e (headSpec w_f_X5_prefix ({ frames := 8, cells := mc, slots := ms, locals := 147 })).room s m #[.ref (a 40), .int (L0.1 1), .int (L0.1 2)] below meth c dC dI cy a A (fun r => vx_MQ below (xI dC dI cy a A [41] z r) (xX dC dI cy a A [41] z r) #[.ref (a 40), .int (L0.1 1), .int (L0.1 2)] s mc ms A) [41] z mc ms 6 (f_X5_prefix k 12) (fun z L => [(0, .ref (a 40)), (3, .int (L.1 3)), (5, .int (L.1 5))]) 164 (fun z L => [])) ∧ (bX p l e (headSpec w_f_X5_prefix ({ frames := 8, cells := mc, slots := ms, locals := 147 })).room s m #[.ref (a 40), .int (L0.1 1), .int (L0.1 2)] below meth c dC dI cy a A (fun r => vx_MQ below (xI dC dI cy a A [41] z r) (xX dC dI cy a A [41] z r) #[.ref (a 40), .int (L0.1 1), .int (L0.1 2)] s mc ms A) [41] z mc ms 6 (f_X5_prefix k 13) (fun z L => []) 211 (fun z L => [])) ∧ (bX p l e (headSpec w_f_X5_prefix ({ frames := 8, cells := mc, slots := ms, locals := 147 })).room s m #[.ref (a 40), .int (L0.1 1), .int (L0.1 2)] below meth c dC dI cy a A (fun r => vx_MQ below (xI dC dI cy a A [41] z r) (xX dC dI cy a A [41] z r) #[.ref (a 40), .int (L0.1 1), .int (L0.1 2)] s mc ms A) [41] z mc ms 6 (f_X5_prefix k 14) (fun z L => [(0, .ref (a 40)), (5, .int (L.1 5))]) 195 (fun z L => [])) ∧ (bX p l e (headSpec w_f_X5_prefix ({ frames := 8, cells := mc, slots := ms, locals := 147 })).room s m #[.ref (a 40), .int (L0.1 1), .int (L0.1 2)] below meth c dC dI cy a A (fun r => vx_MQ below (xI dC dI cy a A [41] z r) (xX dC dI cy a A [41] z r) #[.ref (a 40), .int (L0.1 1), .int (L0.1 2)] s mc ms A) [41] z mc ms 6 (f_X5_prefix k 15) (fun z L => []) 185 (fun z L => [.int (L.1 100), .ref (a 40)])) ∧ (bX p l e (headSpec w_f_X5_prefix ({ frames := 8, cells := mc, slots := ms, locals := 147 })).room s m #[.ref (a 40), .int (L0.1 1), .int (L0.1 2)] below meth c dC dI cy a A (fun r => vx_MQ below (xI dC dI cy a A [41] z r) (xX dC dI cy a A [41] z r) #[.ref (a 40), .int (L0.1 1), .int (L0.1 2)] s mc ms A) [41] z mc ms 6 (f_X5_prefix k 16) (fun z L => []) 188 (fun z L => [.int (L.1 100), .int (L.1 101), .ref (a 40)])) := by
    intro k
    induction k with
    | zero => exact ⟨fun z c1 c2 L σ r h => (by cases h), fun z c1 c2 L σ r h => (by cases h), fun z c1 c2 L σ r h => (by cases h), fun z c1 c2 L σ r h => (by cases h), fun z c1 c2 L σ r h => (by cases h), fun z c1 c2 L σ r h => (by cases h), fun z c1 c2 L σ r h => (by cases h), fun z c1 c2 L σ r h => (by cases h), fun z c1 c2 L σ r h => (by cases h), fun z c1 c2 L σ r h => (by cases h), fun z c1 c2 L σ r h => (by cases h), fun z c1 c2 L σ r h => (by cases h), fun z c1 c2 L σ r h => (by cases h), fun z c1 c2 L σ r h => (by cases h), fun z c1 c2 L σ r h => (by cases h), fun z c1 c2 L σ r h => (by cases h), fun z c1 c2 L σ r h => (by cases h)⟩
    | succ k ih =>
      refine ⟨?_, ?_, ?_, ?_, ?_, ?_, ?_, ?_, ?_, ?_, ?_, ?_, ?_, ?_, ?_, ?_, ?_⟩
      · intro z cells slots L σ r h hzk hc hs H locs ls hP hD hS hl
        rw [f_X5_prefix] at h
        refine lv_aload_n hx hb dX5_prefix_0 rfl (lv_at hl 0 rfl) ?_
        refine hg_40_0 hx hb hts in_f_X5_prefix_X5 hown hK hP (hts _ (List.mem_cons_of_mem _ (List.mem_append_left _ (List.mem_append_left _ (List.mem_of_getElem? (i := 0) rfl))))) dX5_prefix_1 ?_
        refine hg_37_2n hx hb hts in_f_X5_prefix_X2 hown hK hP (va_Nw.use rfl (hG.1 _ (List.mem_of_getElem? (i := 52) rfl))) dX5_prefix_4 ?_
        refine lv_istore_n (lv' := [(3, .int (σ.1 3702)), (0, .ref (a 40)), (1, .int (L.1 1)), (2, .int (L.1 2))]) hx hb dX5_prefix_7 rfl hl (by decide) rfl (fun ls hl => ?_)
        refine lv_iload_n hx hb dX5_prefix_8 rfl (lv_at hl 0 rfl) ?_
        refine lv_bipush (v := 66) hx hb dX5_prefix_9 (by decide) ?_
        refine lv_icmp_ne (tgt := 39) hx hb dX5_prefix_11 (by decide) (fun c1 => ?_) (fun c1 => ?_)
        · rw [if_neg c1] at h
          exact ih.2.1 z _ _ (lI L 3 ((σ.1 3702))) σ _ h hzk hc hs H locs ls hP hD hS (lv_sub hl [1, 0] rfl)
        · rw [if_pos c1] at h
          refine lv_aload_n hx hb dX5_prefix_14 rfl (lv_at hl 1 rfl) ?_
          refine hg_40_11 hx hb hts in_f_X5_prefix_X5 hown hK hP (hts _ (List.mem_cons_of_mem _ (List.mem_append_left _ (List.mem_append_left _ (List.mem_of_getElem? (i := 1) rfl))))) dX5_prefix_15 ?_
          refine lv_iload_n hx hb dX5_prefix_18 rfl (lv_at hl 2 rfl) ?_
          refine lv_icmp_ne (tgt := 26) hx hb dX5_prefix_19 (by decide) (fun c2 => ?_) (fun c2 => ?_)
          · rw [if_neg c2] at h
            exact ih.2.2.1 z _ _ (lI L 3 ((σ.1 3702))) σ _ h hzk hc hs H locs ls hP hD hS (lv_sub hl [1, 2, 0] rfl)
          · rw [if_pos c2] at h
            refine lv_iload_n hx hb dX5_prefix_22 rfl (lv_at hl 3 rfl) ?_
            refine lv_goto (tgt := 31) hx hb dX5_prefix_23 (by decide) ?_
            exact ih.2.2.2.1 z _ _ (lI (lI L 3 ((σ.1 3702))) 100 ((L.1 2))) σ _ h hzk hc hs H locs ls hP hD hS (lv_sub hl [1, 0] rfl)
      · intro z cells slots L σ r h hzk hc hs H locs ls hP hD hS hl
        rw [f_X5_prefix] at h
        refine lv_iconst (v := 0) hx hb dX5_prefix_39 (by decide) ?_
        exact ih.2.2.2.2.1 z _ _ (lI L 100 0) σ _ h hzk hc hs H locs ls hP hD hS (lv_sub hl [0, 1] rfl)
      · intro z cells slots L σ r h hzk hc hs H locs ls hP hD hS hl
        rw [f_X5_prefix] at h
        refine lv_aload_n hx hb dX5_prefix_26 rfl (lv_at hl 0 rfl) ?_
        refine lv_iload_n hx hb dX5_prefix_27 rfl (lv_at hl 1 rfl) ?_
        obtain ⟨r1, hc1, h⟩ := op_ex h
        refine kc_i (va_runV (As := [.int (L.1 1)]) (rest := []) ⟨hx, hb, hml, hown, hts⟩ (c_y_X5_postponedLevel l dC dI cy a z k (lI lZ 1 ((L.1 1))) σ r1 hc1 H.size) (cwV 1 hts g_y_X5_prefix_X5_postponedLevel_V369 rfl rfl rfl hd_y_X5_postponedLevel ⟨Nat.le_of_ble_eq_true rfl, Nat.le_of_ble_eq_true rfl⟩) ⟨nb_blind, va_recv hK hP (ci := 4) (q0 := 40) rfl rfl, (kb_pre hK hG hP hD)⟩ rfl rfl hl.1 rfl (lv_room (Nat.le_of_ble_eq_true rfl)) dX5_prefix_28 ⟨(Nat.le_trans (Nat.le_add_right _ _) (Nat.le_of_eq hc)), (Nat.le_trans (Nat.le_add_right _ _) (Nat.le_of_eq hs))⟩) hA hP hD hS (fun H locs hP hD hS => ?_)
        exact ih.2.2.2.1 z _ _ (lI L 100 r1.1) r1.2 _ h hzk hc hs H locs ls hP hD hS (lv_sub hl [0, 2] rfl)
      · intro z cells slots L σ r h hzk hc hs H locs ls hP hD hS hl
        rw [f_X5_prefix] at h
        refine lv_iconst (v := 2) hx hb dX5_prefix_31 (by decide) ?_
        refine lv_icmp_gt (tgt := 39) hx hb dX5_prefix_32 (by decide) (fun c1 => ?_) (fun c1 => ?_)
        · rw [if_pos c1] at h
          exact ih.2.1 z _ _ L σ _ h hzk hc hs H locs ls hP hD hS (lv_sub hl [0, 1] rfl)
        · rw [if_neg c1] at h
          refine lv_iconst (v := 1) hx hb dX5_prefix_35 (by decide) ?_
          refine lv_goto (tgt := 40) hx hb dX5_prefix_36 (by decide) ?_
          exact ih.2.2.2.2.1 z _ _ (lI L 100 1) σ _ h hzk hc hs H locs ls hP hD hS (lv_sub hl [0, 1] rfl)
      · intro z cells slots L σ r h hzk hc hs H locs ls hP hD hS hl
        rw [f_X5_prefix] at h
        refine lv_istore (lv' := [(4, .int (L.1 100)), (0, .ref (a 40)), (3, .int (L.1 3))]) hx hb dX5_prefix_40 hl (by decide) rfl (fun ls hl => ?_)
        refine lv_iload_n hx hb dX5_prefix_42 rfl (lv_at hl 2 rfl) ?_
        refine lv_bipush (v := 6) hx hb dX5_prefix_43 (by decide) ?_
        refine lv_icmp_ne (tgt := 52) hx hb dX5_prefix_45 (by decide) (fun c1 => ?_) (fun c1 => ?_)
        · rw [if_neg c1] at h
          exact ih.2.2.2.2.2.1 z _ _ (lI L 4 ((L.1 100))) σ _ h hzk hc hs H locs ls hP hD hS (lv_sub hl [1, 2, 0] rfl)
        · rw [if_pos c1] at h
          refine lv_iconst (v := 0) hx hb dX5_prefix_48 (by decide) ?_
          refine lv_goto (tgt := 83) hx hb dX5_prefix_49 (by decide) ?_
          exact ih.2.2.2.2.2.2.1 z _ _ (lI (lI L 4 ((L.1 100))) 100 0) σ _ h hzk hc hs H locs ls hP hD hS (lv_sub hl [1, 2, 0] rfl)
      · intro z cells slots L σ r h hzk hc hs H locs ls hP hD hS hl
        rw [f_X5_prefix] at h
        refine lv_iload_n hx hb dX5_prefix_52 rfl (lv_at hl 1 rfl) ?_
        refine lv_bipush (v := 8) hx hb dX5_prefix_53 (by decide) ?_
        refine lv_icmp_ne (tgt := 62) hx hb dX5_prefix_55 (by decide) (fun c1 => ?_) (fun c1 => ?_)
        · rw [if_neg c1] at h
          exact ih.2.2.2.2.2.2.2.1 z _ _ L σ _ h hzk hc hs H locs ls hP hD hS (lv_sub hl [0, 1, 2] rfl)
        · rw [if_pos c1] at h
          refine lv_iconst (v := 1) hx hb dX5_prefix_58 (by decide) ?_
          refine lv_goto (tgt := 83) hx hb dX5_prefix_59 (by decide) ?_
          exact ih.2.2.2.2.2.2.1 z _ _ (lI L 100 1) σ _ h hzk hc hs H locs ls hP hD hS (lv_sub hl [0, 1, 2] rfl)
      · intro z cells slots L σ r h hzk hc hs H locs ls hP hD hS hl
        rw [f_X5_prefix] at h
        refine lv_istore (lv' := [(5, .int (L.1 100)), (0, .ref (a 40)), (3, .int (L.1 3)), (4, .int (L.1 4))]) hx hb dX5_prefix_83 hl (by decide) rfl (fun ls hl => ?_)
        refine lv_iload hx hb dX5_prefix_85 (lv_at hl 3 rfl) ?_
        refine lv_if_ne (tgt := 110) hx hb dX5_prefix_87 (by decide) (fun c1 => ?_) (fun c1 => ?_)
        · rw [if_neg c1] at h
          exact ih.2.2.2.2.2.2.2.2.1 z _ _ (lI L 5 ((L.1 100))) σ _ h hzk hc hs H locs ls hP hD hS (lv_sub hl [1, 2, 3, 0] rfl)
        · rw [if_pos c1] at h
          refine lv_iload hx hb dX5_prefix_90 (lv_at hl 0 rfl) ?_
          refine lv_iconst (v := (-1)) hx hb dX5_prefix_92 (by decide) ?_
          refine lv_icmp_ne (tgt := 110) hx hb dX5_prefix_93 (by decide) (fun c2 => ?_) (fun c2 => ?_)
          · rw [if_neg c2] at h
            exact ih.2.2.2.2.2.2.2.2.1 z _ _ (lI L 5 ((L.1 100))) σ _ h hzk hc hs H locs ls hP hD hS (lv_sub hl [1, 2, 3, 0] rfl)
          · rw [if_pos c2] at h
            refine lv_iload_n hx hb dX5_prefix_96 rfl (lv_at hl 2 rfl) ?_
            refine lv_bipush (v := 7) hx hb dX5_prefix_97 (by decide) ?_
            refine lv_icmp_eq (tgt := 110) hx hb dX5_prefix_99 (by decide) (fun c3 => ?_) (fun c3 => ?_)
            · rw [if_pos c3] at h
              exact ih.2.2.2.2.2.2.2.2.1 z _ _ (lI L 5 ((L.1 100))) σ _ h hzk hc hs H locs ls hP hD hS (lv_sub hl [1, 2, 3, 0] rfl)
            · rw [if_neg c3] at h
              refine lv_iload_n hx hb dX5_prefix_102 rfl (lv_at hl 2 rfl) ?_
              refine lv_bipush (v := 26) hx hb dX5_prefix_103 (by decide) ?_
              refine lv_icmp_eq (tgt := 110) hx hb dX5_prefix_105 (by decide) (fun c4 => ?_) (fun c4 => ?_)
              · rw [if_pos c4] at h
                exact ih.2.2.2.2.2.2.2.2.1 z _ _ (lI L 5 ((L.1 100))) σ _ h hzk hc hs H locs ls hP hD hS (lv_sub hl [1, 2, 3, 0] rfl)
              · rw [if_neg c4] at h
                refine lv_iconst (v := 0) hx hb dX5_prefix_108 (by decide) ?_
                obtain rfl := Option.some.inj h
                subst hc
                subst hs
                exact xr_z (Or.inl rfl) hx hb hr hK hzk hP hD hS hlocks dX5_prefix_109
      · intro z cells slots L σ r h hzk hc hs H locs ls hP hD hS hl
        rw [f_X5_prefix] at h
        refine lv_iload_n hx hb dX5_prefix_62 rfl (lv_at hl 1 rfl) ?_
        refine lv_bipush (v := 81) hx hb dX5_prefix_63 (by decide) ?_
        refine lv_icmp_ne (tgt := 72) hx hb dX5_prefix_65 (by decide) (fun c1 => ?_) (fun c1 => ?_)
        · rw [if_neg c1] at h
          exact ih.2.2.2.2.2.2.2.2.2.1 z _ _ L σ _ h hzk hc hs H locs ls hP hD hS (lv_sub hl [0, 1, 2] rfl)
        · rw [if_pos c1] at h
          refine lv_iconst (v := 2) hx hb dX5_prefix_68 (by decide) ?_
          refine lv_goto (tgt := 83) hx hb dX5_prefix_69 (by decide) ?_
          exact ih.2.2.2.2.2.2.1 z _ _ (lI L 100 2) σ _ h hzk hc hs H locs ls hP hD hS (lv_sub hl [0, 1, 2] rfl)
      · intro z cells slots L σ r h hzk hc hs H locs ls hP hD hS hl
        rw [f_X5_prefix] at h
        refine lv_aload_n hx hb dX5_prefix_110 rfl (lv_at hl 0 rfl) ?_
        refine hg_40_5 hx hb hts in_f_X5_prefix_X5 hown hK hP (hts _ (List.mem_cons_of_mem _ (List.mem_append_left _ (List.mem_append_left _ (List.mem_of_getElem? (i := 6) rfl))))) dX5_prefix_111 ?_
        refine lv_bipush (v := 20) hx hb dX5_prefix_114 (by decide) ?_
        refine lv_icmp_lt (tgt := 131) hx hb dX5_prefix_116 (by decide) (fun c1 => ?_) (fun c1 => ?_)
        · rw [if_pos c1] at h
          exact ih.2.2.2.2.2.2.2.2.2.2.1 z _ _ L σ _ h hzk hc hs H locs ls hP hD hS (lv_sub hl [0, 1, 2, 3] rfl)
        · rw [if_neg c1] at h
          refine lv_aload_n hx hb dX5_prefix_119 rfl (lv_at hl 0 rfl) ?_
          refine lv_iconst (v := 3) hx hb dX5_prefix_120 (by decide) ?_
          refine lv_aload_n hx hb dX5_prefix_121 rfl (lv_at hl 0 rfl) ?_
          refine hg_40_0 hx hb hts in_f_X5_prefix_X5 hown hK hP (hts _ (List.mem_cons_of_mem _ (List.mem_append_left _ (List.mem_append_left _ (List.mem_of_getElem? (i := 0) rfl))))) dX5_prefix_122 ?_
          refine hg_37_3n hx hb hts in_f_X5_prefix_X2 hown hK hP (va_Nw.use rfl (hG.1 _ (List.mem_of_getElem? (i := 54) rfl))) dX5_prefix_125 ?_
          obtain ⟨r2, hc2, hle2, h9⟩ := ox_ex h
          clear h
          refine kx_v (vx_runV (As := [.int 3, .int (σ.1 3703)]) (rest := []) ⟨hx, hb, hml, hown, hts⟩ (c_f_X5_refuse l hl0 dC dI cy ek a k (lI (lI lZ 1 3) 2 ((σ.1 3703))) σ r2 hc2 z H.size) (cwV 2 hts g_f_X5_prefix_X5_refuse_V125 rfl rfl rfl hd_f_X5_refuse ⟨Nat.le_of_ble_eq_true rfl, Nat.le_of_ble_eq_true rfl⟩) ⟨nb_blindF, va_recv hK hP (ci := 4) (q0 := 40) rfl rfl, (kx_pre hK hG hE hT hA hP hD hS)⟩ rfl rfl hl.1 rfl (lv_room (Nat.le_of_ble_eq_true rfl)) dX5_prefix_128 ⟨Nat.le_trans (Nat.add_le_add_left hle2.1 _) (Nat.le_of_eq hc), Nat.le_trans (Nat.add_le_add_left hle2.2 _) (Nat.le_of_eq hs)⟩) hK hA hzk hP hD hS (by decide) hno hlocks ?_
          rcases h9 with ⟨h00, y2, hny2, hy⟩ | ⟨h00, hy⟩
          · subst hy
            have h := hny2
            refine Or.inl ⟨h00, fun u H locs hz2 hzk hP hD hS => ?_⟩
            obtain rfl := (zk_nil hz2).symm
            replace hc := (Nat.add_assoc _ _ _).trans hc
            replace hs := (Nat.add_assoc _ _ _).trans hs
            exact ih.2.2.2.2.2.2.2.2.2.2.1 z _ _ L r2.2.1 _ h hzk hc hs H locs ls hP hD hS (lv_sub hl [0, 1, 2, 3] rfl)
          · subst hy
            exact Or.inr ⟨h00, rfl, hc, hs⟩
      · intro z cells slots L σ r h hzk hc hs H locs ls hP hD hS hl
        rw [f_X5_prefix] at h
        refine lv_iload_n hx hb dX5_prefix_72 rfl (lv_at hl 1 rfl) ?_
        refine lv_bipush (v := 80) hx hb dX5_prefix_73 (by decide) ?_
        refine lv_icmp_ne (tgt := 82) hx hb dX5_prefix_75 (by decide) (fun c1 => ?_) (fun c1 => ?_)
        · rw [if_neg c1] at h
          exact ih.2.2.2.2.2.2.2.2.2.2.2.1 z _ _ L σ _ h hzk hc hs H locs ls hP hD hS (lv_sub hl [0, 1, 2] rfl)
        · rw [if_pos c1] at h
          refine lv_iconst (v := 3) hx hb dX5_prefix_78 (by decide) ?_
          refine lv_goto (tgt := 83) hx hb dX5_prefix_79 (by decide) ?_
          exact ih.2.2.2.2.2.2.1 z _ _ (lI L 100 3) σ _ h hzk hc hs H locs ls hP hD hS (lv_sub hl [0, 1, 2] rfl)
      · intro z cells slots L σ r h hzk hc hs H locs ls hP hD hS hl
        rw [f_X5_prefix] at h
        refine lv_aload_n hx hb dX5_prefix_131 rfl (lv_at hl 0 rfl) ?_
        refine lv_dup hx hb dX5_prefix_132 rfl ?_
        refine hg_40_5 hx hb hts in_f_X5_prefix_X5 hown hK hP (hts _ (List.mem_cons_of_mem _ (List.mem_append_left _ (List.mem_append_left _ (List.mem_of_getElem? (i := 6) rfl))))) dX5_prefix_133 ?_
        refine lv_iconst (v := 1) hx hb dX5_prefix_136 (by decide) ?_
        refine lv_iadd hx hb dX5_prefix_137 ?_
        refine hp_40_5 hx hb hts in_f_X5_prefix_X5 hown hK hP hD hS (hts _ (List.mem_cons_of_mem _ (List.mem_append_left _ (List.mem_append_left _ (List.mem_of_getElem? (i := 6) rfl))))) dX5_prefix_138 (fun H locs hP hD hS => ?_)
        refine lv_aload_n hx hb dX5_prefix_141 rfl (lv_at hl 0 rfl) ?_
        refine hg_40_0 hx hb hts in_f_X5_prefix_X5 hown hK hP (hts _ (List.mem_cons_of_mem _ (List.mem_append_left _ (List.mem_append_left _ (List.mem_of_getElem? (i := 0) rfl))))) dX5_prefix_142 ?_
        obtain ⟨r1, hc1, hle1, h9⟩ := ox_ex h
        clear h
        refine kx_v (vx_runV (As := []) (rest := []) ⟨hx, hb, hml, hown, hts⟩ (c_f_X2_advance l hl0 dC dI cy ek a k lZ (uI σ 4005 ((((σ.1 4005)) + 1))) r1 hc1 z H.size) (cwV 0 hts g_f_X5_prefix_X2_advance_V30 rfl rfl rfl hd_f_X2_advance ⟨Nat.le_of_ble_eq_true rfl, Nat.le_of_ble_eq_true rfl⟩) ⟨nb_blindF, va_recv hK hP (ci := 2) (q0 := 37) rfl rfl, (kx_pre hK hG hE hT hA hP hD hS)⟩ rfl rfl hl.1 rfl (lv_room (Nat.le_of_ble_eq_true rfl)) dX5_prefix_145 ⟨Nat.le_trans (Nat.add_le_add_left hle1.1 _) (Nat.le_of_eq hc), Nat.le_trans (Nat.add_le_add_left hle1.2 _) (Nat.le_of_eq hs)⟩) hK hA hzk hP hD hS (by decide) hno hlocks ?_
        rcases h9 with ⟨h00, y1, hny1, hy⟩ | ⟨h00, hy⟩
        · subst hy
          have h := hny1
          refine Or.inl ⟨h00, fun u H locs hz1 hzk hP hD hS => ?_⟩
          obtain rfl := (zk_nil hz1).symm
          replace hc := (Nat.add_assoc _ _ _).trans hc
          replace hs := (Nat.add_assoc _ _ _).trans hs
          refine lv_iload hx hb dX5_prefix_148 (lv_at hl 2 rfl) ?_
          refine lv_if_eq (tgt := 164) hx hb dX5_prefix_150 (by decide) (fun c2 => ?_) (fun c2 => ?_)
          · rw [if_pos c2] at h
            exact ih.2.2.2.2.2.2.2.2.2.2.2.2.1 z _ _ L r1.2.1 _ h hzk hc hs H locs ls hP hD hS (lv_sub hl [0, 1, 3] rfl)
          · rw [if_neg c2] at h
            refine lv_aload_n hx hb dX5_prefix_153 rfl (lv_at hl 0 rfl) ?_
            refine lv_iconst (v := 2) hx hb dX5_prefix_154 (by decide) ?_
            refine lv_bipush (v := 9) hx hb dX5_prefix_155 (by decide) ?_
            refine lv_iconst (v := 0) hx hb dX5_prefix_157 (by decide) ?_
            obtain ⟨r3, hc3, hle3, h9⟩ := ox_ex h
            clear h
            refine kx_v (r := y1) (vx_runV (As := [.int 2, .int 9, .int 0]) (rest := []) ⟨hx, hb, hml, hown, hts⟩ (c_f_X5_postpone l hl0 dC dI cy ek a k (lI (lI (lI lZ 1 2) 2 9) 3 0) r1.2.1 r3 hc3 z H.size) (cwV 3 hts g_f_X5_prefix_X5_postpone_V372 rfl rfl rfl hd_f_X5_postpone ⟨Nat.le_of_ble_eq_true rfl, Nat.le_of_ble_eq_true rfl⟩) ⟨nb_blindF, va_recv hK hP (ci := 4) (q0 := 40) rfl rfl, (kx_pre hK hG hE hT hA hP hD hS)⟩ rfl rfl hl.1 rfl (lv_room (Nat.le_of_ble_eq_true rfl)) dX5_prefix_158 ⟨Nat.le_trans (Nat.add_le_add_left hle3.1 _) (Nat.le_of_eq hc), Nat.le_trans (Nat.add_le_add_left hle3.2 _) (Nat.le_of_eq hs)⟩) hK hA hzk hP hD hS (by decide) hno hlocks ?_
            rcases h9 with ⟨h00, y3, hny3, hy⟩ | ⟨h00, hy⟩
            · subst hy
              have h := hny3
              refine Or.inl ⟨h00, fun z H locs hz3 hzk hP hD hS => ?_⟩
              replace hc := (Nat.add_assoc _ _ _).trans hc
              replace hs := (Nat.add_assoc _ _ _).trans hs
              refine lv_goto (tgt := 211) hx hb dX5_prefix_161 (by decide) ?_
              exact ih.2.2.2.2.2.2.2.2.2.2.2.2.2.1 z _ _ L r3.2.1 _ h hzk hc hs H locs ls hP hD hS (lv_sub hl [] rfl)
            · subst hy
              exact Or.inr ⟨h00, rfl, hc, hs⟩
        · subst hy
          exact Or.inr ⟨h00, rfl, hc, hs⟩
      · intro z cells slots L σ r h hzk hc hs H locs ls hP hD hS hl
        rw [f_X5_prefix] at h
        refine lv_iconst (v := (-1)) hx hb dX5_prefix_82 (by decide) ?_
        exact ih.2.2.2.2.2.2.1 z _ _ (lI L 100 ((-1))) σ _ h hzk hc hs H locs ls hP hD hS (lv_sub hl [0, 1, 2] rfl)
      · intro z cells slots L σ r h hzk hc hs H locs ls hP hD hS hl
        rw [f_X5_prefix] at h
        refine lv_iload hx hb dX5_prefix_164 (lv_at hl 2 rfl) ?_
        refine lv_iconst (v := (-1)) hx hb dX5_prefix_166 (by decide) ?_
        refine lv_icmp_ne (tgt := 195) hx hb dX5_prefix_167 (by decide) (fun c1 => ?_) (fun c1 => ?_)
        · rw [if_neg c1] at h
          exact ih.2.2.2.2.2.2.2.2.2.2.2.2.2.2.1 z _ _ L σ _ h hzk hc hs H locs ls hP hD hS (lv_sub hl [0, 2] rfl)
        · rw [if_pos c1] at h
          refine lv_aload_n hx hb dX5_prefix_170 rfl (lv_at hl 0 rfl) ?_
          refine lv_bipush (v := 7) hx hb dX5_prefix_171 (by decide) ?_
          refine lv_iload_n hx hb dX5_prefix_173 rfl (lv_at hl 1 rfl) ?_
          refine lv_bipush (v := 7) hx hb dX5_prefix_174 (by decide) ?_
          refine lv_icmp_ne (tgt := 185) hx hb dX5_prefix_176 (by decide) (fun c2 => ?_) (fun c2 => ?_)
          · rw [if_neg c2] at h
            exact ih.2.2.2.2.2.2.2.2.2.2.2.2.2.2.2.1 z _ _ (lI L 100 7) σ _ h hzk hc hs H locs ls hP hD hS (lv_sub hl [] rfl)
          · rw [if_pos c2] at h
            refine lv_sipush (v := 160) hx hb dX5_prefix_179 (by decide) ?_
            refine lv_goto (tgt := 188) hx hb dX5_prefix_182 (by decide) ?_
            exact ih.2.2.2.2.2.2.2.2.2.2.2.2.2.2.2.2 z _ _ (lI (lI L 100 160) 101 7) σ _ h hzk hc hs H locs ls hP hD hS (lv_sub hl [] rfl)
      · intro z cells slots L σ r h hzk hc hs H locs ls hP hD hS hl
        rw [f_X5_prefix] at h
        refine lv_iconst (v := 1) hx hb dX5_prefix_211 (by decide) ?_
        obtain rfl := Option.some.inj h
        subst hc
        subst hs
        exact xr_z (Or.inr rfl) hx hb hr hK hzk hP hD hS hlocks dX5_prefix_212
      · intro z cells slots L σ r h hzk hc hs H locs ls hP hD hS hl
        rw [f_X5_prefix] at h
        refine lv_aload_n hx hb dX5_prefix_195 rfl (lv_at hl 0 rfl) ?_
        refine lv_bipush (v := 27) hx hb dX5_prefix_196 (by decide) ?_
        obtain ⟨r1, hc1, hle1, h9⟩ := ox_ex h
        clear h
        refine kx_v (vx_runV (As := [.int 27]) (rest := []) ⟨hx, hb, hml, hown, hts⟩ (c_f_X5_expect l hl0 dC dI cy ek a k (lI lZ 1 27) σ r1 hc1 z H.size) (cwV 1 hts g_f_X5_prefix_X5_expect_V141 rfl rfl rfl hd_f_X5_expect ⟨Nat.le_of_ble_eq_true rfl, Nat.le_of_ble_eq_true rfl⟩) ⟨nb_blindF, va_recv hK hP (ci := 4) (q0 := 40) rfl rfl, (kx_pre hK hG hE hT hA hP hD hS)⟩ rfl rfl hl.1 rfl (lv_room (Nat.le_of_ble_eq_true rfl)) dX5_prefix_198 ⟨Nat.le_trans (Nat.add_le_add_left hle1.1 _) (Nat.le_of_eq hc), Nat.le_trans (Nat.add_le_add_left hle1.2 _) (Nat.le_of_eq hs)⟩) hK hA hzk hP hD hS (by decide) hno hlocks ?_
        rcases h9 with ⟨h00, y1, hny1, hy⟩ | ⟨h00, hy⟩
        · subst hy
          have h := hny1
          refine Or.inl ⟨h00, fun u H locs hz1 hzk hP hD hS => ?_⟩
          obtain rfl := (zk_nil hz1).symm
          replace hc := (Nat.add_assoc _ _ _).trans hc
          replace hs := (Nat.add_assoc _ _ _).trans hs
          refine lv_aload_n hx hb dX5_prefix_201 rfl (lv_at hl 0 rfl) ?_
          refine lv_bipush (v := 7) hx hb dX5_prefix_202 (by decide) ?_
          refine lv_bipush (v := 112) hx hb dX5_prefix_204 (by decide) ?_
          refine lv_iload hx hb dX5_prefix_206 (lv_at hl 1 rfl) ?_
          obtain ⟨r2, hc2, hle2, h9⟩ := ox_ex h
          clear h
          refine kx_v (r := y1) (vx_runV (As := [.int 7, .int 112, .int (L.1 5)]) (rest := []) ⟨hx, hb, hml, hown, hts⟩ (c_f_X5_postpone l hl0 dC dI cy ek a k (lI (lI (lI lZ 1 7) 2 112) 3 ((L.1 5))) r1.2.1 r2 hc2 z H.size) (cwV 3 hts g_f_X5_prefix_X5_postpone_V372 rfl rfl rfl hd_f_X5_postpone ⟨Nat.le_of_ble_eq_true rfl, Nat.le_of_ble_eq_true rfl⟩) ⟨nb_blindF, va_recv hK hP (ci := 4) (q0 := 40) rfl rfl, (kx_pre hK hG hE hT hA hP hD hS)⟩ rfl rfl hl.1 rfl (lv_room (Nat.le_of_ble_eq_true rfl)) dX5_prefix_208 ⟨Nat.le_trans (Nat.add_le_add_left hle2.1 _) (Nat.le_of_eq hc), Nat.le_trans (Nat.add_le_add_left hle2.2 _) (Nat.le_of_eq hs)⟩) hK hA hzk hP hD hS (by decide) hno hlocks ?_
          rcases h9 with ⟨h00, y2, hny2, hy⟩ | ⟨h00, hy⟩
          · subst hy
            have h := hny2
            refine Or.inl ⟨h00, fun z H locs hz2 hzk hP hD hS => ?_⟩
            replace hc := (Nat.add_assoc _ _ _).trans hc
            replace hs := (Nat.add_assoc _ _ _).trans hs
            exact ih.2.2.2.2.2.2.2.2.2.2.2.2.2.1 z _ _ L r2.2.1 _ h hzk hc hs H locs ls hP hD hS (lv_sub hl [] rfl)
          · subst hy
            exact Or.inr ⟨h00, rfl, hc, hs⟩
        · subst hy
          exact Or.inr ⟨h00, rfl, hc, hs⟩
      · intro z cells slots L σ r h hzk hc hs H locs ls hP hD hS hl
        rw [f_X5_prefix] at h
        refine lv_sipush (v := 161) hx hb dX5_prefix_185 (by decide) ?_
        exact ih.2.2.2.2.2.2.2.2.2.2.2.2.2.2.2.2 z _ _ (lI (lI L 100 161) 101 ((L.1 100))) σ _ h hzk hc hs H locs ls hP hD hS (lv_sub hl [] rfl)
      · intro z cells slots L σ r h hzk hc hs H locs ls hP hD hS hl
        rw [f_X5_prefix] at h
        refine lv_iconst (v := 0) hx hb dX5_prefix_188 (by decide) ?_
        obtain ⟨r1, hc1, hle1, h9⟩ := ox_ex h
        clear h
        refine kx_v (vx_runV (As := [.int (L.1 101), .int (L.1 100), .int 0]) (rest := []) ⟨hx, hb, hml, hown, hts⟩ (c_f_X5_postpone l hl0 dC dI cy ek a k (lI (lI (lI lZ 1 ((L.1 101))) 2 ((L.1 100))) 3 0) σ r1 hc1 z H.size) (cwV 3 hts g_f_X5_prefix_X5_postpone_V372 rfl rfl rfl hd_f_X5_postpone ⟨Nat.le_of_ble_eq_true rfl, Nat.le_of_ble_eq_true rfl⟩) ⟨nb_blindF, va_recv hK hP (ci := 4) (q0 := 40) rfl rfl, (kx_pre hK hG hE hT hA hP hD hS)⟩ rfl rfl hl.1 rfl (lv_room (Nat.le_of_ble_eq_true rfl)) dX5_prefix_189 ⟨Nat.le_trans (Nat.add_le_add_left hle1.1 _) (Nat.le_of_eq hc), Nat.le_trans (Nat.add_le_add_left hle1.2 _) (Nat.le_of_eq hs)⟩) hK hA hzk hP hD hS (by decide) hno hlocks ?_
        rcases h9 with ⟨h00, y1, hny1, hy⟩ | ⟨h00, hy⟩
        · subst hy
          have h := hny1
          refine Or.inl ⟨h00, fun z H locs hz1 hzk hP hD hS => ?_⟩
          replace hc := (Nat.add_assoc _ _ _).trans hc
          replace hs := (Nat.add_assoc _ _ _).trans hs
          refine lv_goto (tgt := 211) hx hb dX5_prefix_192 (by decide) ?_
          exact ih.2.2.2.2.2.2.2.2.2.2.2.2.2.1 z _ _ L r1.2.1 _ h hzk hc hs H locs ls hP hD hS (lv_sub hl [] rfl)
        · subst hy
          exact Or.inr ⟨h00, rfl, hc, hs⟩
  exact (blk k0).1 z 0 0 L0 σ0 r0 h0 (zk_rf _ _) ((Nat.zero_add _).trans hmc) ((Nat.zero_add _).trans hms) s.heap [] ls hP hD hS hl
/-! X5_takenName -/
def f_X5_takenName : Nat → Nat → LV → CS → Option RS
  | 0, _, _, _ => none
  | k + 1, 0, L, σ => ox (f_X2_advance k 0 lZ σ) (fun r1 => oP (sPp r1.2.1) (fun b2 => op (y_X7_found__P k 0 (lJ (lJ (lB lZ 0 b2) 1 ((σ.2.1 3705))) 3 ((σ.2.1 3706))) r1.2.1) (fun r3 => some ((0, r3.1), r3.2, (0, 0)))))
  | _ + 1, _ + 1, _, _ => none
def o_f_X5_takenName : List Cond := [.fieldLink RX5 18 "SetHouse$Parser" "lex" "LSetHouse$Lexer;", .methodLink RX5 30 yX2_advance, .instanceMethod yX2_advance, .selects RX2 yX2_advance yX2_advance, .initialized RX2, .fieldLink RX5 93 "SetHouse$Parser" "p" "LSetHouse$Program;", .methodLink RX5 283 yX7_found, .instanceMethod yX7_found, .selects RX7 yX7_found yX7_found, .initialized RX7]
theorem o_f_X5_takenName_good : o_f_X5_takenName.all goodWord = true := by decide +kernel
def p_f_X5_takenName : List Cond := o_f_X5_takenName ++ ((.code yX2_advance cX2_advance 7 none :: p_f_X2_advance) ++ ((.code yX7_found cX7_found 6 (some .int) :: p_y_X7_found__P) ++ []))
theorem p_f_X5_takenName_good : p_f_X5_takenName.all goodWord = true := nb_all2 o_f_X5_takenName_good (nb_all2 (nb_allc (by decide +kernel) p_f_X2_advance_good) (nb_all2 (nb_allc (by decide +kernel) p_y_X7_found__P_good) rfl))
def w_f_X5_takenName : List Cond := .code yX5_takenName cX5_takenName 5 (some .int) :: (p_f_X5_takenName ++ fC)
theorem w_f_X5_takenName_good : w_f_X5_takenName.all goodWord = true := nb_allc (by decide +kernel) (nb_all2 p_f_X5_takenName_good fC_good)
theorem in_f_X5_takenName_X2 : ∀ w ∈ wsX20, w ∈ w_f_X5_takenName := fun _ h => List.mem_cons_of_mem _ (List.mem_append_right _ (List.mem_append_right _ (List.mem_append_right _ (List.mem_append_left _ h))))
theorem in_f_X5_takenName_X5 : ∀ w ∈ wsX50, w ∈ w_f_X5_takenName := fun _ h => List.mem_cons_of_mem _ (List.mem_append_right _ (List.mem_append_right _ (List.mem_append_right _ (List.mem_append_right _ (List.mem_append_right _ (List.mem_append_left _ h))))))
theorem hd_f_X5_takenName : yX5_takenName.cls = RX5 ∧ yX5_takenName.cls ≠ "java/lang/invoke/MethodHandle" ∧ yX5_takenName.cls ≠ "java/lang/invoke/VarHandle" ∧ (parseMethodDescriptor yX5_takenName.desc).map (fun d => d.parameters.length) = some 0 := by decide +kernel
theorem gg_f_X5_takenName_X2_advance : GoodIn w_f_X5_takenName w_f_X2_advance := goodIn_sub (fun w h => (List.mem_cons.mp h).elim (fun e => (List.mem_cons_of_mem _ (List.mem_append_left _ (List.mem_append_right _ (List.mem_append_left _ (List.mem_cons.mpr (Or.inl e))))))) (fun h => (List.mem_append.mp h).elim (fun h => (List.mem_cons_of_mem _ (List.mem_append_left _ (List.mem_append_right _ (List.mem_append_left _ (List.mem_cons_of_mem _ h)))))) (fun h => List.mem_cons_of_mem _ (List.mem_append_right _ h)))) w_f_X2_advance_good
theorem g_f_X5_takenName_X2_advance_V30 : GoodIn w_f_X5_takenName (wsV RX5 30 RX2 yX2_advance w_f_X2_advance) := goodIn_app (nb_g4 (List.mem_cons_of_mem _ (List.mem_append_left _ (List.mem_append_left _ (List.mem_of_getElem? (i := 1) rfl)))) (List.mem_cons_of_mem _ (List.mem_append_left _ (List.mem_append_left _ (List.mem_of_getElem? (i := 2) rfl)))) (List.mem_cons_of_mem _ (List.mem_append_left _ (List.mem_append_left _ (List.mem_of_getElem? (i := 3) rfl)))) (List.mem_cons_of_mem _ (List.mem_append_left _ (List.mem_append_left _ (List.mem_of_getElem? (i := 4) rfl)))) (by decide +kernel)) gg_f_X5_takenName_X2_advance
theorem gg_f_X5_takenName_X7_found__P : GoodIn w_f_X5_takenName w_y_X7_found__P := goodIn_sub (fun w h => (List.mem_cons.mp h).elim (fun e => (List.mem_cons_of_mem _ (List.mem_append_left _ (List.mem_append_right _ (List.mem_append_right _ (List.mem_append_left _ (List.mem_cons.mpr (Or.inl e)))))))) (fun h => (List.mem_append.mp h).elim (fun h => (List.mem_cons_of_mem _ (List.mem_append_left _ (List.mem_append_right _ (List.mem_append_right _ (List.mem_append_left _ (List.mem_cons_of_mem _ h))))))) (fun h => List.mem_cons_of_mem _ (List.mem_append_right _ h)))) w_y_X7_found__P_good
theorem g_y_X5_takenName_X7_found__P_V283 : GoodIn w_f_X5_takenName (wsV RX5 283 RX7 yX7_found w_y_X7_found__P) := goodIn_app (nb_g4 (List.mem_cons_of_mem _ (List.mem_append_left _ (List.mem_append_left _ (List.mem_of_getElem? (i := 6) rfl)))) (List.mem_cons_of_mem _ (List.mem_append_left _ (List.mem_append_left _ (List.mem_of_getElem? (i := 7) rfl)))) (List.mem_cons_of_mem _ (List.mem_append_left _ (List.mem_append_left _ (List.mem_of_getElem? (i := 8) rfl)))) (List.mem_cons_of_mem _ (List.mem_append_left _ (List.mem_append_left _ (List.mem_of_getElem? (i := 9) rfl)))) (by decide +kernel)) gg_f_X5_takenName_X7_found__P
set_option maxHeartbeats 40000000 in
set_option maxRecDepth 100000 in
theorem c_f_X5_takenName (l : Launch) (hl0 : l.stackTraces = false) (dC : Nat → ClassId) (dI : Nat → Nat → Nat) (cy : Nat → ClassId) (ek a : Nat → Nat) (k0 : Nat) (L0 : LV) (σ0 : CS) (r0 : RS) (h0 : f_X5_takenName k0 0 L0 σ0 = some r0) (z : Nat → Nat) (sz : Nat) : vx_Met l yX5_takenName w_f_X5_takenName ({ frames := 7, cells := r0.2.2.1, slots := r0.2.2.2, locals := 126 }) (va_Pc [.ref (a 40)] (nInF (dC, dI) cy ek sz (vC cy a z σ0))) (xI dC dI cy a (va_A (vC cy a z σ0) sz) [] z r0) (xX dC dI cy a (va_A (vC cy a z σ0) sz) [] z r0) r0.2.2.1 r0.2.2.2 (va_A (vC cy a z σ0) sz) := by
  refine vx_ofW (cc := cX5_takenName) (maxL := 5) (ret := (some .int)) (by decide) rfl ?_
  intro p e s m args below meth c s₁ B hml hno hv
  obtain ⟨rfl, ⟨⟨hsz, hP, hK, hD0, hG⟩, hE⟩, hT⟩ := hv
  have hx := B.exec
  have hb := B.bytes
  have hr := B.returns
  have hts := atoms_spec (ws := w_f_X5_takenName) B.pre
  have hown : s.vm.findClass RX5 = some m.cls := findClass_of_methodNamed B.named
  have hlocks := B.notSynchronized
  subst hsz
  have hD := hD0.self (sz := s.heap.size)
  generalize hAe : va_A (vC cy a z σ0) s.heap.size = A at hD hE hT ⊢
  have hA : ∀ q : Nat, s.heap.size ≤ q → A q := fun q h => by rw [← hAe]; exact Or.inr h
  have hS : va_S A s.heap s.heap [] := va_S.rf
  have hl := lv_entry ([.ref (a 40)]) (n := 5) (Nat.le_of_ble_eq_true rfl)
  rw [lg_entry_eq]
  generalize (lg_sl ([.ref (a 40)]) ++ List.replicate (5 - (lg_sl ([.ref (a 40)])).length) Slot.unset).toArray = ls at hl ⊢
  have hl : lv_has ls 5 [(0, .ref (a 40))] := hl
  generalize hmc : r0.2.2.1 = mc
  generalize hms : r0.2.2.2 = ms
  have blk : ∀ k : Nat, (bX p l e (headSpec w_f_X5_takenName ({ frames := 7, cells := mc, slots := ms, locals := 126 })).room s m #[.ref (a 40)] below meth c dC dI cy a A (fun r => vx_MQ below (xI dC dI cy a A [] z r) (xX dC dI cy a A [] z r) #[.ref (a 40)] s mc ms A) [] z mc ms 5 (f_X5_takenName k 0) (fun z L => [(0, .ref (a 40))]) 0 (fun z L => [])) := by
    intro k
    induction k with
    | zero => exact fun z c1 c2 L σ r h => (by cases h)
    | succ k ih =>
      skip
      · intro z cells slots L σ r h hzk hc hs H locs ls hP hD hS hl
        rw [f_X5_takenName] at h
        refine lv_aload_n hx hb dX5_takenName_0 rfl (lv_at hl 0 rfl) ?_
        refine hg_40_0 hx hb hts in_f_X5_takenName_X5 hown hK hP (hts _ (List.mem_cons_of_mem _ (List.mem_append_left _ (List.mem_append_left _ (List.mem_of_getElem? (i := 0) rfl))))) dX5_takenName_1 ?_
        refine hg_37_5n hx hb hts in_f_X5_takenName_X2 hown hK hP (va_Nw.use rfl (hG.1 _ (List.mem_of_getElem? (i := 58) rfl))) dX5_takenName_4 ?_
        refine lv_lstore_n (lv' := [(1, .long (σ.2.1 3705)), (0, .ref (a 40))]) hx hb dX5_takenName_7 rfl hl (by decide) rfl (fun ls hl => ?_)
        refine lv_aload_n hx hb dX5_takenName_8 rfl (lv_at hl 1 rfl) ?_
        refine hg_40_0 hx hb hts in_f_X5_takenName_X5 hown hK hP (hts _ (List.mem_cons_of_mem _ (List.mem_append_left _ (List.mem_append_left _ (List.mem_of_getElem? (i := 0) rfl))))) dX5_takenName_9 ?_
        refine hg_37_6n hx hb hts in_f_X5_takenName_X2 hown hK hP (va_Nw.use rfl (hG.1 _ (List.mem_of_getElem? (i := 60) rfl))) dX5_takenName_12 ?_
        refine lv_lstore_n (lv' := [(3, .long (σ.2.1 3706)), (1, .long (σ.2.1 3705)), (0, .ref (a 40))]) hx hb dX5_takenName_15 rfl hl (by decide) rfl (fun ls hl => ?_)
        refine lv_aload_n hx hb dX5_takenName_16 rfl (lv_at hl 2 rfl) ?_
        refine hg_40_0 hx hb hts in_f_X5_takenName_X5 hown hK hP (hts _ (List.mem_cons_of_mem _ (List.mem_append_left _ (List.mem_append_left _ (List.mem_of_getElem? (i := 0) rfl))))) dX5_takenName_17 ?_
        obtain ⟨r1, hc1, hle1, h9⟩ := ox_ex h
        clear h
        refine kx_v (vx_runV (As := []) (rest := []) ⟨hx, hb, hml, hown, hts⟩ (c_f_X2_advance l hl0 dC dI cy ek a k lZ σ r1 hc1 z H.size) (cwV 0 hts g_f_X5_takenName_X2_advance_V30 rfl rfl rfl hd_f_X2_advance ⟨Nat.le_of_ble_eq_true rfl, Nat.le_of_ble_eq_true rfl⟩) ⟨nb_blindF, va_recv hK hP (ci := 2) (q0 := 37) rfl rfl, (kx_pre hK hG hE hT hA hP hD hS)⟩ rfl rfl hl.1 rfl (lv_room (Nat.le_of_ble_eq_true rfl)) dX5_takenName_20 ⟨Nat.le_trans (Nat.add_le_add_left hle1.1 _) (Nat.le_of_eq hc), Nat.le_trans (Nat.add_le_add_left hle1.2 _) (Nat.le_of_eq hs)⟩) hK hA hzk hP hD hS (by decide) hno hlocks ?_
        rcases h9 with ⟨h00, y1, hny1, hy⟩ | ⟨h00, hy⟩
        · subst hy
          have h := hny1
          refine Or.inl ⟨h00, fun u H locs hz1 hzk hP hD hS => ?_⟩
          obtain rfl := (zk_nil hz1).symm
          replace hc := (Nat.add_assoc _ _ _).trans hc
          replace hs := (Nat.add_assoc _ _ _).trans hs
          refine lv_aload_n hx hb dX5_takenName_23 rfl (lv_at hl 2 rfl) ?_
          obtain ⟨b2, hb2, h⟩ := oP_ex h
          refine hgq_40_2 hx hb hts in_f_X5_takenName_X5 hown hK hP (hts _ (List.mem_cons_of_mem _ (List.mem_append_left _ (List.mem_append_left _ (List.mem_of_getElem? (i := 5) rfl))))) hb2 dX5_takenName_24 ?_
          refine lv_lload_n hx hb dX5_takenName_27 rfl (lv_at hl 1 rfl) ?_
          refine lv_lload_n hx hb dX5_takenName_28 rfl (lv_at hl 0 rfl) ?_
          obtain ⟨r3, hc3, h⟩ := op_ex h
          refine kc_i (va_runV (As := [.long (σ.2.1 3705), .long (σ.2.1 3706)]) (rest := []) ⟨hx, hb, hml, hown, hts⟩ (c_y_X7_found__P l dC dI cy a z k (lJ (lJ (lB lZ 0 b2) 1 ((σ.2.1 3705))) 3 ((σ.2.1 3706))) r1.2.1 r3 hc3 H.size) (cwV 2 hts g_y_X5_takenName_X7_found__P_V283 rfl rfl rfl hd_y_X7_found__P ⟨Nat.le_of_ble_eq_true rfl, Nat.le_of_ble_eq_true rfl⟩) ⟨nb_blind, recvP b2 hK hP, (kb_pre hK hG hP hD)⟩ rfl rfl hl.1 rfl (lv_room (Nat.le_of_ble_eq_true rfl)) dX5_takenName_29 ⟨(Nat.le_trans (Nat.le_add_right _ _) (Nat.le_of_eq hc)), (Nat.le_trans (Nat.le_add_right _ _) (Nat.le_of_eq hs))⟩) hA hP hD hS (fun H locs hP hD hS => ?_)
          obtain rfl := Option.some.inj h
          subst hc
          subst hs
          exact xr_i hx hb hr hK hzk hP hD hS hlocks dX5_takenName_32
        · subst hy
          exact Or.inr ⟨h00, rfl, hc, hs⟩
  exact (blk k0) z 0 0 L0 σ0 r0 h0 (zk_rf _ _) ((Nat.zero_add _).trans hmc) ((Nat.zero_add _).trans hms) s.heap [] ls hP hD hS hl
/-! X7_widen__P -/
def f_X7_widen__P : Nat → Nat → LV → CS → Option RS
  | 0, _, _, _ => none
  | k + 1, 0, L, σ => if ((((σ.1 (fP ((L.2.2.1 0)) 1))) + ((L.1 1)))) ≤ ((Int32.ofNat (sN σ (pR0 ((sKd σ ((L.2.2.1 0)))))))) then (f_X7_widen__P k 1 L σ) else (if 36864 ≤ ((Int32.ofNat (sN σ (pR0 ((sKd σ ((L.2.2.1 0)))))))) then (f_X7_widen__P k 1 L σ) else (if ¬ (36864 : Int32) < 0 ∧ (36864 : Int32).toNatClampNeg < 134217728 ∧ (sN σ (pR0 (sKd σ ((L.2.2.1 0))))) < 2147483648 then (if (sN σ (pR0 (sKd σ ((L.2.2.1 0))))) < (36864 : Int32).toNatClampNeg then (adR (1, (36864 : Int32).toNatClampNeg) (f_X7_widen__P k 1 L (uC σ ((L.2.2.1 0)) (36864 : Int32).toNatClampNeg))) else none) else none))
  | k + 1, 1, L, σ => if ((((σ.1 (fP ((L.2.2.1 0)) 1))) + ((L.1 1)))) ≤ ((Int32.ofNat (sN σ (pR0 ((sKd σ ((L.2.2.1 0)))))))) then (f_X7_widen__P k 2 L σ) else (some ((1, 0), σ, (1, 6)))
  | k + 1, 2, L, σ => some ((0, 0), σ, (0, 0))
  | _ + 1, _ + 3, _, _ => none
def o_f_X7_widen__P : List Cond := [.fieldLink RX7 53 "SetHouse$Program" "size" "I", .fieldLink RX7 9 "SetHouse$Program" "code" "[I", .constant RX7 88 (36864), .methodLink RX7 89 yJ7_copyOf_59c91, .static yJ7_copyOf_59c91, .initialized RJ7, .classLink RX7 95 "java/lang/IllegalArgumentException", .initialized "java/lang/IllegalArgumentException"]
theorem o_f_X7_widen__P_good : o_f_X7_widen__P.all goodWord = true := by decide +kernel
def p_f_X7_widen__P : List Cond := o_f_X7_widen__P ++ ((.code yJ7_copyOf_59c91 cJ7_copyOf_59c91 3 (some (.array .int)) :: p_f_J7_copyOf_59c91) ++ (((vx_at0 RX7 97 "java/lang/IllegalArgumentException" ["java/lang/RuntimeException", "java/lang/Exception"]).filter goodWord) ++ []))
theorem p_f_X7_widen__P_good : p_f_X7_widen__P.all goodWord = true := nb_all2 o_f_X7_widen__P_good (nb_all2 (nb_allc (by decide +kernel) p_f_J7_copyOf_59c91_good) (nb_all2 (nb_fg _) rfl))
def w_f_X7_widen__P : List Cond := .code yX7_widen cX7_widen 2 none :: (p_f_X7_widen__P ++ fC)
theorem w_f_X7_widen__P_good : w_f_X7_widen__P.all goodWord = true := nb_allc (by decide +kernel) (nb_all2 p_f_X7_widen__P_good fC_good)
theorem in_f_X7_widen__P_X7 : ∀ w ∈ wsX70, w ∈ w_f_X7_widen__P := fun _ h => List.mem_cons_of_mem _ (List.mem_append_right _ (List.mem_append_right _ (List.mem_append_right _ (List.mem_append_right _ (List.mem_append_right _ (List.mem_append_right _ (List.mem_append_right _ (List.mem_append_left _ h))))))))
theorem hd_f_X7_widen__P : yX7_widen.cls = RX7 ∧ yX7_widen.cls ≠ "java/lang/invoke/MethodHandle" ∧ yX7_widen.cls ≠ "java/lang/invoke/VarHandle" ∧ (parseMethodDescriptor yX7_widen.desc).map (fun d => d.parameters.length) = some 1 := by decide +kernel
theorem gg_f_X7_widen__P_J7_copyOf_59c91 : GoodIn w_f_X7_widen__P w_f_J7_copyOf_59c91 := goodIn_sub (fun w h => (List.mem_cons.mp h).elim (fun e => (List.mem_cons_of_mem _ (List.mem_append_left _ (List.mem_append_right _ (List.mem_append_left _ (List.mem_cons.mpr (Or.inl e))))))) (fun h => (List.mem_append.mp h).elim (fun h => (List.mem_cons_of_mem _ (List.mem_append_left _ (List.mem_append_right _ (List.mem_append_left _ (List.mem_cons_of_mem _ h)))))) (fun h => List.mem_cons_of_mem _ (List.mem_append_right _ h)))) w_f_J7_copyOf_59c91_good
theorem g_f_X7_widen__P_J7_copyOf_59c91_S89 : GoodIn w_f_X7_widen__P (va_wsS RX7 89 yJ7_copyOf_59c91 w_f_J7_copyOf_59c91) := goodIn_app (nb_g3 (List.mem_cons_of_mem _ (List.mem_append_left _ (List.mem_append_left _ (List.mem_of_getElem? (i := 3) rfl)))) (List.mem_cons_of_mem _ (List.mem_append_left _ (List.mem_append_left _ (List.mem_of_getElem? (i := 4) rfl)))) (List.mem_cons_of_mem _ (List.mem_append_left _ (List.mem_append_left _ (List.mem_of_getElem? (i := 5) rfl)))) (by decide +kernel)) gg_f_X7_widen__P_J7_copyOf_59c91
set_option maxHeartbeats 40000000 in
set_option maxRecDepth 100000 in
theorem c_f_X7_widen__P (l : Launch) (hl0 : l.stackTraces = false) (dC : Nat → ClassId) (dI : Nat → Nat → Nat) (cy : Nat → ClassId) (ek a : Nat → Nat) (k0 : Nat) (L0 : LV) (σ0 : CS) (r0 : RS) (h0 : f_X7_widen__P k0 0 L0 σ0 = some r0) (z : Nat → Nat) (sz : Nat) : vx_Met l yX7_widen w_f_X7_widen__P ({ frames := 6, cells := r0.2.2.1, slots := r0.2.2.2, locals := 100 }) (va_Pc [.ref (a (pA (L0.2.2.1 0))), .int (L0.1 1)] (nInF (dC, dI) cy ek sz (vC cy a z σ0))) (xV dC dI cy a (va_A (vC cy a z σ0) sz) [43, 51] z r0) (xX dC dI cy a (va_A (vC cy a z σ0) sz) [43, 51] z r0) r0.2.2.1 r0.2.2.2 (va_A (vC cy a z σ0) sz) := by
  refine vx_ofW (cc := cX7_widen) (maxL := 2) (ret := none) (by decide) rfl ?_
  intro p e s m args below meth c s₁ B hml hno hv
  obtain ⟨rfl, ⟨⟨hsz, hP, hK, hD0, hG⟩, hE⟩, hT⟩ := hv
  have hx := B.exec
  have hb := B.bytes
  have hr := B.returns
  have hts := atoms_spec (ws := w_f_X7_widen__P) B.pre
  have hown : s.vm.findClass RX7 = some m.cls := findClass_of_methodNamed B.named
  have hlocks := B.notSynchronized
  subst hsz
  have hD := hD0.self (sz := s.heap.size)
  generalize hAe : va_A (vC cy a z σ0) s.heap.size = A at hD hE hT ⊢
  have hA : ∀ q : Nat, s.heap.size ≤ q → A q := fun q h => by rw [← hAe]; exact Or.inr h
  have hS : va_S A s.heap s.heap [] := va_S.rf
  have hl := lv_entry ([.ref (a (pA (L0.2.2.1 0))), .int (L0.1 1)]) (n := 2) (Nat.le_of_ble_eq_true rfl)
  rw [lg_entry_eq]
  generalize (lg_sl ([.ref (a (pA (L0.2.2.1 0))), .int (L0.1 1)]) ++ List.replicate (2 - (lg_sl ([.ref (a (pA (L0.2.2.1 0))), .int (L0.1 1)])).length) Slot.unset).toArray = ls at hl ⊢
  have hl : lv_has ls 2 [(0, .ref (a (pA (L0.2.2.1 0)))), (1, .int (L0.1 1))] := hl
  generalize hmc : r0.2.2.1 = mc
  generalize hms : r0.2.2.2 = ms
  have blk : ∀ k : Nat, (bX p l e (headSpec w_f_X7_widen__P ({ frames := 6, cells := mc, slots := ms, locals := 100 })).room s m #[.ref (a (pA (L0.2.2.1 0))), .int (L0.1 1)] below meth c dC dI cy a A (fun r => vx_MQ below (xV dC dI cy a A [43, 51] z r) (xX dC dI cy a A [43, 51] z r) #[.ref (a (pA (L0.2.2.1 0))), .int (L0.1 1)] s mc ms A) [43, 51] z mc ms 2 (f_X7_widen__P k 0) (fun z L => [(0, .ref (a (pA (L.2.2.1 0)))), (1, .int (L.1 1))]) 0 (fun z L => [])) ∧ (bX p l e (headSpec w_f_X7_widen__P ({ frames := 6, cells := mc, slots := ms, locals := 100 })).room s m #[.ref (a (pA (L0.2.2.1 0))), .int (L0.1 1)] below meth c dC dI cy a A (fun r => vx_MQ below (xV dC dI cy a A [43, 51] z r) (xX dC dI cy a A [43, 51] z r) #[.ref (a (pA (L0.2.2.1 0))), .int (L0.1 1)] s mc ms A) [43, 51] z mc ms 2 (f_X7_widen__P k 1) (fun z L => [(0, .ref (a (pA (L.2.2.1 0)))), (1, .int (L.1 1))]) 37 (fun z L => [])) ∧ (bX p l e (headSpec w_f_X7_widen__P ({ frames := 6, cells := mc, slots := ms, locals := 100 })).room s m #[.ref (a (pA (L0.2.2.1 0))), .int (L0.1 1)] below meth c dC dI cy a A (fun r => vx_MQ below (xV dC dI cy a A [43, 51] z r) (xX dC dI cy a A [43, 51] z r) #[.ref (a (pA (L0.2.2.1 0))), .int (L0.1 1)] s mc ms A) [43, 51] z mc ms 2 (f_X7_widen__P k 2) (fun z L => []) 59 (fun z L => [])) := by
    intro k
    induction k with
    | zero => exact ⟨fun z c1 c2 L σ r h => (by cases h), fun z c1 c2 L σ r h => (by cases h), fun z c1 c2 L σ r h => (by cases h)⟩
    | succ k ih =>
      refine ⟨?_, ?_, ?_⟩
      · intro z cells slots L σ r h hzk hc hs H locs ls hP hD hS hl
        rw [f_X7_widen__P] at h
        refine lv_aload_n hx hb dX7_widen_0 rfl (lv_at hl 0 rfl) ?_
        refine hg_P_1 ((L.2.2.1 0)) hx hb hts in_f_X7_widen__P_X7 hown hK hP (hts _ (List.mem_cons_of_mem _ (List.mem_append_left _ (List.mem_append_left _ (List.mem_of_getElem? (i := 0) rfl))))) dX7_widen_1 ?_
        refine lv_iload_n hx hb dX7_widen_4 rfl (lv_at hl 1 rfl) ?_
        refine lv_iadd hx hb dX7_widen_5 ?_
        refine lv_aload_n hx hb dX7_widen_6 rfl (lv_at hl 0 rfl) ?_
        refine hg_P_0 ((L.2.2.1 0)) hx hb hts in_f_X7_widen__P_X7 hown hK hP (hts _ (List.mem_cons_of_mem _ (List.mem_append_left _ (List.mem_append_left _ (List.mem_of_getElem? (i := 1) rfl))))) dX7_widen_7 ?_
        refine hn_P0 ((sKd σ ((L.2.2.1 0)))) hx hb hK hP dX7_widen_10 ?_
        refine lv_icmp_le (tgt := 37) hx hb dX7_widen_11 (by decide) (fun c1 => ?_) (fun c1 => ?_)
        · rw [if_pos c1] at h
          exact ih.2.1 z _ _ L σ _ h hzk hc hs H locs ls hP hD hS (lv_sub hl [0, 1] rfl)
        · rw [if_neg c1] at h
          refine lv_aload_n hx hb dX7_widen_14 rfl (lv_at hl 0 rfl) ?_
          refine hg_P_0 ((L.2.2.1 0)) hx hb hts in_f_X7_widen__P_X7 hown hK hP (hts _ (List.mem_cons_of_mem _ (List.mem_append_left _ (List.mem_append_left _ (List.mem_of_getElem? (i := 1) rfl))))) dX7_widen_15 ?_
          refine hn_P0 ((sKd σ ((L.2.2.1 0)))) hx hb hK hP dX7_widen_18 ?_
          refine lv_ldc (v := 36864) hx hb hown (hts _ (List.mem_cons_of_mem _ (List.mem_append_left _ (List.mem_append_left _ (List.mem_of_getElem? (i := 2) rfl))))) dX7_widen_19 ?_
          refine lv_icmp_ge (tgt := 37) hx hb dX7_widen_21 (by decide) (fun c2 => ?_) (fun c2 => ?_)
          · rw [if_pos c2] at h
            exact ih.2.1 z _ _ L σ _ h hzk hc hs H locs ls hP hD hS (lv_sub hl [0, 1] rfl)
          · rw [if_neg c2] at h
            refine lv_aload_n hx hb dX7_widen_24 rfl (lv_at hl 0 rfl) ?_
            refine lv_aload_n hx hb dX7_widen_25 rfl (lv_at hl 0 rfl) ?_
            refine hg_P_0 ((L.2.2.1 0)) hx hb hts in_f_X7_widen__P_X7 hown hK hP (hts _ (List.mem_cons_of_mem _ (List.mem_append_left _ (List.mem_append_left _ (List.mem_of_getElem? (i := 1) rfl))))) dX7_widen_26 ?_
            refine lv_ldc (v := 36864) hx hb hown (hts _ (List.mem_cons_of_mem _ (List.mem_append_left _ (List.mem_append_left _ (List.mem_of_getElem? (i := 2) rfl))))) dX7_widen_29 ?_
            obtain ⟨q3, h⟩ := kr_ite1 h
            obtain ⟨q4, h⟩ := kr_ite1 h
            obtain ⟨y4, hny4, hy⟩ := adR_ex h
            subst hy
            have h := hny4
            refine hw_P_new ((L.2.2.1 0)) ⟨hx, hb, hml, hown, hts⟩ (va_cwS 2 hts g_f_X7_widen__P_J7_copyOf_59c91_S89 rfl rfl rfl (by decide +kernel) ⟨Nat.le_of_ble_eq_true rfl, Nat.le_of_ble_eq_true rfl⟩) in_f_X7_widen__P_X7 hK hG hA hP hD hS q3 q4 hl.1 (Nat.le_of_ble_eq_true rfl) dX7_widen_31 (hts _ (List.mem_cons_of_mem _ (List.mem_append_left _ (List.mem_append_left _ (List.mem_of_getElem? (i := 1) rfl))))) dX7_widen_34 (Nat.le_trans (Nat.add_le_add_left (Nat.le_add_right _ _) _) (Nat.le_of_eq hc)) (Nat.le_trans (Nat.add_le_add_left (Nat.le_add_right _ _) _) (Nat.le_of_eq hs)) (fun z H locs hz4 hP hD hS => ?_)
            have hzk := zk_tr hzk hz4 (by decide)
            replace hc := (Nat.add_assoc _ _ _).trans hc
            replace hs := (Nat.add_assoc _ _ _).trans hs
            exact ih.2.1 z _ _ L (uC σ ((L.2.2.1 0)) (36864 : Int32).toNatClampNeg) _ h hzk hc hs H locs ls hP hD hS (lv_sub hl [0, 1] rfl)
      · intro z cells slots L σ r h hzk hc hs H locs ls hP hD hS hl
        rw [f_X7_widen__P] at h
        refine lv_aload_n hx hb dX7_widen_37 rfl (lv_at hl 0 rfl) ?_
        refine hg_P_1 ((L.2.2.1 0)) hx hb hts in_f_X7_widen__P_X7 hown hK hP (hts _ (List.mem_cons_of_mem _ (List.mem_append_left _ (List.mem_append_left _ (List.mem_of_getElem? (i := 0) rfl))))) dX7_widen_38 ?_
        refine lv_iload_n hx hb dX7_widen_41 rfl (lv_at hl 1 rfl) ?_
        refine lv_iadd hx hb dX7_widen_42 ?_
        refine lv_aload_n hx hb dX7_widen_43 rfl (lv_at hl 0 rfl) ?_
        refine hg_P_0 ((L.2.2.1 0)) hx hb hts in_f_X7_widen__P_X7 hown hK hP (hts _ (List.mem_cons_of_mem _ (List.mem_append_left _ (List.mem_append_left _ (List.mem_of_getElem? (i := 1) rfl))))) dX7_widen_44 ?_
        refine hn_P0 ((sKd σ ((L.2.2.1 0)))) hx hb hK hP dX7_widen_47 ?_
        refine lv_icmp_le (tgt := 59) hx hb dX7_widen_48 (by decide) (fun c1 => ?_) (fun c1 => ?_)
        · rw [if_pos c1] at h
          exact ih.2.2 z _ _ L σ _ h hzk hc hs H locs ls hP hD hS (lv_sub hl [] rfl)
        · rw [if_neg c1] at h
          obtain rfl := Option.some.inj h
          exact vx_throw0 (cls := "java/lang/IllegalArgumentException") (names := ["java/lang/RuntimeException", "java/lang/Exception"]) hx hb hl0 hown (by decide) (by decide) (hts _ (List.mem_cons_of_mem _ (List.mem_append_left _ (List.mem_append_left _ (List.mem_of_getElem? (i := 6) rfl))))) (hts _ (List.mem_cons_of_mem _ (List.mem_append_left _ (List.mem_append_left _ (List.mem_of_getElem? (i := 7) rfl))))) (vx_hat (B := [.castable "java/lang/IllegalArgumentException" "java/lang/IllegalArgumentException", .declares (Bundle.init0 "java/lang/RuntimeException"), .declares (Bundle.init0 "java/lang/Exception"), .declares (Bundle.init0 Bundle.tN)]) (fun w h => hts w (List.mem_cons_of_mem _ (List.mem_append_left _ (List.mem_append_right _ (List.mem_append_right _ (List.mem_append_left _ h)))))) (by decide +kernel) (vx_c (va_Nw.use (by decide +kernel) (hT.2.2.1 _ (List.mem_of_getElem? (i := 1) rfl))) (vx_c (va_Nw.use (by decide +kernel) (hT.2.2.1 _ (List.mem_of_getElem? (i := 4) rfl))) (vx_c (va_Nw.use (by decide +kernel) (hT.2.2.1 _ (List.mem_of_getElem? (i := 5) rfl))) (vx_c (va_Nw.use (by decide +kernel) (hT.2.2.1 _ (List.mem_of_getElem? (i := 6) rfl))) vx_n))))) (fun w h => List.all_eq_true.mp (by decide +kernel : (Cond.classLink RX7 95 "java/lang/IllegalArgumentException" :: Cond.initialized "java/lang/IllegalArgumentException" :: (vx_at0 RX7 97 "java/lang/IllegalArgumentException" ["java/lang/RuntimeException", "java/lang/Exception"])).all vx_ot = true) w h) hT.1 hT.2.1 hS (hl.1.trans hml.symm) dX7_widen_51 dX7_widen_54 dX7_widen_55 dX7_widen_58 (fun x h => (hno x h).elim) (Nat.le_of_ble_eq_true rfl) (Nat.le_of_ble_eq_true rfl) (Nat.le_of_eq hc) (Nat.le_of_eq hs) hlocks (xt_x (n := 1) (by decide) hK hzk hP hD hS) hS.2.2 (Nat.le_of_eq hc) (Nat.le_of_eq hs)
      · intro z cells slots L σ r h hzk hc hs H locs ls hP hD hS hl
        rw [f_X7_widen__P] at h
        obtain rfl := Option.some.inj h
        subst hc
        subst hs
        exact xr_v hx hb hr hK hzk hP hD hS hlocks dX7_widen_59
  exact (blk k0).1 z 0 0 L0 σ0 r0 h0 (zk_rf _ _) ((Nat.zero_add _).trans hmc) ((Nat.zero_add _).trans hms) s.heap [] ls hP hD hS hl
/-! X7_emit__P -/
def f_X7_emit__P : Nat → Nat → LV → CS → Option RS
  | 0, _, _, _ => none
  | k + 1, 0, L, σ => ox (f_X7_widen__P k 0 (lI (lB lZ 0 ((L.2.2.1 0))) 1 1) σ) (fun r1 => if ¬ (((r1.2.1.1 (fP ((L.2.2.1 0)) 1))) < 0 ∨ (sN r1.2.1 (pR0 ((sKd r1.2.1 ((L.2.2.1 0)))))) ≤ ((r1.2.1.1 (fP ((L.2.2.1 0)) 1))).toNatClampNeg) then (some ((0, ((((uI (uA r1.2.1 (pR0 ((sKd r1.2.1 ((L.2.2.1 0))))) ((r1.2.1.1 (fP ((L.2.2.1 0)) 1))).toNatClampNeg ((((L.1 1)) ||| ((((L.1 2)) <<< ((8 : Int32) &&& 31)))))) (fP ((L.2.2.1 0)) 1) (((((uA r1.2.1 (pR0 ((sKd r1.2.1 ((L.2.2.1 0))))) ((r1.2.1.1 (fP ((L.2.2.1 0)) 1))).toNatClampNeg ((((L.1 1)) ||| ((((L.1 2)) <<< ((8 : Int32) &&& 31)))))).1 (fP ((L.2.2.1 0)) 1))) + 1))).1 (fP ((L.2.2.1 0)) 1))) - 1)), (uI (uA r1.2.1 (pR0 ((sKd r1.2.1 ((L.2.2.1 0))))) ((r1.2.1.1 (fP ((L.2.2.1 0)) 1))).toNatClampNeg ((((L.1 1)) ||| ((((L.1 2)) <<< ((8 : Int32) &&& 31)))))) (fP ((L.2.2.1 0)) 1) (((((uA r1.2.1 (pR0 ((sKd r1.2.1 ((L.2.2.1 0))))) ((r1.2.1.1 (fP ((L.2.2.1 0)) 1))).toNatClampNeg ((((L.1 1)) ||| ((((L.1 2)) <<< ((8 : Int32) &&& 31)))))).1 (fP ((L.2.2.1 0)) 1))) + 1))), (0, 0))) else none)
  | _ + 1, _ + 1, _, _ => none
def o_f_X7_emit__P : List Cond := [.methodLink RX7 85 yX7_widen, .instanceMethod yX7_widen, .selects RX7 yX7_widen yX7_widen, .initialized RX7, .fieldLink RX7 9 "SetHouse$Program" "code" "[I", .fieldLink RX7 53 "SetHouse$Program" "size" "I"]
theorem o_f_X7_emit__P_good : o_f_X7_emit__P.all goodWord = true := by decide +kernel
def p_f_X7_emit__P : List Cond := o_f_X7_emit__P ++ ((.code yX7_widen cX7_widen 2 none :: p_f_X7_widen__P) ++ [])
theorem p_f_X7_emit__P_good : p_f_X7_emit__P.all goodWord = true := nb_all2 o_f_X7_emit__P_good (nb_all2 (nb_allc (by decide +kernel) p_f_X7_widen__P_good) rfl)
def w_f_X7_emit__P : List Cond := .code yX7_emit cX7_emit 3 (some .int) :: (p_f_X7_emit__P ++ fC)
theorem w_f_X7_emit__P_good : w_f_X7_emit__P.all goodWord = true := nb_allc (by decide +kernel) (nb_all2 p_f_X7_emit__P_good fC_good)
theorem in_f_X7_emit__P_X7 : ∀ w ∈ wsX70, w ∈ w_f_X7_emit__P := fun _ h => List.mem_cons_of_mem _ (List.mem_append_right _ (List.mem_append_right _ (List.mem_append_right _ (List.mem_append_right _ (List.mem_append_right _ (List.mem_append_right _ (List.mem_append_right _ (List.mem_append_left _ h))))))))
theorem hd_f_X7_emit__P : yX7_emit.cls = RX7 ∧ yX7_emit.cls ≠ "java/lang/invoke/MethodHandle" ∧ yX7_emit.cls ≠ "java/lang/invoke/VarHandle" ∧ (parseMethodDescriptor yX7_emit.desc).map (fun d => d.parameters.length) = some 2 := by decide +kernel
theorem gg_f_X7_emit__P_X7_widen__P : GoodIn w_f_X7_emit__P w_f_X7_widen__P := goodIn_sub (fun w h => (List.mem_cons.mp h).elim (fun e => (List.mem_cons_of_mem _ (List.mem_append_left _ (List.mem_append_right _ (List.mem_append_left _ (List.mem_cons.mpr (Or.inl e))))))) (fun h => (List.mem_append.mp h).elim (fun h => (List.mem_cons_of_mem _ (List.mem_append_left _ (List.mem_append_right _ (List.mem_append_left _ (List.mem_cons_of_mem _ h)))))) (fun h => List.mem_cons_of_mem _ (List.mem_append_right _ h)))) w_f_X7_widen__P_good
theorem g_f_X7_emit__P_X7_widen__P_V85 : GoodIn w_f_X7_emit__P (wsV RX7 85 RX7 yX7_widen w_f_X7_widen__P) := goodIn_app (nb_g4 (List.mem_cons_of_mem _ (List.mem_append_left _ (List.mem_append_left _ (List.mem_of_getElem? (i := 0) rfl)))) (List.mem_cons_of_mem _ (List.mem_append_left _ (List.mem_append_left _ (List.mem_of_getElem? (i := 1) rfl)))) (List.mem_cons_of_mem _ (List.mem_append_left _ (List.mem_append_left _ (List.mem_of_getElem? (i := 2) rfl)))) (List.mem_cons_of_mem _ (List.mem_append_left _ (List.mem_append_left _ (List.mem_of_getElem? (i := 3) rfl)))) (by decide +kernel)) gg_f_X7_emit__P_X7_widen__P
set_option maxHeartbeats 40000000 in
set_option maxRecDepth 100000 in
theorem c_f_X7_emit__P (l : Launch) (hl0 : l.stackTraces = false) (dC : Nat → ClassId) (dI : Nat → Nat → Nat) (cy : Nat → ClassId) (ek a : Nat → Nat) (k0 : Nat) (L0 : LV) (σ0 : CS) (r0 : RS) (h0 : f_X7_emit__P k0 0 L0 σ0 = some r0) (z : Nat → Nat) (sz : Nat) : vx_Met l yX7_emit w_f_X7_emit__P ({ frames := 7, cells := r0.2.2.1, slots := r0.2.2.2, locals := 121 }) (va_Pc [.ref (a (pA (L0.2.2.1 0))), .int (L0.1 1), .int (L0.1 2)] (nInF (dC, dI) cy ek sz (vC cy a z σ0))) (xI dC dI cy a (va_A (vC cy a z σ0) sz) [43, 51] z r0) (xX dC dI cy a (va_A (vC cy a z σ0) sz) [43, 51] z r0) r0.2.2.1 r0.2.2.2 (va_A (vC cy a z σ0) sz) := by
  refine vx_ofW (cc := cX7_emit) (maxL := 3) (ret := (some .int)) (by decide) rfl ?_
  intro p e s m args below meth c s₁ B hml hno hv
  obtain ⟨rfl, ⟨⟨hsz, hP, hK, hD0, hG⟩, hE⟩, hT⟩ := hv
  have hx := B.exec
  have hb := B.bytes
  have hr := B.returns
  have hts := atoms_spec (ws := w_f_X7_emit__P) B.pre
  have hown : s.vm.findClass RX7 = some m.cls := findClass_of_methodNamed B.named
  have hlocks := B.notSynchronized
  subst hsz
  have hD := hD0.self (sz := s.heap.size)
  generalize hAe : va_A (vC cy a z σ0) s.heap.size = A at hD hE hT ⊢
  have hA : ∀ q : Nat, s.heap.size ≤ q → A q := fun q h => by rw [← hAe]; exact Or.inr h
  have hS : va_S A s.heap s.heap [] := va_S.rf
  have hl := lv_entry ([.ref (a (pA (L0.2.2.1 0))), .int (L0.1 1), .int (L0.1 2)]) (n := 3) (Nat.le_of_ble_eq_true rfl)
  rw [lg_entry_eq]
  generalize (lg_sl ([.ref (a (pA (L0.2.2.1 0))), .int (L0.1 1), .int (L0.1 2)]) ++ List.replicate (3 - (lg_sl ([.ref (a (pA (L0.2.2.1 0))), .int (L0.1 1), .int (L0.1 2)])).length) Slot.unset).toArray = ls at hl ⊢
  have hl : lv_has ls 3 [(0, .ref (a (pA (L0.2.2.1 0)))), (1, .int (L0.1 1)), (2, .int (L0.1 2))] := hl
  generalize hmc : r0.2.2.1 = mc
  generalize hms : r0.2.2.2 = ms
  have blk : ∀ k : Nat, (bX p l e (headSpec w_f_X7_emit__P ({ frames := 7, cells := mc, slots := ms, locals := 121 })).room s m #[.ref (a (pA (L0.2.2.1 0))), .int (L0.1 1), .int (L0.1 2)] below meth c dC dI cy a A (fun r => vx_MQ below (xI dC dI cy a A [43, 51] z r) (xX dC dI cy a A [43, 51] z r) #[.ref (a (pA (L0.2.2.1 0))), .int (L0.1 1), .int (L0.1 2)] s mc ms A) [43, 51] z mc ms 3 (f_X7_emit__P k 0) (fun z L => [(0, .ref (a (pA (L.2.2.1 0)))), (1, .int (L.1 1)), (2, .int (L.1 2))]) 0 (fun z L => [])) := by
    intro k
    induction k with
    | zero => exact fun z c1 c2 L σ r h => (by cases h)
    | succ k ih =>
      skip
      · intro z cells slots L σ r h hzk hc hs H locs ls hP hD hS hl
        rw [f_X7_emit__P] at h
        refine lv_aload_n hx hb dX7_emit_0 rfl (lv_at hl 0 rfl) ?_
        refine lv_iconst (v := 1) hx hb dX7_emit_1 (by decide) ?_
        obtain ⟨r1, hc1, hle1, h9⟩ := ox_ex h
        clear h
        refine kx_v (vx_runV (As := [.int 1]) (rest := []) ⟨hx, hb, hml, hown, hts⟩ (c_f_X7_widen__P l hl0 dC dI cy ek a k (lI (lB lZ 0 ((L.2.2.1 0))) 1 1) σ r1 hc1 z H.size) (cwV 1 hts g_f_X7_emit__P_X7_widen__P_V85 rfl rfl rfl hd_f_X7_widen__P ⟨Nat.le_of_ble_eq_true rfl, Nat.le_of_ble_eq_true rfl⟩) ⟨nb_blindF, recvP ((L.2.2.1 0)) hK hP, (kx_pre hK hG hE hT hA hP hD hS)⟩ rfl rfl hl.1 rfl (lv_room (Nat.le_of_ble_eq_true rfl)) dX7_emit_2 ⟨Nat.le_trans (Nat.add_le_add_left hle1.1 _) (Nat.le_of_eq hc), Nat.le_trans (Nat.add_le_add_left hle1.2 _) (Nat.le_of_eq hs)⟩) hK hA hzk hP hD hS (by decide) hno hlocks ?_
        rcases h9 with ⟨h00, y1, hny1, hy⟩ | ⟨h00, hy⟩
        · subst hy
          have h := hny1
          refine Or.inl ⟨h00, fun z H locs hz1 hzk hP hD hS => ?_⟩
          replace hc := (Nat.add_assoc _ _ _).trans hc
          replace hs := (Nat.add_assoc _ _ _).trans hs
          refine lv_aload_n hx hb dX7_emit_5 rfl (lv_at hl 0 rfl) ?_
          refine hg_P_0 ((L.2.2.1 0)) hx hb hts in_f_X7_emit__P_X7 hown hK hP (hts _ (List.mem_cons_of_mem _ (List.mem_append_left _ (List.mem_append_left _ (List.mem_of_getElem? (i := 4) rfl))))) dX7_emit_6 ?_
          refine lv_aload_n hx hb dX7_emit_9 rfl (lv_at hl 0 rfl) ?_
          refine hg_P_1 ((L.2.2.1 0)) hx hb hts in_f_X7_emit__P_X7 hown hK hP (hts _ (List.mem_cons_of_mem _ (List.mem_append_left _ (List.mem_append_left _ (List.mem_of_getElem? (i := 5) rfl))))) dX7_emit_10 ?_
          refine lv_iload_n hx hb dX7_emit_13 rfl (lv_at hl 1 rfl) ?_
          refine lv_iload_n hx hb dX7_emit_14 rfl (lv_at hl 2 rfl) ?_
          refine lv_bipush (v := 8) hx hb dX7_emit_15 (by decide) ?_
          refine lv_ishl hx hb dX7_emit_17 ?_
          refine lv_ior hx hb dX7_emit_18 ?_
          obtain ⟨q2, h⟩ := kr_ite1 h
          refine hs_P0 ((sKd r1.2.1 ((L.2.2.1 0)))) hx hb hK hP hD hS q2 dX7_emit_19 (fun H locs hP hD hS => ?_)
          refine lv_aload_n hx hb dX7_emit_20 rfl (lv_at hl 0 rfl) ?_
          refine lv_dup hx hb dX7_emit_21 rfl ?_
          refine hg_P_1 ((L.2.2.1 0)) hx hb hts in_f_X7_emit__P_X7 hown hK hP (hts _ (List.mem_cons_of_mem _ (List.mem_append_left _ (List.mem_append_left _ (List.mem_of_getElem? (i := 5) rfl))))) dX7_emit_22 ?_
          refine lv_iconst (v := 1) hx hb dX7_emit_25 (by decide) ?_
          refine lv_iadd hx hb dX7_emit_26 ?_
          refine hp_P_1 ((L.2.2.1 0)) hx hb hts in_f_X7_emit__P_X7 hown hK hP hD hS (hts _ (List.mem_cons_of_mem _ (List.mem_append_left _ (List.mem_append_left _ (List.mem_of_getElem? (i := 5) rfl))))) dX7_emit_27 (fun H locs hP hD hS => ?_)
          refine lv_aload_n hx hb dX7_emit_30 rfl (lv_at hl 0 rfl) ?_
          refine hg_P_1 ((L.2.2.1 0)) hx hb hts in_f_X7_emit__P_X7 hown hK hP (hts _ (List.mem_cons_of_mem _ (List.mem_append_left _ (List.mem_append_left _ (List.mem_of_getElem? (i := 5) rfl))))) dX7_emit_31 ?_
          refine lv_iconst (v := 1) hx hb dX7_emit_34 (by decide) ?_
          refine lv_isub hx hb dX7_emit_35 ?_
          obtain rfl := Option.some.inj h
          subst hc
          subst hs
          exact xr_i hx hb hr hK hzk hP hD hS hlocks dX7_emit_36
        · subst hy
          exact Or.inr ⟨h00, rfl, hc, hs⟩
  exact (blk k0) z 0 0 L0 σ0 r0 h0 (zk_rf _ _) ((Nat.zero_add _).trans hmc) ((Nat.zero_add _).trans hms) s.heap [] ls hP hD hS hl
/-! X7_word__P -/
def f_X7_word__P : Nat → Nat → LV → CS → Option RS
  | 0, _, _, _ => none
  | k + 1, 0, L, σ => ox (f_X7_widen__P k 0 (lI (lB lZ 0 ((L.2.2.1 0))) 1 1) σ) (fun r1 => if ¬ (((r1.2.1.1 (fP ((L.2.2.1 0)) 1))) < 0 ∨ (sN r1.2.1 (pR0 ((sKd r1.2.1 ((L.2.2.1 0)))))) ≤ ((r1.2.1.1 (fP ((L.2.2.1 0)) 1))).toNatClampNeg) then (some ((0, ((((uI (uA r1.2.1 (pR0 ((sKd r1.2.1 ((L.2.2.1 0))))) ((r1.2.1.1 (fP ((L.2.2.1 0)) 1))).toNatClampNeg ((L.1 1))) (fP ((L.2.2.1 0)) 1) (((((uA r1.2.1 (pR0 ((sKd r1.2.1 ((L.2.2.1 0))))) ((r1.2.1.1 (fP ((L.2.2.1 0)) 1))).toNatClampNeg ((L.1 1))).1 (fP ((L.2.2.1 0)) 1))) + 1))).1 (fP ((L.2.2.1 0)) 1))) - 1)), (uI (uA r1.2.1 (pR0 ((sKd r1.2.1 ((L.2.2.1 0))))) ((r1.2.1.1 (fP ((L.2.2.1 0)) 1))).toNatClampNeg ((L.1 1))) (fP ((L.2.2.1 0)) 1) (((((uA r1.2.1 (pR0 ((sKd r1.2.1 ((L.2.2.1 0))))) ((r1.2.1.1 (fP ((L.2.2.1 0)) 1))).toNatClampNeg ((L.1 1))).1 (fP ((L.2.2.1 0)) 1))) + 1))), (0, 0))) else none)
  | _ + 1, _ + 1, _, _ => none
def o_f_X7_word__P : List Cond := [.methodLink RX7 85 yX7_widen, .instanceMethod yX7_widen, .selects RX7 yX7_widen yX7_widen, .initialized RX7, .fieldLink RX7 9 "SetHouse$Program" "code" "[I", .fieldLink RX7 53 "SetHouse$Program" "size" "I"]
theorem o_f_X7_word__P_good : o_f_X7_word__P.all goodWord = true := by decide +kernel
def p_f_X7_word__P : List Cond := o_f_X7_word__P ++ ((.code yX7_widen cX7_widen 2 none :: p_f_X7_widen__P) ++ [])
theorem p_f_X7_word__P_good : p_f_X7_word__P.all goodWord = true := nb_all2 o_f_X7_word__P_good (nb_all2 (nb_allc (by decide +kernel) p_f_X7_widen__P_good) rfl)
def w_f_X7_word__P : List Cond := .code yX7_word cX7_word 2 (some .int) :: (p_f_X7_word__P ++ fC)
theorem w_f_X7_word__P_good : w_f_X7_word__P.all goodWord = true := nb_allc (by decide +kernel) (nb_all2 p_f_X7_word__P_good fC_good)
theorem in_f_X7_word__P_X7 : ∀ w ∈ wsX70, w ∈ w_f_X7_word__P := fun _ h => List.mem_cons_of_mem _ (List.mem_append_right _ (List.mem_append_right _ (List.mem_append_right _ (List.mem_append_right _ (List.mem_append_right _ (List.mem_append_right _ (List.mem_append_right _ (List.mem_append_left _ h))))))))
theorem hd_f_X7_word__P : yX7_word.cls = RX7 ∧ yX7_word.cls ≠ "java/lang/invoke/MethodHandle" ∧ yX7_word.cls ≠ "java/lang/invoke/VarHandle" ∧ (parseMethodDescriptor yX7_word.desc).map (fun d => d.parameters.length) = some 1 := by decide +kernel
theorem gg_f_X7_word__P_X7_widen__P : GoodIn w_f_X7_word__P w_f_X7_widen__P := goodIn_sub (fun w h => (List.mem_cons.mp h).elim (fun e => (List.mem_cons_of_mem _ (List.mem_append_left _ (List.mem_append_right _ (List.mem_append_left _ (List.mem_cons.mpr (Or.inl e))))))) (fun h => (List.mem_append.mp h).elim (fun h => (List.mem_cons_of_mem _ (List.mem_append_left _ (List.mem_append_right _ (List.mem_append_left _ (List.mem_cons_of_mem _ h)))))) (fun h => List.mem_cons_of_mem _ (List.mem_append_right _ h)))) w_f_X7_widen__P_good
theorem g_f_X7_word__P_X7_widen__P_V85 : GoodIn w_f_X7_word__P (wsV RX7 85 RX7 yX7_widen w_f_X7_widen__P) := goodIn_app (nb_g4 (List.mem_cons_of_mem _ (List.mem_append_left _ (List.mem_append_left _ (List.mem_of_getElem? (i := 0) rfl)))) (List.mem_cons_of_mem _ (List.mem_append_left _ (List.mem_append_left _ (List.mem_of_getElem? (i := 1) rfl)))) (List.mem_cons_of_mem _ (List.mem_append_left _ (List.mem_append_left _ (List.mem_of_getElem? (i := 2) rfl)))) (List.mem_cons_of_mem _ (List.mem_append_left _ (List.mem_append_left _ (List.mem_of_getElem? (i := 3) rfl)))) (by decide +kernel)) gg_f_X7_word__P_X7_widen__P
set_option maxHeartbeats 40000000 in
set_option maxRecDepth 100000 in
theorem c_f_X7_word__P (l : Launch) (hl0 : l.stackTraces = false) (dC : Nat → ClassId) (dI : Nat → Nat → Nat) (cy : Nat → ClassId) (ek a : Nat → Nat) (k0 : Nat) (L0 : LV) (σ0 : CS) (r0 : RS) (h0 : f_X7_word__P k0 0 L0 σ0 = some r0) (z : Nat → Nat) (sz : Nat) : vx_Met l yX7_word w_f_X7_word__P ({ frames := 7, cells := r0.2.2.1, slots := r0.2.2.2, locals := 121 }) (va_Pc [.ref (a (pA (L0.2.2.1 0))), .int (L0.1 1)] (nInF (dC, dI) cy ek sz (vC cy a z σ0))) (xI dC dI cy a (va_A (vC cy a z σ0) sz) [43, 51] z r0) (xX dC dI cy a (va_A (vC cy a z σ0) sz) [43, 51] z r0) r0.2.2.1 r0.2.2.2 (va_A (vC cy a z σ0) sz) := by
  refine vx_ofW (cc := cX7_word) (maxL := 2) (ret := (some .int)) (by decide) rfl ?_
  intro p e s m args below meth c s₁ B hml hno hv
  obtain ⟨rfl, ⟨⟨hsz, hP, hK, hD0, hG⟩, hE⟩, hT⟩ := hv
  have hx := B.exec
  have hb := B.bytes
  have hr := B.returns
  have hts := atoms_spec (ws := w_f_X7_word__P) B.pre
  have hown : s.vm.findClass RX7 = some m.cls := findClass_of_methodNamed B.named
  have hlocks := B.notSynchronized
  subst hsz
  have hD := hD0.self (sz := s.heap.size)
  generalize hAe : va_A (vC cy a z σ0) s.heap.size = A at hD hE hT ⊢
  have hA : ∀ q : Nat, s.heap.size ≤ q → A q := fun q h => by rw [← hAe]; exact Or.inr h
  have hS : va_S A s.heap s.heap [] := va_S.rf
  have hl := lv_entry ([.ref (a (pA (L0.2.2.1 0))), .int (L0.1 1)]) (n := 2) (Nat.le_of_ble_eq_true rfl)
  rw [lg_entry_eq]
  generalize (lg_sl ([.ref (a (pA (L0.2.2.1 0))), .int (L0.1 1)]) ++ List.replicate (2 - (lg_sl ([.ref (a (pA (L0.2.2.1 0))), .int (L0.1 1)])).length) Slot.unset).toArray = ls at hl ⊢
  have hl : lv_has ls 2 [(0, .ref (a (pA (L0.2.2.1 0)))), (1, .int (L0.1 1))] := hl
  generalize hmc : r0.2.2.1 = mc
  generalize hms : r0.2.2.2 = ms
  have blk : ∀ k : Nat, (bX p l e (headSpec w_f_X7_word__P ({ frames := 7, cells := mc, slots := ms, locals := 121 })).room s m #[.ref (a (pA (L0.2.2.1 0))), .int (L0.1 1)] below meth c dC dI cy a A (fun r => vx_MQ below (xI dC dI cy a A [43, 51] z r) (xX dC dI cy a A [43, 51] z r) #[.ref (a (pA (L0.2.2.1 0))), .int (L0.1 1)] s mc ms A) [43, 51] z mc ms 2 (f_X7_word__P k 0) (fun z L => [(0, .ref (a (pA (L.2.2.1 0)))), (1, .int (L.1 1))]) 0 (fun z L => [])) := by
    intro k
    induction k with
    | zero => exact fun z c1 c2 L σ r h => (by cases h)
    | succ k ih =>
      skip
      · intro z cells slots L σ r h hzk hc hs H locs ls hP hD hS hl
        rw [f_X7_word__P] at h
        refine lv_aload_n hx hb dX7_word_0 rfl (lv_at hl 0 rfl) ?_
        refine lv_iconst (v := 1) hx hb dX7_word_1 (by decide) ?_
        obtain ⟨r1, hc1, hle1, h9⟩ := ox_ex h
        clear h
        refine kx_v (vx_runV (As := [.int 1]) (rest := []) ⟨hx, hb, hml, hown, hts⟩ (c_f_X7_widen__P l hl0 dC dI cy ek a k (lI (lB lZ 0 ((L.2.2.1 0))) 1 1) σ r1 hc1 z H.size) (cwV 1 hts g_f_X7_word__P_X7_widen__P_V85 rfl rfl rfl hd_f_X7_widen__P ⟨Nat.le_of_ble_eq_true rfl, Nat.le_of_ble_eq_true rfl⟩) ⟨nb_blindF, recvP ((L.2.2.1 0)) hK hP, (kx_pre hK hG hE hT hA hP hD hS)⟩ rfl rfl hl.1 rfl (lv_room (Nat.le_of_ble_eq_true rfl)) dX7_word_2 ⟨Nat.le_trans (Nat.add_le_add_left hle1.1 _) (Nat.le_of_eq hc), Nat.le_trans (Nat.add_le_add_left hle1.2 _) (Nat.le_of_eq hs)⟩) hK hA hzk hP hD hS (by decide) hno hlocks ?_
        rcases h9 with ⟨h00, y1, hny1, hy⟩ | ⟨h00, hy⟩
        · subst hy
          have h := hny1
          refine Or.inl ⟨h00, fun z H locs hz1 hzk hP hD hS => ?_⟩
          replace hc := (Nat.add_assoc _ _ _).trans hc
          replace hs := (Nat.add_assoc _ _ _).trans hs
          refine lv_aload_n hx hb dX7_word_5 rfl (lv_at hl 0 rfl) ?_
          refine hg_P_0 ((L.2.2.1 0)) hx hb hts in_f_X7_word__P_X7 hown hK hP (hts _ (List.mem_cons_of_mem _ (List.mem_append_left _ (List.mem_append_left _ (List.mem_of_getElem? (i := 4) rfl))))) dX7_word_6 ?_
          refine lv_aload_n hx hb dX7_word_9 rfl (lv_at hl 0 rfl) ?_
          refine hg_P_1 ((L.2.2.1 0)) hx hb hts in_f_X7_word__P_X7 hown hK hP (hts _ (List.mem_cons_of_mem _ (List.mem_append_left _ (List.mem_append_left _ (List.mem_of_getElem? (i := 5) rfl))))) dX7_word_10 ?_
          refine lv_iload_n hx hb dX7_word_13 rfl (lv_at hl 1 rfl) ?_
          obtain ⟨q2, h⟩ := kr_ite1 h
          refine hs_P0 ((sKd r1.2.1 ((L.2.2.1 0)))) hx hb hK hP hD hS q2 dX7_word_14 (fun H locs hP hD hS => ?_)
          refine lv_aload_n hx hb dX7_word_15 rfl (lv_at hl 0 rfl) ?_
          refine lv_dup hx hb dX7_word_16 rfl ?_
          refine hg_P_1 ((L.2.2.1 0)) hx hb hts in_f_X7_word__P_X7 hown hK hP (hts _ (List.mem_cons_of_mem _ (List.mem_append_left _ (List.mem_append_left _ (List.mem_of_getElem? (i := 5) rfl))))) dX7_word_17 ?_
          refine lv_iconst (v := 1) hx hb dX7_word_20 (by decide) ?_
          refine lv_iadd hx hb dX7_word_21 ?_
          refine hp_P_1 ((L.2.2.1 0)) hx hb hts in_f_X7_word__P_X7 hown hK hP hD hS (hts _ (List.mem_cons_of_mem _ (List.mem_append_left _ (List.mem_append_left _ (List.mem_of_getElem? (i := 5) rfl))))) dX7_word_22 (fun H locs hP hD hS => ?_)
          refine lv_aload_n hx hb dX7_word_25 rfl (lv_at hl 0 rfl) ?_
          refine hg_P_1 ((L.2.2.1 0)) hx hb hts in_f_X7_word__P_X7 hown hK hP (hts _ (List.mem_cons_of_mem _ (List.mem_append_left _ (List.mem_append_left _ (List.mem_of_getElem? (i := 5) rfl))))) dX7_word_26 ?_
          refine lv_iconst (v := 1) hx hb dX7_word_29 (by decide) ?_
          refine lv_isub hx hb dX7_word_30 ?_
          obtain rfl := Option.some.inj h
          subst hc
          subst hs
          exact xr_i hx hb hr hK hzk hP hD hS hlocks dX7_word_31
        · subst hy
          exact Or.inr ⟨h00, rfl, hc, hs⟩
  exact (blk k0) z 0 0 L0 σ0 r0 h0 (zk_rf _ _) ((Nat.zero_add _).trans hmc) ((Nat.zero_add _).trans hms) s.heap [] ls hP hD hS hl
/-! X10_readDigits__z38 -/
def y_X10_readDigits__z38 : Nat → Nat → LV → CS → Option (Int32 × CS)
  | 0, _, _, _ => none
  | k + 1, 0, L, σ => y_X10_readDigits__z38 k 1 (lI (lI L 4 0) 5 ((L.1 2))) σ
  | k + 1, 1, L, σ => if ((L.1 3)) ≤ ((L.1 5)) then (y_X10_readDigits__z38 k 2 L σ) else (if ¬ (((L.1 5)) < 0 ∨ (sN σ 38) ≤ ((L.1 5)).toNatClampNeg) then (y_X10_readDigits__z38 k 3 (lI (lJ L 6 ((((((σ.2.2.1 38 ((L.1 5)).toNatClampNeg)) - 48)).toInt64))) 8 0) σ) else none)
  | k + 1, 2, L, σ => some ((L.1 4), (uI σ 404 ((L.1 4))))
  | k + 1, 3, L, σ => if ((L.1 4)) ≤ ((L.1 8)) then (y_X10_readDigits__z38 k 4 L σ) else (if ¬ (((L.1 8)) < 0 ∨ 72 ≤ ((L.1 8)).toNatClampNeg) then (if ¬ (((L.1 8)) < 0 ∨ 72 ≤ ((L.1 8)).toNatClampNeg) then (y_X10_readDigits__z38 k 3 (lI (lJ L 6 (((((((L.2.1 6)) + ((((((((σ.2.2.1 7 ((L.1 8)).toNatClampNeg)).toInt64)) &&& 4294967295)) * 10)))).toUInt64 >>> ((32 : Int32).toInt64.toUInt64 &&& Int64.toUInt64 63)).toInt64))) 8 ((((L.1 8)) + 1))) (uA σ 7 ((L.1 8)).toNatClampNeg ((((((L.2.1 6)) + ((((((((σ.2.2.1 7 ((L.1 8)).toNatClampNeg)).toInt64)) &&& 4294967295)) * 10)))).toInt32)))) else none) else none)
  | k + 1, 4, L, σ => if ((nbCmp ((L.2.1 6)) (0 : Int64))) = 0 then (y_X10_readDigits__z38 k 5 L σ) else (if 32 ≤ ((L.1 4)) then (y_X10_readDigits__z38 k 5 L σ) else (if ¬ (((L.1 4)) < 0 ∨ 72 ≤ ((L.1 4)).toNatClampNeg) then (y_X10_readDigits__z38 k 5 (lI L 4 ((((L.1 4)) + 1))) (uA σ 7 ((L.1 4)).toNatClampNeg ((((L.2.1 6)).toInt32)))) else none))
  | k + 1, 5, L, σ => y_X10_readDigits__z38 k 1 (lI L 5 ((((L.1 5)) + 1))) σ
  | _ + 1, _ + 6, _, _ => none
def o_y_X10_readDigits__z38 : List Cond := [.fieldLink RX10 169 "SetHouse$Wholes" "resultLimbs" "I", .fieldLink RX10 18 "SetHouse$Wholes" "result" "[I", .constantLong RX10 105 (4294967295), .constantLong RX10 167 (10)]
theorem o_y_X10_readDigits__z38_good : o_y_X10_readDigits__z38.all goodWord = true := by decide +kernel
def p_y_X10_readDigits__z38 : List Cond := o_y_X10_readDigits__z38 ++ []
theorem p_y_X10_readDigits__z38_good : p_y_X10_readDigits__z38.all goodWord = true := nb_all2 o_y_X10_readDigits__z38_good rfl
def w_y_X10_readDigits__z38 : List Cond := .code yX10_readDigits cX10_readDigits 9 (some .int) :: (p_y_X10_readDigits__z38 ++ fC)
theorem w_y_X10_readDigits__z38_good : w_y_X10_readDigits__z38.all goodWord = true := nb_allc (by decide +kernel) (nb_all2 p_y_X10_readDigits__z38_good fC_good)
theorem in_y_X10_readDigits__z38_X10 : ∀ w ∈ wsX100, w ∈ w_y_X10_readDigits__z38 := fun _ h => List.mem_cons_of_mem _ (List.mem_append_right _ (List.mem_append_right _ (List.mem_append_right _ (List.mem_append_right _ (List.mem_append_right _ (List.mem_append_right _ (List.mem_append_right _ (List.mem_append_right _ (List.mem_append_right _ (List.mem_append_right _ (List.mem_append_left _ h)))))))))))
theorem hd_y_X10_readDigits__z38 : yX10_readDigits.cls = RX10 ∧ yX10_readDigits.cls ≠ "java/lang/invoke/MethodHandle" ∧ yX10_readDigits.cls ≠ "java/lang/invoke/VarHandle" ∧ (parseMethodDescriptor yX10_readDigits.desc).map (fun d => d.parameters.length) = some 3 := by decide +kernel
set_option maxHeartbeats 40000000 in
set_option maxRecDepth 100000 in
theorem c_y_X10_readDigits__z38 (l : Launch) (dC : Nat → ClassId) (dI : Nat → Nat → Nat) (cy : Nat → ClassId) (a z : Nat → Nat) (k0 : Nat) (L0 : LV) (σ0 : CS) (r0 : Int32 × CS) (h0 : y_X10_readDigits__z38 k0 0 L0 σ0 = some r0) (sz : Nat) : Met l yX10_readDigits w_y_X10_readDigits__z38 ({ frames := 0, cells := 0, slots := 0, locals := 0 }) (va_Pc [.ref (a 4), .ref (z 38), .int (L0.1 2), .int (L0.1 3)] (nIn (dC, dI) cy sz (vC cy a z σ0))) (va_Qi (fun (x : Int32) (_ : Unit) => x = r0.1) (fun _ t => nOut (dC, dI) cy (va_A (vC cy a z σ0) sz) (vC cy a z r0.2) t) (va_A (vC cy a z σ0) sz)) 0 0 (va_A (vC cy a z σ0) sz) := by
  refine Met.ofW (cc := cX10_readDigits) (maxL := 9) (ret := (some .int)) (by decide) rfl ?_
  intro p e s m args below meth c s₁ B hml hv
  obtain ⟨rfl, hsz, hP, hK, hD0, hG⟩ := hv
  have hx := B.exec
  have hb := B.bytes
  have hr := B.returns
  have hts := atoms_spec (ws := w_y_X10_readDigits__z38) B.pre
  have hown : s.vm.findClass RX10 = some m.cls := findClass_of_methodNamed B.named
  have hlocks := B.notSynchronized
  subst hsz
  have hD := hD0.self (sz := s.heap.size)
  generalize hAe : va_A (vC cy a z σ0) s.heap.size = A at hD ⊢
  have hA : ∀ q : Nat, s.heap.size ≤ q → A q := fun q h => by rw [← hAe]; exact Or.inr h
  have hS : va_S A s.heap s.heap [] := va_S.rf
  have hl := lv_entry ([.ref (a 4), .ref (z 38), .int (L0.1 2), .int (L0.1 3)]) (n := 9) (Nat.le_of_ble_eq_true rfl)
  rw [lg_entry_eq]
  generalize (lg_sl ([.ref (a 4), .ref (z 38), .int (L0.1 2), .int (L0.1 3)]) ++ List.replicate (9 - (lg_sl ([.ref (a 4), .ref (z 38), .int (L0.1 2), .int (L0.1 3)])).length) Slot.unset).toArray = ls at hl ⊢
  have hl : lv_has ls 9 [(0, .ref (a 4)), (1, .ref (z 38)), (2, .int (L0.1 2)), (3, .int (L0.1 3))] := hl
  have blk : ∀ k : Nat, (bC p l e (headSpec w_y_X10_readDigits__z38 ({ frames := 0, cells := 0, slots := 0, locals := 0 })).room s m #[.ref (a 4), .ref (z 38), .int (L0.1 2), .int (L0.1 3)] below meth c dC dI cy a z A (kI dC dI cy a z A below #[.ref (a 4), .ref (z 38), .int (L0.1 2), .int (L0.1 3)] s) 9 (y_X10_readDigits__z38 k 0) (fun L => [(0, .ref (a 4)), (1, .ref (z 38)), (2, .int (L.1 2)), (3, .int (L.1 3))]) 0 (fun L => [])) ∧ (bC p l e (headSpec w_y_X10_readDigits__z38 ({ frames := 0, cells := 0, slots := 0, locals := 0 })).room s m #[.ref (a 4), .ref (z 38), .int (L0.1 2), .int (L0.1 3)] below meth c dC dI cy a z A (kI dC dI cy a z A below #[.ref (a 4), .ref (z 38), .int (L0.1 2), .int (L0.1 3)] s) 9 (y_X10_readDigits__z38 k 1) (fun L => [(0, .ref (a 4)), (1, .ref (z 38)), (3, .int (L.1 3)), (4, .int (L.1 4)), (5, .int (L.1 5))]) 6 (fun L => [])) ∧ (bC p l e (headSpec w_y_X10_readDigits__z38 ({ frames := 0, cells := 0, slots := 0, locals := 0 })).room s m #[.ref (a 4), .ref (z 38), .int (L0.1 2), .int (L0.1 3)] below meth c dC dI cy a z A (kI dC dI cy a z A below #[.ref (a 4), .ref (z 38), .int (L0.1 2), .int (L0.1 3)] s) 9 (y_X10_readDigits__z38 k 2) (fun L => [(0, .ref (a 4)), (4, .int (L.1 4))]) 109 (fun L => [])) ∧ (bC p l e (headSpec w_y_X10_readDigits__z38 ({ frames := 0, cells := 0, slots := 0, locals := 0 })).room s m #[.ref (a 4), .ref (z 38), .int (L0.1 2), .int (L0.1 3)] below meth c dC dI cy a z A (kI dC dI cy a z A below #[.ref (a 4), .ref (z 38), .int (L0.1 2), .int (L0.1 3)] s) 9 (y_X10_readDigits__z38 k 3) (fun L => [(0, .ref (a 4)), (1, .ref (z 38)), (3, .int (L.1 3)), (4, .int (L.1 4)), (5, .int (L.1 5)), (6, .long (L.2.1 6)), (8, .int (L.1 8))]) 25 (fun L => [])) ∧ (bC p l e (headSpec w_y_X10_readDigits__z38 ({ frames := 0, cells := 0, slots := 0, locals := 0 })).room s m #[.ref (a 4), .ref (z 38), .int (L0.1 2), .int (L0.1 3)] below meth c dC dI cy a z A (kI dC dI cy a z A below #[.ref (a 4), .ref (z 38), .int (L0.1 2), .int (L0.1 3)] s) 9 (y_X10_readDigits__z38 k 4) (fun L => [(0, .ref (a 4)), (1, .ref (z 38)), (3, .int (L.1 3)), (4, .int (L.1 4)), (5, .int (L.1 5)), (6, .long (L.2.1 6))]) 76 (fun L => [])) ∧ (bC p l e (headSpec w_y_X10_readDigits__z38 ({ frames := 0, cells := 0, slots := 0, locals := 0 })).room s m #[.ref (a 4), .ref (z 38), .int (L0.1 2), .int (L0.1 3)] below meth c dC dI cy a z A (kI dC dI cy a z A below #[.ref (a 4), .ref (z 38), .int (L0.1 2), .int (L0.1 3)] s) 9 (y_X10_readDigits__z38 k 5) (fun L => [(0, .ref (a 4)), (1, .ref (z 38)), (3, .int (L.1 3)), (4, .int (L.1 4)), (5, .int (L.1 5))]) 103 (fun L => [])) := by
    intro k
    induction k with
    | zero => exact ⟨fun L σ r h => (by cases h), fun L σ r h => (by cases h), fun L σ r h => (by cases h), fun L σ r h => (by cases h), fun L σ r h => (by cases h), fun L σ r h => (by cases h)⟩
    | succ k ih =>
      refine ⟨?_, ?_, ?_, ?_, ?_, ?_⟩
      · intro L σ r h H locs ls hP hD hS hl
        rw [y_X10_readDigits__z38] at h
        refine lv_iconst (v := 0) hx hb dX10_readDigits_0 (by decide) ?_
        refine lv_istore (lv' := [(4, .int 0), (0, .ref (a 4)), (1, .ref (z 38)), (2, .int (L.1 2)), (3, .int (L.1 3))]) hx hb dX10_readDigits_1 hl (by decide) rfl (fun ls hl => ?_)
        refine lv_iload_n hx hb dX10_readDigits_3 rfl (lv_at hl 3 rfl) ?_
        refine lv_istore (lv' := [(5, .int (L.1 2)), (4, .int 0), (0, .ref (a 4)), (1, .ref (z 38)), (2, .int (L.1 2)), (3, .int (L.1 3))]) hx hb dX10_readDigits_4 hl (by decide) rfl (fun ls hl => ?_)
        exact ih.2.1 (lI (lI L 4 0) 5 ((L.1 2))) σ r h H locs ls hP hD hS (lv_sub hl [2, 3, 5, 1, 0] rfl)
      · intro L σ r h H locs ls hP hD hS hl
        rw [y_X10_readDigits__z38] at h
        refine lv_iload hx hb dX10_readDigits_6 (lv_at hl 4 rfl) ?_
        refine lv_iload_n hx hb dX10_readDigits_8 rfl (lv_at hl 2 rfl) ?_
        refine lv_icmp_ge (tgt := 109) hx hb dX10_readDigits_9 (by decide) (fun c1 => ?_) (fun c1 => ?_)
        · rw [if_pos c1] at h
          exact ih.2.2.1 L σ r h H locs ls hP hD hS (lv_sub hl [0, 3] rfl)
        · rw [if_neg c1] at h
          refine lv_aload_n hx hb dX10_readDigits_12 rfl (lv_at hl 1 rfl) ?_
          refine lv_iload hx hb dX10_readDigits_13 (lv_at hl 4 rfl) ?_
          obtain ⟨q2, h⟩ := kb_ite1 h
          refine hl_38 hx hb hK hP q2 dX10_readDigits_15 ?_
          refine lv_bipush (v := 48) hx hb dX10_readDigits_16 (by decide) ?_
          refine lv_isub hx hb dX10_readDigits_18 ?_
          refine lv_i2l (v := ((((σ.2.2.1 38 ((L.1 5)).toNatClampNeg)) - 48)).toInt64) hx hb dX10_readDigits_19 rfl ?_
          refine lv_lstore (lv' := [(6, .long (((((σ.2.2.1 38 ((L.1 5)).toNatClampNeg)) - 48)).toInt64)), (0, .ref (a 4)), (1, .ref (z 38)), (3, .int (L.1 3)), (4, .int (L.1 4)), (5, .int (L.1 5))]) hx hb dX10_readDigits_20 hl (by decide) rfl (fun ls hl => ?_)
          refine lv_iconst (v := 0) hx hb dX10_readDigits_22 (by decide) ?_
          refine lv_istore (lv' := [(8, .int 0), (6, .long (((((σ.2.2.1 38 ((L.1 5)).toNatClampNeg)) - 48)).toInt64)), (0, .ref (a 4)), (1, .ref (z 38)), (3, .int (L.1 3)), (4, .int (L.1 4)), (5, .int (L.1 5))]) hx hb dX10_readDigits_23 hl (by decide) rfl (fun ls hl => ?_)
          exact ih.2.2.2.1 (lI (lJ L 6 ((((((σ.2.2.1 38 ((L.1 5)).toNatClampNeg)) - 48)).toInt64))) 8 0) σ r h H locs ls hP hD hS (lv_sub hl [2, 3, 4, 5, 6, 1, 0] rfl)
      · intro L σ r h H locs ls hP hD hS hl
        rw [y_X10_readDigits__z38] at h
        refine lv_aload_n hx hb dX10_readDigits_109 rfl (lv_at hl 0 rfl) ?_
        refine lv_iload hx hb dX10_readDigits_110 (lv_at hl 1 rfl) ?_
        refine hp_4_4 hx hb hts in_y_X10_readDigits__z38_X10 hown hK hP hD hS (hts _ (List.mem_cons_of_mem _ (List.mem_append_left _ (List.mem_append_left _ (List.mem_of_getElem? (i := 0) rfl))))) dX10_readDigits_112 (fun H locs hP hD hS => ?_)
        refine lv_iload hx hb dX10_readDigits_115 (lv_at hl 1 rfl) ?_
        obtain rfl := Option.some.inj h
        exact W.iret (v := (L.1 4)) hx hb hr (fun t ht hW => ⟨⟨(L.1 4), (), rfl, rfl, by rw [ht]; exact hP, va_K.moved hW.alike hK, hD⟩, hS.F ht⟩) hS.2.2 dX10_readDigits_117
      · intro L σ r h H locs ls hP hD hS hl
        rw [y_X10_readDigits__z38] at h
        refine lv_iload hx hb dX10_readDigits_25 (lv_at hl 6 rfl) ?_
        refine lv_iload hx hb dX10_readDigits_27 (lv_at hl 3 rfl) ?_
        refine lv_icmp_ge (tgt := 76) hx hb dX10_readDigits_29 (by decide) (fun c1 => ?_) (fun c1 => ?_)
        · rw [if_pos c1] at h
          exact ih.2.2.2.2.1 L σ r h H locs ls hP hD hS (lv_sub hl [0, 1, 2, 3, 4, 5] rfl)
        · rw [if_neg c1] at h
          refine lv_lload hx hb dX10_readDigits_32 (lv_at hl 5 rfl) ?_
          refine lv_aload_n hx hb dX10_readDigits_34 rfl (lv_at hl 0 rfl) ?_
          refine hg_4_3 hx hb hts in_y_X10_readDigits__z38_X10 hown hK hP (hts _ (List.mem_cons_of_mem _ (List.mem_append_left _ (List.mem_append_left _ (List.mem_of_getElem? (i := 1) rfl))))) dX10_readDigits_35 ?_
          refine lv_iload hx hb dX10_readDigits_38 (lv_at hl 6 rfl) ?_
          obtain ⟨q2, h⟩ := kb_ite1 h
          refine hl_7 hx hb hK hP q2 dX10_readDigits_40 ?_
          refine lv_i2l (v := ((σ.2.2.1 7 ((L.1 8)).toNatClampNeg)).toInt64) hx hb dX10_readDigits_41 rfl ?_
          refine lv_ldc2 (v := 4294967295) hx hb hown (hts _ (List.mem_cons_of_mem _ (List.mem_append_left _ (List.mem_append_left _ (List.mem_of_getElem? (i := 2) rfl))))) dX10_readDigits_42 ?_
          refine lv_land hx hb dX10_readDigits_45 ?_
          refine lv_ldc2 (v := 10) hx hb hown (hts _ (List.mem_cons_of_mem _ (List.mem_append_left _ (List.mem_append_left _ (List.mem_of_getElem? (i := 3) rfl))))) dX10_readDigits_46 ?_
          refine lv_lmul hx hb dX10_readDigits_49 ?_
          refine lv_ladd hx hb dX10_readDigits_50 ?_
          refine lv_lstore (lv' := [(6, .long (((L.2.1 6)) + ((((((((σ.2.2.1 7 ((L.1 8)).toNatClampNeg)).toInt64)) &&& 4294967295)) * 10)))), (0, .ref (a 4)), (1, .ref (z 38)), (3, .int (L.1 3)), (4, .int (L.1 4)), (5, .int (L.1 5)), (8, .int (L.1 8))]) hx hb dX10_readDigits_51 hl (by decide) rfl (fun ls hl => ?_)
          refine lv_aload_n hx hb dX10_readDigits_53 rfl (lv_at hl 1 rfl) ?_
          refine hg_4_3 hx hb hts in_y_X10_readDigits__z38_X10 hown hK hP (hts _ (List.mem_cons_of_mem _ (List.mem_append_left _ (List.mem_append_left _ (List.mem_of_getElem? (i := 1) rfl))))) dX10_readDigits_54 ?_
          refine lv_iload hx hb dX10_readDigits_57 (lv_at hl 6 rfl) ?_
          refine lv_lload hx hb dX10_readDigits_59 (lv_at hl 0 rfl) ?_
          refine lv_l2i (v := ((((L.2.1 6)) + ((((((((σ.2.2.1 7 ((L.1 8)).toNatClampNeg)).toInt64)) &&& 4294967295)) * 10)))).toInt32) hx hb dX10_readDigits_61 rfl ?_
          obtain ⟨q3, h⟩ := kb_ite1 h
          refine hs_7 hx hb hK hP hD hS q3 dX10_readDigits_62 (fun H locs hP hD hS => ?_)
          refine lv_lload hx hb dX10_readDigits_63 (lv_at hl 0 rfl) ?_
          refine lv_bipush (v := 32) hx hb dX10_readDigits_65 (by decide) ?_
          refine lv_lushr (v := (((((L.2.1 6)) + ((((((((σ.2.2.1 7 ((L.1 8)).toNatClampNeg)).toInt64)) &&& 4294967295)) * 10)))).toUInt64 >>> ((32 : Int32).toInt64.toUInt64 &&& Int64.toUInt64 63)).toInt64) hx hb dX10_readDigits_67 rfl ?_
          refine lv_lstore (lv' := [(6, .long ((((((L.2.1 6)) + ((((((((σ.2.2.1 7 ((L.1 8)).toNatClampNeg)).toInt64)) &&& 4294967295)) * 10)))).toUInt64 >>> ((32 : Int32).toInt64.toUInt64 &&& Int64.toUInt64 63)).toInt64)), (0, .ref (a 4)), (1, .ref (z 38)), (3, .int (L.1 3)), (4, .int (L.1 4)), (5, .int (L.1 5)), (8, .int (L.1 8))]) hx hb dX10_readDigits_68 hl (by decide) rfl (fun ls hl => ?_)
          refine lv_iinc (v := ((L.1 8)) + 1) (lv' := [(8, .int (((L.1 8)) + 1)), (6, .long ((((((L.2.1 6)) + ((((((((σ.2.2.1 7 ((L.1 8)).toNatClampNeg)).toInt64)) &&& 4294967295)) * 10)))).toUInt64 >>> ((32 : Int32).toInt64.toUInt64 &&& Int64.toUInt64 63)).toInt64)), (0, .ref (a 4)), (1, .ref (z 38)), (3, .int (L.1 3)), (4, .int (L.1 4)), (5, .int (L.1 5))]) hx hb dX10_readDigits_70 hl (k := 6) rfl rfl (by decide) rfl (fun ls hl => ?_)
          refine lv_goto (tgt := 25) hx hb dX10_readDigits_73 (by decide) ?_
          exact ih.2.2.2.1 (lI (lJ L 6 (((((((L.2.1 6)) + ((((((((σ.2.2.1 7 ((L.1 8)).toNatClampNeg)).toInt64)) &&& 4294967295)) * 10)))).toUInt64 >>> ((32 : Int32).toInt64.toUInt64 &&& Int64.toUInt64 63)).toInt64))) 8 ((((L.1 8)) + 1))) (uA σ 7 ((L.1 8)).toNatClampNeg ((((((L.2.1 6)) + ((((((((σ.2.2.1 7 ((L.1 8)).toNatClampNeg)).toInt64)) &&& 4294967295)) * 10)))).toInt32))) r h H locs ls hP hD hS (lv_sub hl [2, 3, 4, 5, 6, 1, 0] rfl)
      · intro L σ r h H locs ls hP hD hS hl
        rw [y_X10_readDigits__z38] at h
        refine lv_lload hx hb dX10_readDigits_76 (lv_at hl 5 rfl) ?_
        refine lv_lconst (v := 0) hx hb dX10_readDigits_78 (by decide) ?_
        refine nb_lcmp hx hb dX10_readDigits_79 ?_
        refine lv_if_eq (tgt := 103) hx hb dX10_readDigits_80 (by decide) (fun c1 => ?_) (fun c1 => ?_)
        · rw [if_pos c1] at h
          exact ih.2.2.2.2.2 L σ r h H locs ls hP hD hS (lv_sub hl [0, 1, 2, 3, 4] rfl)
        · rw [if_neg c1] at h
          refine lv_iload hx hb dX10_readDigits_83 (lv_at hl 3 rfl) ?_
          refine lv_bipush (v := 32) hx hb dX10_readDigits_85 (by decide) ?_
          refine lv_icmp_ge (tgt := 103) hx hb dX10_readDigits_87 (by decide) (fun c2 => ?_) (fun c2 => ?_)
          · rw [if_pos c2] at h
            exact ih.2.2.2.2.2 L σ r h H locs ls hP hD hS (lv_sub hl [0, 1, 2, 3, 4] rfl)
          · rw [if_neg c2] at h
            refine lv_aload_n hx hb dX10_readDigits_90 rfl (lv_at hl 0 rfl) ?_
            refine hg_4_3 hx hb hts in_y_X10_readDigits__z38_X10 hown hK hP (hts _ (List.mem_cons_of_mem _ (List.mem_append_left _ (List.mem_append_left _ (List.mem_of_getElem? (i := 1) rfl))))) dX10_readDigits_91 ?_
            refine lv_iload hx hb dX10_readDigits_94 (lv_at hl 3 rfl) ?_
            refine lv_lload hx hb dX10_readDigits_96 (lv_at hl 5 rfl) ?_
            refine lv_l2i (v := ((L.2.1 6)).toInt32) hx hb dX10_readDigits_98 rfl ?_
            obtain ⟨q3, h⟩ := kb_ite1 h
            refine hs_7 hx hb hK hP hD hS q3 dX10_readDigits_99 (fun H locs hP hD hS => ?_)
            refine lv_iinc (v := ((L.1 4)) + 1) (lv' := [(4, .int (((L.1 4)) + 1)), (0, .ref (a 4)), (1, .ref (z 38)), (3, .int (L.1 3)), (5, .int (L.1 5)), (6, .long (L.2.1 6))]) hx hb dX10_readDigits_100 hl (k := 3) rfl rfl (by decide) rfl (fun ls hl => ?_)
            exact ih.2.2.2.2.2 (lI L 4 ((((L.1 4)) + 1))) (uA σ 7 ((L.1 4)).toNatClampNeg ((((L.2.1 6)).toInt32))) r h H locs ls hP hD hS (lv_sub hl [1, 2, 3, 0, 4] rfl)
      · intro L σ r h H locs ls hP hD hS hl
        rw [y_X10_readDigits__z38] at h
        refine lv_iinc (v := ((L.1 5)) + 1) (lv' := [(5, .int (((L.1 5)) + 1)), (0, .ref (a 4)), (1, .ref (z 38)), (3, .int (L.1 3)), (4, .int (L.1 4))]) hx hb dX10_readDigits_103 hl (k := 4) rfl rfl (by decide) rfl (fun ls hl => ?_)
        refine lv_goto (tgt := 6) hx hb dX10_readDigits_106 (by decide) ?_
        exact ih.2.1 (lI L 5 ((((L.1 5)) + 1))) σ r h H locs ls hP hD hS (lv_sub hl [1, 2, 3, 4, 0] rfl)
  exact (blk k0).1 L0 σ0 r0 h0 s.heap [] ls hP hD hS hl
/-! X5_number -/
def f_X5_number : Nat → Nat → LV → CS → Option RS
  | 0, _, _, _ => none
  | k + 1, 0, L, σ => op (y_X10_readDigits__z38 k 0 (lI (lI lZ 2 ((σ.1 3703))) 3 ((σ.1 3704))) σ) (fun r1 => op (y_X10_resultLimb k 0 (lI lZ 1 0) r1.2) (fun r2 => if r1.1 = 0 then (f_X5_number k 1 (lI L 2 r2.1) r2.2) else (if r1.1 = 1 then (if r2.1 < 0 then (f_X5_number k 2 (lI L 1 r1.1) r2.2) else (if 134217728 ≤ r2.1 then (f_X5_number k 2 (lI L 1 r1.1) r2.2) else (f_X5_number k 1 (lI L 2 r2.1) r2.2))) else (f_X5_number k 2 (lI L 1 r1.1) r2.2))))
  | k + 1, 1, L, σ => oP (sPp σ) (fun b1 => ox (f_X7_emit__P k 0 (lI (lI (lB lZ 0 b1) 1 33) 2 0) σ) (fun r2 => oP (sPp r2.2.1) (fun b3 => op (y_X10_small k 0 (lI lZ 0 ((L.1 2))) r2.2.1) (fun r4 => ox (f_X7_word__P k 0 (lI (lB lZ 0 b3) 1 r4.1) r4.2) (fun r5 => f_X5_number k 3 L r5.2.1)))))
  | k + 1, 2, L, σ => oP (sPp σ) (fun b1 => ox (f_X7_emit__P k 0 (lI (lI (lB lZ 0 b1) 1 34) 2 ((((L.1 1)) + 1))) σ) (fun r2 => oP (sPp r2.2.1) (fun b3 => op (y_X1_header k 0 (lI (lI (lI (lI (lI lZ 0 2) 1 0) 2 ((L.1 1))) 3 ((1 + ((L.1 1))))) 4 0) r2.2.1) (fun r4 => ox (f_X7_word__P k 0 (lI (lB lZ 0 b3) 1 r4.1) r4.2) (fun r5 => f_X5_number k 4 (lI L 3 0) r5.2.1)))))
  | k + 1, 3, L, σ => ox (f_X2_advance k 0 lZ σ) (fun r1 => some ((0, 0), r1.2.1, (0, 0)))
  | k + 1, 4, L, σ => if ((L.1 1)) ≤ ((L.1 3)) then (f_X5_number k 3 L σ) else (oP (sPp σ) (fun b2 => op (y_X10_resultLimb k 0 (lI lZ 1 ((L.1 3))) σ) (fun r3 => ox (f_X7_word__P k 0 (lI (lB lZ 0 b2) 1 r3.1) r3.2) (fun r4 => f_X5_number k 4 (lI L 3 ((((L.1 3)) + 1))) r4.2.1))))
  | _ + 1, _ + 5, _, _ => none
def o_f_X5_number : List Cond := [.fieldLink RX5 22 "SetHouse$Parser" "wholes" "LSetHouse$Wholes;", .fieldLink RX5 18 "SetHouse$Parser" "lex" "LSetHouse$Lexer;", .methodLink RX5 418 yX10_readDigits, .instanceMethod yX10_readDigits, .selects RX10 yX10_readDigits yX10_readDigits, .initialized RX10, .methodLink RX5 424 yX10_resultLimb, .instanceMethod yX10_resultLimb, .selects RX10 yX10_resultLimb yX10_resultLimb, .constant RX5 427 (134217728), .fieldLink RX5 93 "SetHouse$Parser" "p" "LSetHouse$Program;", .methodLink RX5 66 yX7_emit, .instanceMethod yX7_emit, .selects RX7 yX7_emit yX7_emit, .initialized RX7, .methodLink RX5 428 yX10_small, .static yX10_small, .methodLink RX5 243 yX7_word, .instanceMethod yX7_word, .selects RX7 yX7_word yX7_word, .methodLink RX5 431 yX1_header, .static yX1_header, .initialized RX1, .methodLink RX5 30 yX2_advance, .instanceMethod yX2_advance, .selects RX2 yX2_advance yX2_advance, .initialized RX2]
theorem o_f_X5_number_good : o_f_X5_number.all goodWord = true := by decide +kernel
def p_f_X5_number : List Cond := o_f_X5_number ++ ((.code yX10_readDigits cX10_readDigits 9 (some .int) :: p_y_X10_readDigits__z38) ++ ((.code yX10_resultLimb cX10_resultLimb 2 (some .int) :: p_y_X10_resultLimb) ++ ((.code yX7_emit cX7_emit 3 (some .int) :: p_f_X7_emit__P) ++ ((.code yX10_small cX10_small 1 (some .int) :: p_y_X10_small) ++ ((.code yX7_word cX7_word 2 (some .int) :: p_f_X7_word__P) ++ ((.code yX1_header cX1_header 5 (some .int) :: p_y_X1_header) ++ ((.code yX2_advance cX2_advance 7 none :: p_f_X2_advance) ++ [])))))))
theorem p_f_X5_number_good : p_f_X5_number.all goodWord = true := nb_all2 o_f_X5_number_good (nb_all2 (nb_allc (by decide +kernel) p_y_X10_readDigits__z38_good) (nb_all2 (nb_allc (by decide +kernel) p_y_X10_resultLimb_good) (nb_all2 (nb_allc (by decide +kernel) p_f_X7_emit__P_good) (nb_all2 (nb_allc (by decide +kernel) p_y_X10_small_good) (nb_all2 (nb_allc (by decide +kernel) p_f_X7_word__P_good) (nb_all2 (nb_allc (by decide +kernel) p_y_X1_header_good) (nb_all2 (nb_allc (by decide +kernel) p_f_X2_advance_good) rfl)))))))
def w_f_X5_number : List Cond := .code yX5_number cX5_number 4 none :: (p_f_X5_number ++ fC)
theorem w_f_X5_number_good : w_f_X5_number.all goodWord = true := nb_allc (by decide +kernel) (nb_all2 p_f_X5_number_good fC_good)
theorem in_f_X5_number_X2 : ∀ w ∈ wsX20, w ∈ w_f_X5_number := fun _ h => List.mem_cons_of_mem _ (List.mem_append_right _ (List.mem_append_right _ (List.mem_append_right _ (List.mem_append_left _ h))))
theorem in_f_X5_number_X5 : ∀ w ∈ wsX50, w ∈ w_f_X5_number := fun _ h => List.mem_cons_of_mem _ (List.mem_append_right _ (List.mem_append_right _ (List.mem_append_right _ (List.mem_append_right _ (List.mem_append_right _ (List.mem_append_left _ h))))))
theorem hd_f_X5_number : yX5_number.cls = RX5 ∧ yX5_number.cls ≠ "java/lang/invoke/MethodHandle" ∧ yX5_number.cls ≠ "java/lang/invoke/VarHandle" ∧ (parseMethodDescriptor yX5_number.desc).map (fun d => d.parameters.length) = some 0 := by decide +kernel
theorem gg_f_X5_number_X2_advance : GoodIn w_f_X5_number w_f_X2_advance := goodIn_sub (fun w h => (List.mem_cons.mp h).elim (fun e => (List.mem_cons_of_mem _ (List.mem_append_left _ (List.mem_append_right _ (List.mem_append_right _ (List.mem_append_right _ (List.mem_append_right _ (List.mem_append_right _ (List.mem_append_right _ (List.mem_append_right _ (List.mem_append_left _ (List.mem_cons.mpr (Or.inl e))))))))))))) (fun h => (List.mem_append.mp h).elim (fun h => (List.mem_cons_of_mem _ (List.mem_append_left _ (List.mem_append_right _ (List.mem_append_right _ (List.mem_append_right _ (List.mem_append_right _ (List.mem_append_right _ (List.mem_append_right _ (List.mem_append_right _ (List.mem_append_left _ (List.mem_cons_of_mem _ h)))))))))))) (fun h => List.mem_cons_of_mem _ (List.mem_append_right _ h)))) w_f_X2_advance_good
theorem g_f_X5_number_X2_advance_V30 : GoodIn w_f_X5_number (wsV RX5 30 RX2 yX2_advance w_f_X2_advance) := goodIn_app (nb_g4 (List.mem_cons_of_mem _ (List.mem_append_left _ (List.mem_append_left _ (List.mem_of_getElem? (i := 23) rfl)))) (List.mem_cons_of_mem _ (List.mem_append_left _ (List.mem_append_left _ (List.mem_of_getElem? (i := 24) rfl)))) (List.mem_cons_of_mem _ (List.mem_append_left _ (List.mem_append_left _ (List.mem_of_getElem? (i := 25) rfl)))) (List.mem_cons_of_mem _ (List.mem_append_left _ (List.mem_append_left _ (List.mem_of_getElem? (i := 26) rfl)))) (by decide +kernel)) gg_f_X5_number_X2_advance
theorem gg_f_X5_number_X7_emit__P : GoodIn w_f_X5_number w_f_X7_emit__P := goodIn_sub (fun w h => (List.mem_cons.mp h).elim (fun e => (List.mem_cons_of_mem _ (List.mem_append_left _ (List.mem_append_right _ (List.mem_append_right _ (List.mem_append_right _ (List.mem_append_left _ (List.mem_cons.mpr (Or.inl e))))))))) (fun h => (List.mem_append.mp h).elim (fun h => (List.mem_cons_of_mem _ (List.mem_append_left _ (List.mem_append_right _ (List.mem_append_right _ (List.mem_append_right _ (List.mem_append_left _ (List.mem_cons_of_mem _ h)))))))) (fun h => List.mem_cons_of_mem _ (List.mem_append_right _ h)))) w_f_X7_emit__P_good
theorem g_f_X5_number_X7_emit__P_V66 : GoodIn w_f_X5_number (wsV RX5 66 RX7 yX7_emit w_f_X7_emit__P) := goodIn_app (nb_g4 (List.mem_cons_of_mem _ (List.mem_append_left _ (List.mem_append_left _ (List.mem_of_getElem? (i := 11) rfl)))) (List.mem_cons_of_mem _ (List.mem_append_left _ (List.mem_append_left _ (List.mem_of_getElem? (i := 12) rfl)))) (List.mem_cons_of_mem _ (List.mem_append_left _ (List.mem_append_left _ (List.mem_of_getElem? (i := 13) rfl)))) (List.mem_cons_of_mem _ (List.mem_append_left _ (List.mem_append_left _ (List.mem_of_getElem? (i := 14) rfl)))) (by decide +kernel)) gg_f_X5_number_X7_emit__P
theorem gg_f_X5_number_X7_word__P : GoodIn w_f_X5_number w_f_X7_word__P := goodIn_sub (fun w h => (List.mem_cons.mp h).elim (fun e => (List.mem_cons_of_mem _ (List.mem_append_left _ (List.mem_append_right _ (List.mem_append_right _ (List.mem_append_right _ (List.mem_append_right _ (List.mem_append_right _ (List.mem_append_left _ (List.mem_cons.mpr (Or.inl e))))))))))) (fun h => (List.mem_append.mp h).elim (fun h => (List.mem_cons_of_mem _ (List.mem_append_left _ (List.mem_append_right _ (List.mem_append_right _ (List.mem_append_right _ (List.mem_append_right _ (List.mem_append_right _ (List.mem_append_left _ (List.mem_cons_of_mem _ h)))))))))) (fun h => List.mem_cons_of_mem _ (List.mem_append_right _ h)))) w_f_X7_word__P_good
theorem g_f_X5_number_X7_word__P_V243 : GoodIn w_f_X5_number (wsV RX5 243 RX7 yX7_word w_f_X7_word__P) := goodIn_app (nb_g4 (List.mem_cons_of_mem _ (List.mem_append_left _ (List.mem_append_left _ (List.mem_of_getElem? (i := 17) rfl)))) (List.mem_cons_of_mem _ (List.mem_append_left _ (List.mem_append_left _ (List.mem_of_getElem? (i := 18) rfl)))) (List.mem_cons_of_mem _ (List.mem_append_left _ (List.mem_append_left _ (List.mem_of_getElem? (i := 19) rfl)))) (List.mem_cons_of_mem _ (List.mem_append_left _ (List.mem_append_left _ (List.mem_of_getElem? (i := 14) rfl)))) (by decide +kernel)) gg_f_X5_number_X7_word__P
theorem gg_f_X5_number_X10_readDigits__z38 : GoodIn w_f_X5_number w_y_X10_readDigits__z38 := goodIn_sub (fun w h => (List.mem_cons.mp h).elim (fun e => (List.mem_cons_of_mem _ (List.mem_append_left _ (List.mem_append_right _ (List.mem_append_left _ (List.mem_cons.mpr (Or.inl e))))))) (fun h => (List.mem_append.mp h).elim (fun h => (List.mem_cons_of_mem _ (List.mem_append_left _ (List.mem_append_right _ (List.mem_append_left _ (List.mem_cons_of_mem _ h)))))) (fun h => List.mem_cons_of_mem _ (List.mem_append_right _ h)))) w_y_X10_readDigits__z38_good
theorem g_y_X5_number_X10_readDigits__z38_V418 : GoodIn w_f_X5_number (wsV RX5 418 RX10 yX10_readDigits w_y_X10_readDigits__z38) := goodIn_app (nb_g4 (List.mem_cons_of_mem _ (List.mem_append_left _ (List.mem_append_left _ (List.mem_of_getElem? (i := 2) rfl)))) (List.mem_cons_of_mem _ (List.mem_append_left _ (List.mem_append_left _ (List.mem_of_getElem? (i := 3) rfl)))) (List.mem_cons_of_mem _ (List.mem_append_left _ (List.mem_append_left _ (List.mem_of_getElem? (i := 4) rfl)))) (List.mem_cons_of_mem _ (List.mem_append_left _ (List.mem_append_left _ (List.mem_of_getElem? (i := 5) rfl)))) (by decide +kernel)) gg_f_X5_number_X10_readDigits__z38
theorem gg_f_X5_number_X10_resultLimb : GoodIn w_f_X5_number w_y_X10_resultLimb := goodIn_sub (fun w h => (List.mem_cons.mp h).elim (fun e => (List.mem_cons_of_mem _ (List.mem_append_left _ (List.mem_append_right _ (List.mem_append_right _ (List.mem_append_left _ (List.mem_cons.mpr (Or.inl e)))))))) (fun h => (List.mem_append.mp h).elim (fun h => (List.mem_cons_of_mem _ (List.mem_append_left _ (List.mem_append_right _ (List.mem_append_right _ (List.mem_append_left _ (List.mem_cons_of_mem _ h))))))) (fun h => List.mem_cons_of_mem _ (List.mem_append_right _ h)))) w_y_X10_resultLimb_good
theorem g_y_X5_number_X10_resultLimb_V424 : GoodIn w_f_X5_number (wsV RX5 424 RX10 yX10_resultLimb w_y_X10_resultLimb) := goodIn_app (nb_g4 (List.mem_cons_of_mem _ (List.mem_append_left _ (List.mem_append_left _ (List.mem_of_getElem? (i := 6) rfl)))) (List.mem_cons_of_mem _ (List.mem_append_left _ (List.mem_append_left _ (List.mem_of_getElem? (i := 7) rfl)))) (List.mem_cons_of_mem _ (List.mem_append_left _ (List.mem_append_left _ (List.mem_of_getElem? (i := 8) rfl)))) (List.mem_cons_of_mem _ (List.mem_append_left _ (List.mem_append_left _ (List.mem_of_getElem? (i := 5) rfl)))) (by decide +kernel)) gg_f_X5_number_X10_resultLimb
theorem gg_f_X5_number_X10_small : GoodIn w_f_X5_number w_y_X10_small := goodIn_sub (fun w h => (List.mem_cons.mp h).elim (fun e => (List.mem_cons_of_mem _ (List.mem_append_left _ (List.mem_append_right _ (List.mem_append_right _ (List.mem_append_right _ (List.mem_append_right _ (List.mem_append_left _ (List.mem_cons.mpr (Or.inl e)))))))))) (fun h => (List.mem_append.mp h).elim (fun h => (List.mem_cons_of_mem _ (List.mem_append_left _ (List.mem_append_right _ (List.mem_append_right _ (List.mem_append_right _ (List.mem_append_right _ (List.mem_append_left _ (List.mem_cons_of_mem _ h))))))))) (fun h => List.mem_cons_of_mem _ (List.mem_append_right _ h)))) w_y_X10_small_good
theorem g_y_X5_number_X10_small_S428 : GoodIn w_f_X5_number (va_wsS RX5 428 yX10_small w_y_X10_small) := goodIn_app (nb_g3 (List.mem_cons_of_mem _ (List.mem_append_left _ (List.mem_append_left _ (List.mem_of_getElem? (i := 15) rfl)))) (List.mem_cons_of_mem _ (List.mem_append_left _ (List.mem_append_left _ (List.mem_of_getElem? (i := 16) rfl)))) (List.mem_cons_of_mem _ (List.mem_append_left _ (List.mem_append_left _ (List.mem_of_getElem? (i := 5) rfl)))) (by decide +kernel)) gg_f_X5_number_X10_small
theorem gg_f_X5_number_X1_header : GoodIn w_f_X5_number w_y_X1_header := goodIn_sub (fun w h => (List.mem_cons.mp h).elim (fun e => (List.mem_cons_of_mem _ (List.mem_append_left _ (List.mem_append_right _ (List.mem_append_right _ (List.mem_append_right _ (List.mem_append_right _ (List.mem_append_right _ (List.mem_append_right _ (List.mem_append_left _ (List.mem_cons.mpr (Or.inl e)))))))))))) (fun h => (List.mem_append.mp h).elim (fun h => (List.mem_cons_of_mem _ (List.mem_append_left _ (List.mem_append_right _ (List.mem_append_right _ (List.mem_append_right _ (List.mem_append_right _ (List.mem_append_right _ (List.mem_append_right _ (List.mem_append_left _ (List.mem_cons_of_mem _ h))))))))))) (fun h => List.mem_cons_of_mem _ (List.mem_append_right _ h)))) w_y_X1_header_good
theorem g_y_X5_number_X1_header_S431 : GoodIn w_f_X5_number (va_wsS RX5 431 yX1_header w_y_X1_header) := goodIn_app (nb_g3 (List.mem_cons_of_mem _ (List.mem_append_left _ (List.mem_append_left _ (List.mem_of_getElem? (i := 20) rfl)))) (List.mem_cons_of_mem _ (List.mem_append_left _ (List.mem_append_left _ (List.mem_of_getElem? (i := 21) rfl)))) (List.mem_cons_of_mem _ (List.mem_append_left _ (List.mem_append_left _ (List.mem_of_getElem? (i := 22) rfl)))) (by decide +kernel)) gg_f_X5_number_X1_header
set_option maxHeartbeats 40000000 in
set_option maxRecDepth 100000 in
theorem c_f_X5_number (l : Launch) (hl0 : l.stackTraces = false) (dC : Nat → ClassId) (dI : Nat → Nat → Nat) (cy : Nat → ClassId) (ek a : Nat → Nat) (k0 : Nat) (L0 : LV) (σ0 : CS) (r0 : RS) (h0 : f_X5_number k0 0 L0 σ0 = some r0) (z : Nat → Nat) (sz : Nat) : vx_Met l yX5_number w_f_X5_number ({ frames := 8, cells := r0.2.2.1, slots := r0.2.2.2, locals := 143 }) (va_Pc [.ref (a 40)] (nInF (dC, dI) cy ek sz (vC cy a z σ0))) (xV dC dI cy a (va_A (vC cy a z σ0) sz) [43, 51] z r0) (xX dC dI cy a (va_A (vC cy a z σ0) sz) [43, 51] z r0) r0.2.2.1 r0.2.2.2 (va_A (vC cy a z σ0) sz) := by
  refine vx_ofW (cc := cX5_number) (maxL := 4) (ret := none) (by decide) rfl ?_
  intro p e s m args below meth c s₁ B hml hno hv
  obtain ⟨rfl, ⟨⟨hsz, hP, hK, hD0, hG⟩, hE⟩, hT⟩ := hv
  have hx := B.exec
  have hb := B.bytes
  have hr := B.returns
  have hts := atoms_spec (ws := w_f_X5_number) B.pre
  have hown : s.vm.findClass RX5 = some m.cls := findClass_of_methodNamed B.named
  have hlocks := B.notSynchronized
  subst hsz
  have hD := hD0.self (sz := s.heap.size)
  generalize hAe : va_A (vC cy a z σ0) s.heap.size = A at hD hE hT ⊢
  have hA : ∀ q : Nat, s.heap.size ≤ q → A q := fun q h => by rw [← hAe]; exact Or.inr h
  have hS : va_S A s.heap s.heap [] := va_S.rf
  have hl := lv_entry ([.ref (a 40)]) (n := 4) (Nat.le_of_ble_eq_true rfl)
  rw [lg_entry_eq]
  generalize (lg_sl ([.ref (a 40)]) ++ List.replicate (4 - (lg_sl ([.ref (a 40)])).length) Slot.unset).toArray = ls at hl ⊢
  have hl : lv_has ls 4 [(0, .ref (a 40))] := hl
  generalize hmc : r0.2.2.1 = mc
  generalize hms : r0.2.2.2 = ms
  have blk : ∀ k : Nat, (bX p l e (headSpec w_f_X5_number ({ frames := 8, cells := mc, slots := ms, locals := 143 })).room s m #[.ref (a 40)] below meth c dC dI cy a A (fun r => vx_MQ below (xV dC dI cy a A [43, 51] z r) (xX dC dI cy a A [43, 51] z r) #[.ref (a 40)] s mc ms A) [43, 51] z mc ms 4 (f_X5_number k 0) (fun z L => [(0, .ref (a 40))]) 0 (fun z L => [])) ∧ (bX p l e (headSpec w_f_X5_number ({ frames := 8, cells := mc, slots := ms, locals := 143 })).room s m #[.ref (a 40)] below meth c dC dI cy a A (fun r => vx_MQ below (xV dC dI cy a A [43, 51] z r) (xX dC dI cy a A [43, 51] z r) #[.ref (a 40)] s mc ms A) [43, 51] z mc ms 4 (f_X5_number k 1) (fun z L => [(0, .ref (a 40)), (2, .int (L.1 2))]) 58 (fun z L => [])) ∧ (bX p l e (headSpec w_f_X5_number ({ frames := 8, cells := mc, slots := ms, locals := 143 })).room s m #[.ref (a 40)] below meth c dC dI cy a A (fun r => vx_MQ below (xV dC dI cy a A [43, 51] z r) (xX dC dI cy a A [43, 51] z r) #[.ref (a 40)] s mc ms A) [43, 51] z mc ms 4 (f_X5_number k 2) (fun z L => [(0, .ref (a 40)), (1, .int (L.1 1))]) 84 (fun z L => [])) ∧ (bX p l e (headSpec w_f_X5_number ({ frames := 8, cells := mc, slots := ms, locals := 143 })).room s m #[.ref (a 40)] below meth c dC dI cy a A (fun r => vx_MQ below (xV dC dI cy a A [43, 51] z r) (xX dC dI cy a A [43, 51] z r) #[.ref (a 40)] s mc ms A) [43, 51] z mc ms 4 (f_X5_number k 3) (fun z L => [(0, .ref (a 40))]) 144 (fun z L => [])) ∧ (bX p l e (headSpec w_f_X5_number ({ frames := 8, cells := mc, slots := ms, locals := 143 })).room s m #[.ref (a 40)] below meth c dC dI cy a A (fun r => vx_MQ below (xV dC dI cy a A [43, 51] z r) (xX dC dI cy a A [43, 51] z r) #[.ref (a 40)] s mc ms A) [43, 51] z mc ms 4 (f_X5_number k 4) (fun z L => [(0, .ref (a 40)), (1, .int (L.1 1)), (3, .int (L.1 3))]) 117 (fun z L => [])) := by
    intro k
    induction k with
    | zero => exact ⟨fun z c1 c2 L σ r h => (by cases h), fun z c1 c2 L σ r h => (by cases h), fun z c1 c2 L σ r h => (by cases h), fun z c1 c2 L σ r h => (by cases h), fun z c1 c2 L σ r h => (by cases h)⟩
    | succ k ih =>
      refine ⟨?_, ?_, ?_, ?_, ?_⟩
      · intro z cells slots L σ r h hzk hc hs H locs ls hP hD hS hl
        rw [f_X5_number] at h
        refine lv_aload_n hx hb dX5_number_0 rfl (lv_at hl 0 rfl) ?_
        refine hg_40_1 hx hb hts in_f_X5_number_X5 hown hK hP (hts _ (List.mem_cons_of_mem _ (List.mem_append_left _ (List.mem_append_left _ (List.mem_of_getElem? (i := 0) rfl))))) dX5_number_1 ?_
        refine lv_aload_n hx hb dX5_number_4 rfl (lv_at hl 0 rfl) ?_
        refine hg_40_0 hx hb hts in_f_X5_number_X5 hown hK hP (hts _ (List.mem_cons_of_mem _ (List.mem_append_left _ (List.mem_append_left _ (List.mem_of_getElem? (i := 1) rfl))))) dX5_number_5 ?_
        refine hg_37_0n hx hb hts in_f_X5_number_X2 hown hK hP (va_Nw.use rfl (hG.1 _ (List.mem_of_getElem? (i := 50) rfl))) dX5_number_8 ?_
        refine lv_aload_n hx hb dX5_number_11 rfl (lv_at hl 0 rfl) ?_
        refine hg_40_0 hx hb hts in_f_X5_number_X5 hown hK hP (hts _ (List.mem_cons_of_mem _ (List.mem_append_left _ (List.mem_append_left _ (List.mem_of_getElem? (i := 1) rfl))))) dX5_number_12 ?_
        refine hg_37_3n hx hb hts in_f_X5_number_X2 hown hK hP (va_Nw.use rfl (hG.1 _ (List.mem_of_getElem? (i := 54) rfl))) dX5_number_15 ?_
        refine lv_aload_n hx hb dX5_number_18 rfl (lv_at hl 0 rfl) ?_
        refine hg_40_0 hx hb hts in_f_X5_number_X5 hown hK hP (hts _ (List.mem_cons_of_mem _ (List.mem_append_left _ (List.mem_append_left _ (List.mem_of_getElem? (i := 1) rfl))))) dX5_number_19 ?_
        refine hg_37_4n hx hb hts in_f_X5_number_X2 hown hK hP (va_Nw.use rfl (hG.1 _ (List.mem_of_getElem? (i := 57) rfl))) dX5_number_22 ?_
        obtain ⟨r1, hc1, h⟩ := op_ex h
        refine kc_i (va_runV (As := [.ref (z 38), .int (σ.1 3703), .int (σ.1 3704)]) (rest := []) ⟨hx, hb, hml, hown, hts⟩ (c_y_X10_readDigits__z38 l dC dI cy a z k (lI (lI lZ 2 ((σ.1 3703))) 3 ((σ.1 3704))) σ r1 hc1 H.size) (cwV 3 hts g_y_X5_number_X10_readDigits__z38_V418 rfl rfl rfl hd_y_X10_readDigits__z38 ⟨Nat.le_of_ble_eq_true rfl, Nat.le_of_ble_eq_true rfl⟩) ⟨nb_blind, va_recv hK hP (ci := 9) (q0 := 4) rfl rfl, (kb_pre hK hG hP hD)⟩ rfl rfl hl.1 rfl (lv_room (Nat.le_of_ble_eq_true rfl)) dX5_number_25 ⟨(Nat.le_trans (Nat.le_add_right _ _) (Nat.le_of_eq hc)), (Nat.le_trans (Nat.le_add_right _ _) (Nat.le_of_eq hs))⟩) hA hP hD hS (fun H locs hP hD hS => ?_)
        refine lv_istore_n (lv' := [(1, .int r1.1), (0, .ref (a 40))]) hx hb dX5_number_28 rfl hl (by decide) rfl (fun ls hl => ?_)
        refine lv_aload_n hx hb dX5_number_29 rfl (lv_at hl 1 rfl) ?_
        refine hg_40_1 hx hb hts in_f_X5_number_X5 hown hK hP (hts _ (List.mem_cons_of_mem _ (List.mem_append_left _ (List.mem_append_left _ (List.mem_of_getElem? (i := 0) rfl))))) dX5_number_30 ?_
        refine lv_iconst (v := 0) hx hb dX5_number_33 (by decide) ?_
        obtain ⟨r2, hc2, h⟩ := op_ex h
        refine kc_i (va_runV (As := [.int 0]) (rest := []) ⟨hx, hb, hml, hown, hts⟩ (c_y_X10_resultLimb l dC dI cy a z k (lI lZ 1 0) r1.2 r2 hc2 H.size) (cwV 1 hts g_y_X5_number_X10_resultLimb_V424 rfl rfl rfl hd_y_X10_resultLimb ⟨Nat.le_of_ble_eq_true rfl, Nat.le_of_ble_eq_true rfl⟩) ⟨nb_blind, va_recv hK hP (ci := 9) (q0 := 4) rfl rfl, (kb_pre hK hG hP hD)⟩ rfl rfl hl.1 rfl (lv_room (Nat.le_of_ble_eq_true rfl)) dX5_number_34 ⟨(Nat.le_trans (Nat.le_add_right _ _) (Nat.le_of_eq hc)), (Nat.le_trans (Nat.le_add_right _ _) (Nat.le_of_eq hs))⟩) hA hP hD hS (fun H locs hP hD hS => ?_)
        refine lv_istore_n (lv' := [(2, .int r2.1), (1, .int r1.1), (0, .ref (a 40))]) hx hb dX5_number_37 rfl hl (by decide) rfl (fun ls hl => ?_)
        refine lv_iload_n hx hb dX5_number_38 rfl (lv_at hl 1 rfl) ?_
        refine lv_if_eq (tgt := 58) hx hb dX5_number_39 (by decide) (fun c3 => ?_) (fun c3 => ?_)
        · rw [if_pos c3] at h
          exact ih.2.1 z _ _ (lI L 2 r2.1) r2.2 _ h hzk hc hs H locs ls hP hD hS (lv_sub hl [2, 0] rfl)
        · rw [if_neg c3] at h
          refine lv_iload_n hx hb dX5_number_42 rfl (lv_at hl 1 rfl) ?_
          refine lv_iconst (v := 1) hx hb dX5_number_43 (by decide) ?_
          refine lv_icmp_ne (tgt := 84) hx hb dX5_number_44 (by decide) (fun c4 => ?_) (fun c4 => ?_)
          · rw [if_neg c4] at h
            exact ih.2.2.1 z _ _ (lI L 1 r1.1) r2.2 _ h hzk hc hs H locs ls hP hD hS (lv_sub hl [2, 1] rfl)
          · rw [if_pos c4] at h
            refine lv_iload_n hx hb dX5_number_47 rfl (lv_at hl 0 rfl) ?_
            refine lv_if_lt (tgt := 84) hx hb dX5_number_48 (by decide) (fun c5 => ?_) (fun c5 => ?_)
            · rw [if_pos c5] at h
              exact ih.2.2.1 z _ _ (lI L 1 r1.1) r2.2 _ h hzk hc hs H locs ls hP hD hS (lv_sub hl [2, 1] rfl)
            · rw [if_neg c5] at h
              refine lv_iload_n hx hb dX5_number_51 rfl (lv_at hl 0 rfl) ?_
              refine lv_ldcw (v := 134217728) hx hb hown (hts _ (List.mem_cons_of_mem _ (List.mem_append_left _ (List.mem_append_left _ (List.mem_of_getElem? (i := 9) rfl))))) dX5_number_52 ?_
              refine lv_icmp_ge (tgt := 84) hx hb dX5_number_55 (by decide) (fun c6 => ?_) (fun c6 => ?_)
              · rw [if_pos c6] at h
                exact ih.2.2.1 z _ _ (lI L 1 r1.1) r2.2 _ h hzk hc hs H locs ls hP hD hS (lv_sub hl [2, 1] rfl)
              · rw [if_neg c6] at h
                exact ih.2.1 z _ _ (lI L 2 r2.1) r2.2 _ h hzk hc hs H locs ls hP hD hS (lv_sub hl [2, 0] rfl)
      · intro z cells slots L σ r h hzk hc hs H locs ls hP hD hS hl
        rw [f_X5_number] at h
        refine lv_aload_n hx hb dX5_number_58 rfl (lv_at hl 0 rfl) ?_
        obtain ⟨b1, hb1, h⟩ := oP_ex h
        refine hgq_40_2 hx hb hts in_f_X5_number_X5 hown hK hP (hts _ (List.mem_cons_of_mem _ (List.mem_append_left _ (List.mem_append_left _ (List.mem_of_getElem? (i := 10) rfl))))) hb1 dX5_number_59 ?_
        refine lv_bipush (v := 33) hx hb dX5_number_62 (by decide) ?_
        refine lv_iconst (v := 0) hx hb dX5_number_64 (by decide) ?_
        obtain ⟨r2, hc2, hle2, h9⟩ := ox_ex h
        clear h
        refine kx_i (vx_runV (As := [.int 33, .int 0]) (rest := []) ⟨hx, hb, hml, hown, hts⟩ (c_f_X7_emit__P l hl0 dC dI cy ek a k (lI (lI (lB lZ 0 b1) 1 33) 2 0) σ r2 hc2 z H.size) (cwV 2 hts g_f_X5_number_X7_emit__P_V66 rfl rfl rfl hd_f_X7_emit__P ⟨Nat.le_of_ble_eq_true rfl, Nat.le_of_ble_eq_true rfl⟩) ⟨nb_blindF, recvP b1 hK hP, (kx_pre hK hG hE hT hA hP hD hS)⟩ rfl rfl hl.1 rfl (lv_room (Nat.le_of_ble_eq_true rfl)) dX5_number_65 ⟨Nat.le_trans (Nat.add_le_add_left hle2.1 _) (Nat.le_of_eq hc), Nat.le_trans (Nat.add_le_add_left hle2.2 _) (Nat.le_of_eq hs)⟩) hK hA hzk hP hD hS (by decide) hno hlocks ?_
        rcases h9 with ⟨h00, y2, hny2, hy⟩ | ⟨h00, hy⟩
        · subst hy
          have h := hny2
          refine Or.inl ⟨h00, fun z H locs hz2 hzk hP hD hS => ?_⟩
          replace hc := (Nat.add_assoc _ _ _).trans hc
          replace hs := (Nat.add_assoc _ _ _).trans hs
          refine lv_pop hx hb dX5_number_68 rfl ?_
          refine lv_aload_n hx hb dX5_number_69 rfl (lv_at hl 0 rfl) ?_
          obtain ⟨b3, hb3, h⟩ := oP_ex h
          refine hgq_40_2 hx hb hts in_f_X5_number_X5 hown hK hP (hts _ (List.mem_cons_of_mem _ (List.mem_append_left _ (List.mem_append_left _ (List.mem_of_getElem? (i := 10) rfl))))) hb3 dX5_number_70 ?_
          refine lv_iload_n hx hb dX5_number_73 rfl (lv_at hl 1 rfl) ?_
          obtain ⟨r4, hc4, h⟩ := op_ex h
          refine kc_i (va_runS (As := [.int (L.1 2)]) (rest := [.ref (a (pA b3))]) ⟨hx, hb, hml, hown, hts⟩ (c_y_X10_small l dC dI cy a z k (lI lZ 0 ((L.1 2))) r2.2.1 r4 hc4 H.size) (va_cwS 1 hts g_y_X5_number_X10_small_S428 rfl rfl rfl hd_y_X10_small ⟨Nat.le_of_ble_eq_true rfl, Nat.le_of_ble_eq_true rfl⟩) ⟨nb_blind, (kb_pre hK hG hP hD)⟩ rfl rfl hl.1 rfl (lv_room (Nat.le_of_ble_eq_true rfl)) dX5_number_74 ⟨(Nat.le_trans (Nat.le_add_right _ _) (Nat.le_of_eq hc)), (Nat.le_trans (Nat.le_add_right _ _) (Nat.le_of_eq hs))⟩) hA hP hD hS (fun H locs hP hD hS => ?_)
          obtain ⟨r5, hc5, hle5, h9⟩ := ox_ex h
          clear h
          refine kx_i (r := y2) (vx_runV (As := [.int r4.1]) (rest := []) ⟨hx, hb, hml, hown, hts⟩ (c_f_X7_word__P l hl0 dC dI cy ek a k (lI (lB lZ 0 b3) 1 r4.1) r4.2 r5 hc5 z H.size) (cwV 1 hts g_f_X5_number_X7_word__P_V243 rfl rfl rfl hd_f_X7_word__P ⟨Nat.le_of_ble_eq_true rfl, Nat.le_of_ble_eq_true rfl⟩) ⟨nb_blindF, recvP b3 hK hP, (kx_pre hK hG hE hT hA hP hD hS)⟩ rfl rfl hl.1 rfl (lv_room (Nat.le_of_ble_eq_true rfl)) dX5_number_77 ⟨Nat.le_trans (Nat.add_le_add_left hle5.1 _) (Nat.le_of_eq hc), Nat.le_trans (Nat.add_le_add_left hle5.2 _) (Nat.le_of_eq hs)⟩) hK hA hzk hP hD hS (by decide) hno hlocks ?_
          rcases h9 with ⟨h00, y5, hny5, hy⟩ | ⟨h00, hy⟩
          · subst hy
            have h := hny5
            refine Or.inl ⟨h00, fun z H locs hz5 hzk hP hD hS => ?_⟩
            replace hc := (Nat.add_assoc _ _ _).trans hc
            replace hs := (Nat.add_assoc _ _ _).trans hs
            refine lv_pop hx hb dX5_number_80 rfl ?_
            refine lv_goto (tgt := 144) hx hb dX5_number_81 (by decide) ?_
            exact ih.2.2.2.1 z _ _ L r5.2.1 _ h hzk hc hs H locs ls hP hD hS (lv_sub hl [0] rfl)
          · subst hy
            exact Or.inr ⟨h00, rfl, hc, hs⟩
        · subst hy
          exact Or.inr ⟨h00, rfl, hc, hs⟩
      · intro z cells slots L σ r h hzk hc hs H locs ls hP hD hS hl
        rw [f_X5_number] at h
        refine lv_aload_n hx hb dX5_number_84 rfl (lv_at hl 0 rfl) ?_
        obtain ⟨b1, hb1, h⟩ := oP_ex h
        refine hgq_40_2 hx hb hts in_f_X5_number_X5 hown hK hP (hts _ (List.mem_cons_of_mem _ (List.mem_append_left _ (List.mem_append_left _ (List.mem_of_getElem? (i := 10) rfl))))) hb1 dX5_number_85 ?_
        refine lv_bipush (v := 34) hx hb dX5_number_88 (by decide) ?_
        refine lv_iload_n hx hb dX5_number_90 rfl (lv_at hl 1 rfl) ?_
        refine lv_iconst (v := 1) hx hb dX5_number_91 (by decide) ?_
        refine lv_iadd hx hb dX5_number_92 ?_
        obtain ⟨r2, hc2, hle2, h9⟩ := ox_ex h
        clear h
        refine kx_i (vx_runV (As := [.int 34, .int (((L.1 1)) + 1)]) (rest := []) ⟨hx, hb, hml, hown, hts⟩ (c_f_X7_emit__P l hl0 dC dI cy ek a k (lI (lI (lB lZ 0 b1) 1 34) 2 ((((L.1 1)) + 1))) σ r2 hc2 z H.size) (cwV 2 hts g_f_X5_number_X7_emit__P_V66 rfl rfl rfl hd_f_X7_emit__P ⟨Nat.le_of_ble_eq_true rfl, Nat.le_of_ble_eq_true rfl⟩) ⟨nb_blindF, recvP b1 hK hP, (kx_pre hK hG hE hT hA hP hD hS)⟩ rfl rfl hl.1 rfl (lv_room (Nat.le_of_ble_eq_true rfl)) dX5_number_93 ⟨Nat.le_trans (Nat.add_le_add_left hle2.1 _) (Nat.le_of_eq hc), Nat.le_trans (Nat.add_le_add_left hle2.2 _) (Nat.le_of_eq hs)⟩) hK hA hzk hP hD hS (by decide) hno hlocks ?_
        rcases h9 with ⟨h00, y2, hny2, hy⟩ | ⟨h00, hy⟩
        · subst hy
          have h := hny2
          refine Or.inl ⟨h00, fun z H locs hz2 hzk hP hD hS => ?_⟩
          replace hc := (Nat.add_assoc _ _ _).trans hc
          replace hs := (Nat.add_assoc _ _ _).trans hs
          refine lv_pop hx hb dX5_number_96 rfl ?_
          refine lv_aload_n hx hb dX5_number_97 rfl (lv_at hl 0 rfl) ?_
          obtain ⟨b3, hb3, h⟩ := oP_ex h
          refine hgq_40_2 hx hb hts in_f_X5_number_X5 hown hK hP (hts _ (List.mem_cons_of_mem _ (List.mem_append_left _ (List.mem_append_left _ (List.mem_of_getElem? (i := 10) rfl))))) hb3 dX5_number_98 ?_
          refine lv_iconst (v := 2) hx hb dX5_number_101 (by decide) ?_
          refine lv_iconst (v := 0) hx hb dX5_number_102 (by decide) ?_
          refine lv_iload_n hx hb dX5_number_103 rfl (lv_at hl 1 rfl) ?_
          refine lv_iconst (v := 1) hx hb dX5_number_104 (by decide) ?_
          refine lv_iload_n hx hb dX5_number_105 rfl (lv_at hl 1 rfl) ?_
          refine lv_iadd hx hb dX5_number_106 ?_
          refine lv_iconst (v := 0) hx hb dX5_number_107 (by decide) ?_
          obtain ⟨r4, hc4, h⟩ := op_ex h
          refine kc_i (va_runS (As := [.int 2, .int 0, .int (L.1 1), .int (1 + ((L.1 1))), .int 0]) (rest := [.ref (a (pA b3))]) ⟨hx, hb, hml, hown, hts⟩ (c_y_X1_header l dC dI cy a z k (lI (lI (lI (lI (lI lZ 0 2) 1 0) 2 ((L.1 1))) 3 ((1 + ((L.1 1))))) 4 0) r2.2.1 r4 hc4 H.size) (va_cwS 5 hts g_y_X5_number_X1_header_S431 rfl rfl rfl hd_y_X1_header ⟨Nat.le_of_ble_eq_true rfl, Nat.le_of_ble_eq_true rfl⟩) ⟨nb_blind, (kb_pre hK hG hP hD)⟩ rfl rfl hl.1 rfl (lv_room (Nat.le_of_ble_eq_true rfl)) dX5_number_108 ⟨(Nat.le_trans (Nat.le_add_right _ _) (Nat.le_of_eq hc)), (Nat.le_trans (Nat.le_add_right _ _) (Nat.le_of_eq hs))⟩) hA hP hD hS (fun H locs hP hD hS => ?_)
          obtain ⟨r5, hc5, hle5, h9⟩ := ox_ex h
          clear h
          refine kx_i (r := y2) (vx_runV (As := [.int r4.1]) (rest := []) ⟨hx, hb, hml, hown, hts⟩ (c_f_X7_word__P l hl0 dC dI cy ek a k (lI (lB lZ 0 b3) 1 r4.1) r4.2 r5 hc5 z H.size) (cwV 1 hts g_f_X5_number_X7_word__P_V243 rfl rfl rfl hd_f_X7_word__P ⟨Nat.le_of_ble_eq_true rfl, Nat.le_of_ble_eq_true rfl⟩) ⟨nb_blindF, recvP b3 hK hP, (kx_pre hK hG hE hT hA hP hD hS)⟩ rfl rfl hl.1 rfl (lv_room (Nat.le_of_ble_eq_true rfl)) dX5_number_111 ⟨Nat.le_trans (Nat.add_le_add_left hle5.1 _) (Nat.le_of_eq hc), Nat.le_trans (Nat.add_le_add_left hle5.2 _) (Nat.le_of_eq hs)⟩) hK hA hzk hP hD hS (by decide) hno hlocks ?_
          rcases h9 with ⟨h00, y5, hny5, hy⟩ | ⟨h00, hy⟩
          · subst hy
            have h := hny5
            refine Or.inl ⟨h00, fun z H locs hz5 hzk hP hD hS => ?_⟩
            replace hc := (Nat.add_assoc _ _ _).trans hc
            replace hs := (Nat.add_assoc _ _ _).trans hs
            refine lv_pop hx hb dX5_number_114 rfl ?_
            refine lv_iconst (v := 0) hx hb dX5_number_115 (by decide) ?_
            refine lv_istore_n (lv' := [(3, .int 0), (0, .ref (a 40)), (1, .int (L.1 1))]) hx hb dX5_number_116 rfl hl (by decide) rfl (fun ls hl => ?_)
            exact ih.2.2.2.2 z _ _ (lI L 3 0) r5.2.1 _ h hzk hc hs H locs ls hP hD hS (lv_sub hl [1, 2, 0] rfl)
          · subst hy
            exact Or.inr ⟨h00, rfl, hc, hs⟩
        · subst hy
          exact Or.inr ⟨h00, rfl, hc, hs⟩
      · intro z cells slots L σ r h hzk hc hs H locs ls hP hD hS hl
        rw [f_X5_number] at h
        refine lv_aload_n hx hb dX5_number_144 rfl (lv_at hl 0 rfl) ?_
        refine hg_40_0 hx hb hts in_f_X5_number_X5 hown hK hP (hts _ (List.mem_cons_of_mem _ (List.mem_append_left _ (List.mem_append_left _ (List.mem_of_getElem? (i := 1) rfl))))) dX5_number_145 ?_
        obtain ⟨r1, hc1, hle1, h9⟩ := ox_ex h
        clear h
        refine kx_v (vx_runV (As := []) (rest := []) ⟨hx, hb, hml, hown, hts⟩ (c_f_X2_advance l hl0 dC dI cy ek a k lZ σ r1 hc1 z H.size) (cwV 0 hts g_f_X5_number_X2_advance_V30 rfl rfl rfl hd_f_X2_advance ⟨Nat.le_of_ble_eq_true rfl, Nat.le_of_ble_eq_true rfl⟩) ⟨nb_blindF, va_recv hK hP (ci := 2) (q0 := 37) rfl rfl, (kx_pre hK hG hE hT hA hP hD hS)⟩ rfl rfl hl.1 rfl (lv_room (Nat.le_of_ble_eq_true rfl)) dX5_number_148 ⟨Nat.le_trans (Nat.add_le_add_left hle1.1 _) (Nat.le_of_eq hc), Nat.le_trans (Nat.add_le_add_left hle1.2 _) (Nat.le_of_eq hs)⟩) hK hA hzk hP hD hS (by decide) hno hlocks ?_
        rcases h9 with ⟨h00, y1, hny1, hy⟩ | ⟨h00, hy⟩
        · subst hy
          have h := hny1
          refine Or.inl ⟨h00, fun u H locs hz1 hzk hP hD hS => ?_⟩
          obtain rfl := (zk_nil hz1).symm
          replace hc := (Nat.add_assoc _ _ _).trans hc
          replace hs := (Nat.add_assoc _ _ _).trans hs
          obtain rfl := Option.some.inj h
          subst hc
          subst hs
          exact xr_v hx hb hr hK hzk hP hD hS hlocks dX5_number_151
        · subst hy
          exact Or.inr ⟨h00, rfl, hc, hs⟩
      · intro z cells slots L σ r h hzk hc hs H locs ls hP hD hS hl
        rw [f_X5_number] at h
        refine lv_iload_n hx hb dX5_number_117 rfl (lv_at hl 2 rfl) ?_
        refine lv_iload_n hx hb dX5_number_118 rfl (lv_at hl 1 rfl) ?_
        refine lv_icmp_ge (tgt := 144) hx hb dX5_number_119 (by decide) (fun c1 => ?_) (fun c1 => ?_)
        · rw [if_pos c1] at h
          exact ih.2.2.2.1 z _ _ L σ _ h hzk hc hs H locs ls hP hD hS (lv_sub hl [0] rfl)
        · rw [if_neg c1] at h
          refine lv_aload_n hx hb dX5_number_122 rfl (lv_at hl 0 rfl) ?_
          obtain ⟨b2, hb2, h⟩ := oP_ex h
          refine hgq_40_2 hx hb hts in_f_X5_number_X5 hown hK hP (hts _ (List.mem_cons_of_mem _ (List.mem_append_left _ (List.mem_append_left _ (List.mem_of_getElem? (i := 10) rfl))))) hb2 dX5_number_123 ?_
          refine lv_aload_n hx hb dX5_number_126 rfl (lv_at hl 0 rfl) ?_
          refine hg_40_1 hx hb hts in_f_X5_number_X5 hown hK hP (hts _ (List.mem_cons_of_mem _ (List.mem_append_left _ (List.mem_append_left _ (List.mem_of_getElem? (i := 0) rfl))))) dX5_number_127 ?_
          refine lv_iload_n hx hb dX5_number_130 rfl (lv_at hl 2 rfl) ?_
          obtain ⟨r3, hc3, h⟩ := op_ex h
          refine kc_i (va_runV (As := [.int (L.1 3)]) (rest := [.ref (a (pA b2))]) ⟨hx, hb, hml, hown, hts⟩ (c_y_X10_resultLimb l dC dI cy a z k (lI lZ 1 ((L.1 3))) σ r3 hc3 H.size) (cwV 1 hts g_y_X5_number_X10_resultLimb_V424 rfl rfl rfl hd_y_X10_resultLimb ⟨Nat.le_of_ble_eq_true rfl, Nat.le_of_ble_eq_true rfl⟩) ⟨nb_blind, va_recv hK hP (ci := 9) (q0 := 4) rfl rfl, (kb_pre hK hG hP hD)⟩ rfl rfl hl.1 rfl (lv_room (Nat.le_of_ble_eq_true rfl)) dX5_number_131 ⟨(Nat.le_trans (Nat.le_add_right _ _) (Nat.le_of_eq hc)), (Nat.le_trans (Nat.le_add_right _ _) (Nat.le_of_eq hs))⟩) hA hP hD hS (fun H locs hP hD hS => ?_)
          obtain ⟨r4, hc4, hle4, h9⟩ := ox_ex h
          clear h
          refine kx_i (vx_runV (As := [.int r3.1]) (rest := []) ⟨hx, hb, hml, hown, hts⟩ (c_f_X7_word__P l hl0 dC dI cy ek a k (lI (lB lZ 0 b2) 1 r3.1) r3.2 r4 hc4 z H.size) (cwV 1 hts g_f_X5_number_X7_word__P_V243 rfl rfl rfl hd_f_X7_word__P ⟨Nat.le_of_ble_eq_true rfl, Nat.le_of_ble_eq_true rfl⟩) ⟨nb_blindF, recvP b2 hK hP, (kx_pre hK hG hE hT hA hP hD hS)⟩ rfl rfl hl.1 rfl (lv_room (Nat.le_of_ble_eq_true rfl)) dX5_number_134 ⟨Nat.le_trans (Nat.add_le_add_left hle4.1 _) (Nat.le_of_eq hc), Nat.le_trans (Nat.add_le_add_left hle4.2 _) (Nat.le_of_eq hs)⟩) hK hA hzk hP hD hS (by decide) hno hlocks ?_
          rcases h9 with ⟨h00, y4, hny4, hy⟩ | ⟨h00, hy⟩
          · subst hy
            have h := hny4
            refine Or.inl ⟨h00, fun z H locs hz4 hzk hP hD hS => ?_⟩
            replace hc := (Nat.add_assoc _ _ _).trans hc
            replace hs := (Nat.add_assoc _ _ _).trans hs
            refine lv_pop hx hb dX5_number_137 rfl ?_
            refine lv_iinc (v := ((L.1 3)) + 1) (lv' := [(3, .int (((L.1 3)) + 1)), (0, .ref (a 40)), (1, .int (L.1 1))]) hx hb dX5_number_138 hl (k := 2) rfl rfl (by decide) rfl (fun ls hl => ?_)
            refine lv_goto (tgt := 117) hx hb dX5_number_141 (by decide) ?_
            exact ih.2.2.2.2 z _ _ (lI L 3 ((((L.1 3)) + 1))) r4.2.1 _ h hzk hc hs H locs ls hP hD hS (lv_sub hl [1, 2, 0] rfl)
          · subst hy
            exact Or.inr ⟨h00, rfl, hc, hs⟩
  exact (blk k0).1 z 0 0 L0 σ0 r0 h0 (zk_rf _ _) ((Nat.zero_add _).trans hmc) ((Nat.zero_add _).trans hms) s.heap [] ls hP hD hS hl

/-! X5_modeAndParameter -/
def f_X5_modeAndParameter : Nat → Nat → LV → CS → Option RS
  | 0, _, _, _ => none
  | k + 1, 0, L, σ => if ((σ.1 3702)) = 35 then (f_X5_modeAndParameter k 1 L σ) else (if ((σ.1 3702)) = 36 then (f_X5_modeAndParameter k 1 L σ) else (if ((σ.1 3702)) = 37 then (f_X5_modeAndParameter k 1 L σ) else (f_X5_modeAndParameter k 2 (lI L 2 0) σ)))
  | k + 1, 1, L, σ => ox (f_X2_advance k 0 lZ σ) (fun r1 => f_X5_modeAndParameter k 2 (lI L 2 ((((σ.1 3702)) - 35))) r1.2.1)
  | k + 1, 2, L, σ => oP (sPp σ) (fun b1 => if ¬ (((σ.1 4003)) < 0 ∨ 42 ≤ ((σ.1 4003)).toNatClampNeg) then (ox (f_X5_parameter k 0 (lI lZ 1 ((L.1 1))) σ) (fun r3 => oP (sPp r3.2.1) (fun b4 => oP (sPp r3.2.1) (fun b5 => if ¬ (((r3.2.1.1 4003)) < 0 ∨ 42 ≤ ((r3.2.1.1 4003)).toNatClampNeg) then (if ¬ (((r3.2.1.1 4003)) < 0 ∨ 42 ≤ ((r3.2.1.1 4003)).toNatClampNeg) then (some ((0, 0), (uA r3.2.1 (pR15 b4) ((r3.2.1.1 4003)).toNatClampNeg ((((r3.2.1.2.2.1 (pR15 b5) ((r3.2.1.1 4003)).toNatClampNeg)) ||| ((((L.1 2)) <<< (((2 * ((σ.2.2.1 (pR14 b1) ((σ.1 4003)).toNatClampNeg)))) &&& 31)))))), (0, 0))) else none) else none)))) else none)
  | _ + 1, _ + 3, _, _ => none
def o_f_X5_modeAndParameter : List Cond := [.fieldLink RX5 18 "SetHouse$Parser" "lex" "LSetHouse$Lexer;", .methodLink RX5 30 yX2_advance, .instanceMethod yX2_advance, .selects RX2 yX2_advance yX2_advance, .initialized RX2, .fieldLink RX5 93 "SetHouse$Parser" "p" "LSetHouse$Program;", .fieldLink RX5 97 "SetHouse$Parser" "unit" "I", .methodLink RX5 183 yX5_parameter, .instanceMethod yX5_parameter, .selects RX5 yX5_parameter yX5_parameter, .initialized RX5]
theorem o_f_X5_modeAndParameter_good : o_f_X5_modeAndParameter.all goodWord = true := by decide +kernel
def p_f_X5_modeAndParameter : List Cond := o_f_X5_modeAndParameter ++ ((.code yX2_advance cX2_advance 7 none :: p_f_X2_advance) ++ ((.code yX5_parameter cX5_parameter 2 none :: p_f_X5_parameter) ++ []))
theorem p_f_X5_modeAndParameter_good : p_f_X5_modeAndParameter.all goodWord = true := nb_all2 o_f_X5_modeAndParameter_good (nb_all2 (nb_allc (by decide +kernel) p_f_X2_advance_good) (nb_all2 (nb_allc (by decide +kernel) p_f_X5_parameter_good) rfl))
def w_f_X5_modeAndParameter : List Cond := .code yX5_modeAndParameter cX5_modeAndParameter 4 none :: (p_f_X5_modeAndParameter ++ fC)
theorem w_f_X5_modeAndParameter_good : w_f_X5_modeAndParameter.all goodWord = true := nb_allc (by decide +kernel) (nb_all2 p_f_X5_modeAndParameter_good fC_good)
theorem in_f_X5_modeAndParameter_X2 : ∀ w ∈ wsX20, w ∈ w_f_X5_modeAndParameter := fun _ h => List.mem_cons_of_mem _ (List.mem_append_right _ (List.mem_append_right _ (List.mem_append_right _ (List.mem_append_left _ h))))
theorem in_f_X5_modeAndParameter_X5 : ∀ w ∈ wsX50, w ∈ w_f_X5_modeAndParameter := fun _ h => List.mem_cons_of_mem _ (List.mem_append_right _ (List.mem_append_right _ (List.mem_append_right _ (List.mem_append_right _ (List.mem_append_right _ (List.mem_append_left _ h))))))
theorem in_f_X5_modeAndParameter_X7 : ∀ w ∈ wsX70, w ∈ w_f_X5_modeAndParameter := fun _ h => List.mem_cons_of_mem _ (List.mem_append_right _ (List.mem_append_right _ (List.mem_append_right _ (List.mem_append_right _ (List.mem_append_right _ (List.mem_append_right _ (List.mem_append_right _ (List.mem_append_left _ h))))))))
theorem hd_f_X5_modeAndParameter : yX5_modeAndParameter.cls = RX5 ∧ yX5_modeAndParameter.cls ≠ "java/lang/invoke/MethodHandle" ∧ yX5_modeAndParameter.cls ≠ "java/lang/invoke/VarHandle" ∧ (parseMethodDescriptor yX5_modeAndParameter.desc).map (fun d => d.parameters.length) = some 1 := by decide +kernel
theorem gg_f_X5_modeAndParameter_X2_advance : GoodIn w_f_X5_modeAndParameter w_f_X2_advance := goodIn_sub (fun w h => (List.mem_cons.mp h).elim (fun e => (List.mem_cons_of_mem _ (List.mem_append_left _ (List.mem_append_right _ (List.mem_append_left _ (List.mem_cons.mpr (Or.inl e))))))) (fun h => (List.mem_append.mp h).elim (fun h => (List.mem_cons_of_mem _ (List.mem_append_left _ (List.mem_append_right _ (List.mem_append_left _ (List.mem_cons_of_mem _ h)))))) (fun h => List.mem_cons_of_mem _ (List.mem_append_right _ h)))) w_f_X2_advance_good
theorem g_f_X5_modeAndParameter_X2_advance_V30 : GoodIn w_f_X5_modeAndParameter (wsV RX5 30 RX2 yX2_advance w_f_X2_advance) := goodIn_app (nb_g4 (List.mem_cons_of_mem _ (List.mem_append_left _ (List.mem_append_left _ (List.mem_of_getElem? (i := 1) rfl)))) (List.mem_cons_of_mem _ (List.mem_append_left _ (List.mem_append_left _ (List.mem_of_getElem? (i := 2) rfl)))) (List.mem_cons_of_mem _ (List.mem_append_left _ (List.mem_append_left _ (List.mem_of_getElem? (i := 3) rfl)))) (List.mem_cons_of_mem _ (List.mem_append_left _ (List.mem_append_left _ (List.mem_of_getElem? (i := 4) rfl)))) (by decide +kernel)) gg_f_X5_modeAndParameter_X2_advance
theorem gg_f_X5_modeAndParameter_X5_parameter : GoodIn w_f_X5_modeAndParameter w_f_X5_parameter := goodIn_sub (fun w h => (List.mem_cons.mp h).elim (fun e => (List.mem_cons_of_mem _ (List.mem_append_left _ (List.mem_append_right _ (List.mem_append_right _ (List.mem_append_left _ (List.mem_cons.mpr (Or.inl e)))))))) (fun h => (List.mem_append.mp h).elim (fun h => (List.mem_cons_of_mem _ (List.mem_append_left _ (List.mem_append_right _ (List.mem_append_right _ (List.mem_append_left _ (List.mem_cons_of_mem _ h))))))) (fun h => List.mem_cons_of_mem _ (List.mem_append_right _ h)))) w_f_X5_parameter_good
theorem g_f_X5_modeAndParameter_X5_parameter_V183 : GoodIn w_f_X5_modeAndParameter (wsV RX5 183 RX5 yX5_parameter w_f_X5_parameter) := goodIn_app (nb_g4 (List.mem_cons_of_mem _ (List.mem_append_left _ (List.mem_append_left _ (List.mem_of_getElem? (i := 7) rfl)))) (List.mem_cons_of_mem _ (List.mem_append_left _ (List.mem_append_left _ (List.mem_of_getElem? (i := 8) rfl)))) (List.mem_cons_of_mem _ (List.mem_append_left _ (List.mem_append_left _ (List.mem_of_getElem? (i := 9) rfl)))) (List.mem_cons_of_mem _ (List.mem_append_left _ (List.mem_append_left _ (List.mem_of_getElem? (i := 10) rfl)))) (by decide +kernel)) gg_f_X5_modeAndParameter_X5_parameter
set_option maxHeartbeats 40000000 in
set_option maxRecDepth 100000 in
theorem c_f_X5_modeAndParameter (l : Launch) (hl0 : l.stackTraces = false) (dC : Nat → ClassId) (dI : Nat → Nat → Nat) (cy : Nat → ClassId) (ek a : Nat → Nat) (k0 : Nat) (L0 : LV) (σ0 : CS) (r0 : RS) (h0 : f_X5_modeAndParameter k0 0 L0 σ0 = some r0) (z : Nat → Nat) (sz : Nat) : vx_Met l yX5_modeAndParameter w_f_X5_modeAndParameter ({ frames := 10, cells := r0.2.2.1, slots := r0.2.2.2, locals := 185 }) (va_Pc [.ref (a 40), .int (L0.1 1)] (nInF (dC, dI) cy ek sz (vC cy a z σ0))) (xV dC dI cy a (va_A (vC cy a z σ0) sz) [] z r0) (xX dC dI cy a (va_A (vC cy a z σ0) sz) [] z r0) r0.2.2.1 r0.2.2.2 (va_A (vC cy a z σ0) sz) := by
  refine vx_ofW (cc := cX5_modeAndParameter) (maxL := 4) (ret := none) (by decide) rfl ?_
  intro p e s m args below meth c s₁ B hml hno hv
  obtain ⟨rfl, ⟨⟨hsz, hP, hK, hD0, hG⟩, hE⟩, hT⟩ := hv
  have hx := B.exec
  have hb := B.bytes
  have hr := B.returns
  have hts := atoms_spec (ws := w_f_X5_modeAndParameter) B.pre
  have hown : s.vm.findClass RX5 = some m.cls := findClass_of_methodNamed B.named
  have hlocks := B.notSynchronized
  subst hsz
  have hD := hD0.self (sz := s.heap.size)
  generalize hAe : va_A (vC cy a z σ0) s.heap.size = A at hD hE hT ⊢
  have hA : ∀ q : Nat, s.heap.size ≤ q → A q := fun q h => by rw [← hAe]; exact Or.inr h
  have hS : va_S A s.heap s.heap [] := va_S.rf
  have hl := lv_entry ([.ref (a 40), .int (L0.1 1)]) (n := 4) (Nat.le_of_ble_eq_true rfl)
  rw [lg_entry_eq]
  generalize (lg_sl ([.ref (a 40), .int (L0.1 1)]) ++ List.replicate (4 - (lg_sl ([.ref (a 40), .int (L0.1 1)])).length) Slot.unset).toArray = ls at hl ⊢
  have hl : lv_has ls 4 [(0, .ref (a 40)), (1, .int (L0.1 1))] := hl
  generalize hmc : r0.2.2.1 = mc
  generalize hms : r0.2.2.2 = ms
  have blk : ∀ k : Nat, (bX p l e (headSpec w_f_X5_modeAndParameter ({ frames := 10, cells := mc, slots := ms, locals := 185 })).room s m #[.ref (a 40), .int (L0.1 1)] below meth c dC dI cy a A (fun r => vx_MQ below (xV dC dI cy a A [] z r) (xX dC dI cy a A [] z r) #[.ref (a 40), .int (L0.1 1)] s mc ms A) [] z mc ms 4 (f_X5_modeAndParameter k 0) (fun z L => [(0, .ref (a 40)), (1, .int (L.1 1))]) 0 (fun z L => [])) ∧ (bX p l e (headSpec w_f_X5_modeAndParameter ({ frames := 10, cells := mc, slots := ms, locals := 185 })).room s m #[.ref (a 40), .int (L0.1 1)] below meth c dC dI cy a A (fun r => vx_MQ below (xV dC dI cy a A [] z r) (xX dC dI cy a A [] z r) #[.ref (a 40), .int (L0.1 1)] s mc ms A) [] z mc ms 4 (f_X5_modeAndParameter k 1) (fun z L => [(0, .ref (a 40)), (1, .int (L.1 1))]) 38 (fun z L => [])) ∧ (bX p l e (headSpec w_f_X5_modeAndParameter ({ frames := 10, cells := mc, slots := ms, locals := 185 })).room s m #[.ref (a 40), .int (L0.1 1)] below meth c dC dI cy a A (fun r => vx_MQ below (xV dC dI cy a A [] z r) (xX dC dI cy a A [] z r) #[.ref (a 40), .int (L0.1 1)] s mc ms A) [] z mc ms 4 (f_X5_modeAndParameter k 2) (fun z L => [(0, .ref (a 40)), (1, .int (L.1 1)), (2, .int (L.1 2))]) 56 (fun z L => [])) := by
    intro k
    induction k with
    | zero => exact ⟨fun z c1 c2 L σ r h => (by cases h), fun z c1 c2 L σ r h => (by cases h), fun z c1 c2 L σ r h => (by cases h)⟩
    | succ k ih =>
      refine ⟨?_, ?_, ?_⟩
      · intro z cells slots L σ r h hzk hc hs H locs ls hP hD hS hl
        rw [f_X5_modeAndParameter] at h
        refine lv_iconst (v := 0) hx hb dX5_modeAndParameter_0 (by decide) ?_
        refine lv_istore_n (lv' := [(2, .int 0), (0, .ref (a 40)), (1, .int (L.1 1))]) hx hb dX5_modeAndParameter_1 rfl hl (by decide) rfl (fun ls hl => ?_)
        refine lv_aload_n hx hb dX5_modeAndParameter_2 rfl (lv_at hl 1 rfl) ?_
        refine hg_40_0 hx hb hts in_f_X5_modeAndParameter_X5 hown hK hP (hts _ (List.mem_cons_of_mem _ (List.mem_append_left _ (List.mem_append_left _ (List.mem_of_getElem? (i := 0) rfl))))) dX5_modeAndParameter_3 ?_
        refine hg_37_2n hx hb hts in_f_X5_modeAndParameter_X2 hown hK hP (va_Nw.use rfl (hG.1 _ (List.mem_of_getElem? (i := 52) rfl))) dX5_modeAndParameter_6 ?_
        refine lv_bipush (v := 35) hx hb dX5_modeAndParameter_9 (by decide) ?_
        refine lv_icmp_eq (tgt := 38) hx hb dX5_modeAndParameter_11 (by decide) (fun c1 => ?_) (fun c1 => ?_)
        · rw [if_pos c1] at h
          exact ih.2.1 z _ _ L σ _ h hzk hc hs H locs ls hP hD hS (lv_sub hl [1, 2] rfl)
        · rw [if_neg c1] at h
          refine lv_aload_n hx hb dX5_modeAndParameter_14 rfl (lv_at hl 1 rfl) ?_
          refine hg_40_0 hx hb hts in_f_X5_modeAndParameter_X5 hown hK hP (hts _ (List.mem_cons_of_mem _ (List.mem_append_left _ (List.mem_append_left _ (List.mem_of_getElem? (i := 0) rfl))))) dX5_modeAndParameter_15 ?_
          refine hg_37_2n hx hb hts in_f_X5_modeAndParameter_X2 hown hK hP (va_Nw.use rfl (hG.1 _ (List.mem_of_getElem? (i := 52) rfl))) dX5_modeAndParameter_18 ?_
          refine lv_bipush (v := 36) hx hb dX5_modeAndParameter_21 (by decide) ?_
          refine lv_icmp_eq (tgt := 38) hx hb dX5_modeAndParameter_23 (by decide) (fun c2 => ?_) (fun c2 => ?_)
          · rw [if_pos c2] at h
            exact ih.2.1 z _ _ L σ _ h hzk hc hs H locs ls hP hD hS (lv_sub hl [1, 2] rfl)
          · rw [if_neg c2] at h
            refine lv_aload_n hx hb dX5_modeAndParameter_26 rfl (lv_at hl 1 rfl) ?_
            refine hg_40_0 hx hb hts in_f_X5_modeAndParameter_X5 hown hK hP (hts _ (List.mem_cons_of_mem _ (List.mem_append_left _ (List.mem_append_left _ (List.mem_of_getElem? (i := 0) rfl))))) dX5_modeAndParameter_27 ?_
            refine hg_37_2n hx hb hts in_f_X5_modeAndParameter_X2 hown hK hP (va_Nw.use rfl (hG.1 _ (List.mem_of_getElem? (i := 52) rfl))) dX5_modeAndParameter_30 ?_
            refine lv_bipush (v := 37) hx hb dX5_modeAndParameter_33 (by decide) ?_
            refine lv_icmp_ne (tgt := 56) hx hb dX5_modeAndParameter_35 (by decide) (fun c3 => ?_) (fun c3 => ?_)
            · rw [if_neg c3] at h
              exact ih.2.2 z _ _ (lI L 2 0) σ _ h hzk hc hs H locs ls hP hD hS (lv_sub hl [1, 2, 0] rfl)
            · rw [if_pos c3] at h
              exact ih.2.1 z _ _ L σ _ h hzk hc hs H locs ls hP hD hS (lv_sub hl [1, 2] rfl)
      · intro z cells slots L σ r h hzk hc hs H locs ls hP hD hS hl
        rw [f_X5_modeAndParameter] at h
        refine lv_aload_n hx hb dX5_modeAndParameter_38 rfl (lv_at hl 0 rfl) ?_
        refine hg_40_0 hx hb hts in_f_X5_modeAndParameter_X5 hown hK hP (hts _ (List.mem_cons_of_mem _ (List.mem_append_left _ (List.mem_append_left _ (List.mem_of_getElem? (i := 0) rfl))))) dX5_modeAndParameter_39 ?_
        refine hg_37_2n hx hb hts in_f_X5_modeAndParameter_X2 hown hK hP (va_Nw.use rfl (hG.1 _ (List.mem_of_getElem? (i := 52) rfl))) dX5_modeAndParameter_42 ?_
        refine lv_bipush (v := 35) hx hb dX5_modeAndParameter_45 (by decide) ?_
        refine lv_isub hx hb dX5_modeAndParameter_47 ?_
        refine lv_istore_n (lv' := [(2, .int (((σ.1 3702)) - 35)), (0, .ref (a 40)), (1, .int (L.1 1))]) hx hb dX5_modeAndParameter_48 rfl hl (by decide) rfl (fun ls hl => ?_)
        refine lv_aload_n hx hb dX5_modeAndParameter_49 rfl (lv_at hl 1 rfl) ?_
        refine hg_40_0 hx hb hts in_f_X5_modeAndParameter_X5 hown hK hP (hts _ (List.mem_cons_of_mem _ (List.mem_append_left _ (List.mem_append_left _ (List.mem_of_getElem? (i := 0) rfl))))) dX5_modeAndParameter_50 ?_
        obtain ⟨r1, hc1, hle1, h9⟩ := ox_ex h
        clear h
        refine kx_v (vx_runV (As := []) (rest := []) ⟨hx, hb, hml, hown, hts⟩ (c_f_X2_advance l hl0 dC dI cy ek a k lZ σ r1 hc1 z H.size) (cwV 0 hts g_f_X5_modeAndParameter_X2_advance_V30 rfl rfl rfl hd_f_X2_advance ⟨Nat.le_of_ble_eq_true rfl, Nat.le_of_ble_eq_true rfl⟩) ⟨nb_blindF, va_recv hK hP (ci := 2) (q0 := 37) rfl rfl, (kx_pre hK hG hE hT hA hP hD hS)⟩ rfl rfl hl.1 rfl (lv_room (Nat.le_of_ble_eq_true rfl)) dX5_modeAndParameter_53 ⟨Nat.le_trans (Nat.add_le_add_left hle1.1 _) (Nat.le_of_eq hc), Nat.le_trans (Nat.add_le_add_left hle1.2 _) (Nat.le_of_eq hs)⟩) hK hA hzk hP hD hS (by decide) hno hlocks ?_
        rcases h9 with ⟨h00, y1, hny1, hy⟩ | ⟨h00, hy⟩
        · subst hy
          have h := hny1
          refine Or.inl ⟨h00, fun u H locs hz1 hzk hP hD hS => ?_⟩
          obtain rfl := (zk_nil hz1).symm
          replace hc := (Nat.add_assoc _ _ _).trans hc
          replace hs := (Nat.add_assoc _ _ _).trans hs
          exact ih.2.2 z _ _ (lI L 2 ((((σ.1 3702)) - 35))) r1.2.1 _ h hzk hc hs H locs ls hP hD hS (lv_sub hl [1, 2, 0] rfl)
        · subst hy
          exact Or.inr ⟨h00, rfl, hc, hs⟩
      · intro z cells slots L σ r h hzk hc hs H locs ls hP hD hS hl
        rw [f_X5_modeAndParameter] at h
        refine lv_aload_n hx hb dX5_modeAndParameter_56 rfl (lv_at hl 0 rfl) ?_
        obtain ⟨b1, hb1, h⟩ := oP_ex h
        refine hgq_40_2 hx hb hts in_f_X5_modeAndParameter_X5 hown hK hP (hts _ (List.mem_cons_of_mem _ (List.mem_append_left _ (List.mem_append_left _ (List.mem_of_getElem? (i := 5) rfl))))) hb1 dX5_modeAndParameter_57 ?_
        refine hg_P_14n b1 hx hb hts in_f_X5_modeAndParameter_X7 hown hK hP (va_Nw.use rfl (hG.1 _ (List.mem_of_getElem? (i := 85) rfl))) dX5_modeAndParameter_60 ?_
        refine lv_aload_n hx hb dX5_modeAndParameter_63 rfl (lv_at hl 0 rfl) ?_
        refine hg_40_3 hx hb hts in_f_X5_modeAndParameter_X5 hown hK hP (hts _ (List.mem_cons_of_mem _ (List.mem_append_left _ (List.mem_append_left _ (List.mem_of_getElem? (i := 6) rfl))))) dX5_modeAndParameter_64 ?_
        obtain ⟨q2, h⟩ := kr_ite1 h
        refine hl_P14 b1 hx hb hK hP q2 dX5_modeAndParameter_67 ?_
        refine lv_istore_n (lv' := [(3, .int (σ.2.2.1 (pR14 b1) ((σ.1 4003)).toNatClampNeg)), (0, .ref (a 40)), (1, .int (L.1 1)), (2, .int (L.1 2))]) hx hb dX5_modeAndParameter_68 rfl hl (by decide) rfl (fun ls hl => ?_)
        refine lv_aload_n hx hb dX5_modeAndParameter_69 rfl (lv_at hl 1 rfl) ?_
        refine lv_iload_n hx hb dX5_modeAndParameter_70 rfl (lv_at hl 2 rfl) ?_
        obtain ⟨r3, hc3, hle3, h9⟩ := ox_ex h
        clear h
        refine kx_v (vx_runV (As := [.int (L.1 1)]) (rest := []) ⟨hx, hb, hml, hown, hts⟩ (c_f_X5_parameter l hl0 dC dI cy ek a k (lI lZ 1 ((L.1 1))) σ r3 hc3 z H.size) (cwV 1 hts g_f_X5_modeAndParameter_X5_parameter_V183 rfl rfl rfl hd_f_X5_parameter ⟨Nat.le_of_ble_eq_true rfl, Nat.le_of_ble_eq_true rfl⟩) ⟨nb_blindF, va_recv hK hP (ci := 4) (q0 := 40) rfl rfl, (kx_pre hK hG hE hT hA hP hD hS)⟩ rfl rfl hl.1 rfl (lv_room (Nat.le_of_ble_eq_true rfl)) dX5_modeAndParameter_71 ⟨Nat.le_trans (Nat.add_le_add_left hle3.1 _) (Nat.le_of_eq hc), Nat.le_trans (Nat.add_le_add_left hle3.2 _) (Nat.le_of_eq hs)⟩) hK hA hzk hP hD hS (by decide) hno hlocks ?_
        rcases h9 with ⟨h00, y3, hny3, hy⟩ | ⟨h00, hy⟩
        · subst hy
          have h := hny3
          refine Or.inl ⟨h00, fun u H locs hz3 hzk hP hD hS => ?_⟩
          obtain rfl := (zk_nil hz3).symm
          replace hc := (Nat.add_assoc _ _ _).trans hc
          replace hs := (Nat.add_assoc _ _ _).trans hs
          refine lv_aload_n hx hb dX5_modeAndParameter_74 rfl (lv_at hl 1 rfl) ?_
          obtain ⟨b4, hb4, h⟩ := oP_ex h
          refine hgq_40_2 hx hb hts in_f_X5_modeAndParameter_X5 hown hK hP (hts _ (List.mem_cons_of_mem _ (List.mem_append_left _ (List.mem_append_left _ (List.mem_of_getElem? (i := 5) rfl))))) hb4 dX5_modeAndParameter_75 ?_
          refine hg_P_15n b4 hx hb hts in_f_X5_modeAndParameter_X7 hown hK hP (va_Nw.use rfl (hG.1 _ (List.mem_of_getElem? (i := 87) rfl))) dX5_modeAndParameter_78 ?_
          refine lv_aload_n hx hb dX5_modeAndParameter_81 rfl (lv_at hl 1 rfl) ?_
          refine hg_40_3 hx hb hts in_f_X5_modeAndParameter_X5 hown hK hP (hts _ (List.mem_cons_of_mem _ (List.mem_append_left _ (List.mem_append_left _ (List.mem_of_getElem? (i := 6) rfl))))) dX5_modeAndParameter_82 ?_
          refine lv_aload_n hx hb dX5_modeAndParameter_85 rfl (lv_at hl 1 rfl) ?_
          obtain ⟨b5, hb5, h⟩ := oP_ex h
          refine hgq_40_2 hx hb hts in_f_X5_modeAndParameter_X5 hown hK hP (hts _ (List.mem_cons_of_mem _ (List.mem_append_left _ (List.mem_append_left _ (List.mem_of_getElem? (i := 5) rfl))))) hb5 dX5_modeAndParameter_86 ?_
          refine hg_P_15n b5 hx hb hts in_f_X5_modeAndParameter_X7 hown hK hP (va_Nw.use rfl (hG.1 _ (List.mem_of_getElem? (i := 87) rfl))) dX5_modeAndParameter_89 ?_
          refine lv_aload_n hx hb dX5_modeAndParameter_92 rfl (lv_at hl 1 rfl) ?_
          refine hg_40_3 hx hb hts in_f_X5_modeAndParameter_X5 hown hK hP (hts _ (List.mem_cons_of_mem _ (List.mem_append_left _ (List.mem_append_left _ (List.mem_of_getElem? (i := 6) rfl))))) dX5_modeAndParameter_93 ?_
          obtain ⟨q6, h⟩ := kr_ite1 h
          refine hl_P15 b5 hx hb hK hP q6 dX5_modeAndParameter_96 ?_
          refine lv_iload_n hx hb dX5_modeAndParameter_97 rfl (lv_at hl 3 rfl) ?_
          refine lv_iconst (v := 2) hx hb dX5_modeAndParameter_98 (by decide) ?_
          refine lv_iload_n hx hb dX5_modeAndParameter_99 rfl (lv_at hl 0 rfl) ?_
          refine lv_imul hx hb dX5_modeAndParameter_100 ?_
          refine lv_ishl hx hb dX5_modeAndParameter_101 ?_
          refine lv_ior hx hb dX5_modeAndParameter_102 ?_
          obtain ⟨q7, h⟩ := kr_ite1 h
          refine hs_P15 b4 hx hb hK hP hD hS q7 dX5_modeAndParameter_103 (fun H locs hP hD hS => ?_)
          obtain rfl := Option.some.inj h
          subst hc
          subst hs
          exact xr_v hx hb hr hK hzk hP hD hS hlocks dX5_modeAndParameter_104
        · subst hy
          exact Or.inr ⟨h00, rfl, hc, hs⟩
  exact (blk k0).1 z 0 0 L0 σ0 r0 h0 (zk_rf _ _) ((Nat.zero_add _).trans hmc) ((Nat.zero_add _).trans hms) s.heap [] ls hP hD hS hl
/-! X5_checkStatement -/
def f_X5_checkStatement : Nat → Nat → LV → CS → Option RS
  | 0, _, _, _ => none
  | k + 1, 0, L, σ => if ((σ.1 3702)) = 14 then (f_X5_checkStatement k 1 (lI L 1 ((σ.1 3702))) σ) else (if ((σ.1 3702)) = 39 then (f_X5_checkStatement k 1 (lI L 1 ((σ.1 3702))) σ) else (if ((σ.1 3702)) = 43 then (f_X5_checkStatement k 1 (lI L 1 ((σ.1 3702))) σ) else (if ((σ.1 3702)) = 45 then (f_X5_checkStatement k 1 (lI L 1 ((σ.1 3702))) σ) else (f_X5_checkStatement k 2 (lI L 1 ((σ.1 3702))) σ))))
  | k + 1, 1, L, σ => f_X5_checkStatement k 3 (lI L 100 1) σ
  | k + 1, 2, L, σ => f_X5_checkStatement k 3 (lI L 100 0) σ
  | k + 1, 3, L, σ => if ((L.1 100)) = 0 then (f_X5_checkStatement k 4 L σ) else (if ((σ.1 4005)) < 20 then (f_X5_checkStatement k 4 L σ) else (ox (f_X5_refuse k 0 (lI (lI lZ 1 3) 2 ((σ.1 3703))) σ) (fun r3 => f_X5_checkStatement k 4 L r3.2.1)))
  | k + 1, 4, L, σ => oP (sPp σ) (fun b1 => if ((σ.1 (fP b1 3))) < 400 then (f_X5_checkStatement k 5 L σ) else (ox (f_X5_refuse k 0 (lI (lI lZ 1 8) 2 ((σ.1 3703))) σ) (fun r3 => f_X5_checkStatement k 5 L r3.2.1)))
  | k + 1, 5, L, σ => if ((σ.1 4008)) = ((-1)) then (f_X5_checkStatement k 6 L σ) else (f_X5_checkStatement k 7 (lI L 100 1) σ)
  | k + 1, 6, L, σ => f_X5_checkStatement k 7 (lI L 100 0) σ
  | k + 1, 7, L, σ => if ((L.1 1)) = 49 then (f_X5_checkStatement k 8 (lI L 3 ((L.1 100))) σ) else (if ((L.1 1)) = 50 then (f_X5_checkStatement k 8 (lI L 3 ((L.1 100))) σ) else (f_X5_checkStatement k 9 L σ))
  | k + 1, 8, L, σ => if ((L.1 3)) = 0 then (f_X5_checkStatement k 10 L σ) else (f_X5_checkStatement k 9 L σ)
  | k + 1, 9, L, σ => if ((L.1 1)) = 51 then (if ((σ.1 4003)) = 0 then (f_X5_checkStatement k 10 L σ) else (f_X5_checkStatement k 11 L σ)) else (f_X5_checkStatement k 11 L σ)
  | k + 1, 10, L, σ => ox (f_X5_refuse k 0 (lI (lI lZ 1 7) 2 ((σ.1 3703))) σ) (fun r1 => f_X5_checkStatement k 11 L r1.2.1)
  | k + 1, 11, L, σ => some ((0, 0), σ, (0, 0))
  | _ + 1, _ + 12, _, _ => none
def o_f_X5_checkStatement : List Cond := [.fieldLink RX5 18 "SetHouse$Parser" "lex" "LSetHouse$Lexer;", .fieldLink RX5 103 "SetHouse$Parser" "open" "I", .methodLink RX5 125 yX5_refuse, .instanceMethod yX5_refuse, .selects RX5 yX5_refuse yX5_refuse, .initialized RX5, .fieldLink RX5 93 "SetHouse$Parser" "p" "LSetHouse$Program;", .fieldLink RX5 106 "SetHouse$Parser" "loopNext" "I", .fieldLink RX5 97 "SetHouse$Parser" "unit" "I"]
theorem o_f_X5_checkStatement_good : o_f_X5_checkStatement.all goodWord = true := by decide +kernel
def p_f_X5_checkStatement : List Cond := o_f_X5_checkStatement ++ ((.code yX5_refuse cX5_refuse 3 none :: p_f_X5_refuse) ++ [])
theorem p_f_X5_checkStatement_good : p_f_X5_checkStatement.all goodWord = true := nb_all2 o_f_X5_checkStatement_good (nb_all2 (nb_allc (by decide +kernel) p_f_X5_refuse_good) rfl)
def w_f_X5_checkStatement : List Cond := .code yX5_checkStatement cX5_checkStatement 4 none :: (p_f_X5_checkStatement ++ fC)
theorem w_f_X5_checkStatement_good : w_f_X5_checkStatement.all goodWord = true := nb_allc (by decide +kernel) (nb_all2 p_f_X5_checkStatement_good fC_good)
theorem in_f_X5_checkStatement_X2 : ∀ w ∈ wsX20, w ∈ w_f_X5_checkStatement := fun _ h => List.mem_cons_of_mem _ (List.mem_append_right _ (List.mem_append_right _ (List.mem_append_right _ (List.mem_append_left _ h))))
theorem in_f_X5_checkStatement_X5 : ∀ w ∈ wsX50, w ∈ w_f_X5_checkStatement := fun _ h => List.mem_cons_of_mem _ (List.mem_append_right _ (List.mem_append_right _ (List.mem_append_right _ (List.mem_append_right _ (List.mem_append_right _ (List.mem_append_left _ h))))))
theorem in_f_X5_checkStatement_X7 : ∀ w ∈ wsX70, w ∈ w_f_X5_checkStatement := fun _ h => List.mem_cons_of_mem _ (List.mem_append_right _ (List.mem_append_right _ (List.mem_append_right _ (List.mem_append_right _ (List.mem_append_right _ (List.mem_append_right _ (List.mem_append_right _ (List.mem_append_left _ h))))))))
theorem hd_f_X5_checkStatement : yX5_checkStatement.cls = RX5 ∧ yX5_checkStatement.cls ≠ "java/lang/invoke/MethodHandle" ∧ yX5_checkStatement.cls ≠ "java/lang/invoke/VarHandle" ∧ (parseMethodDescriptor yX5_checkStatement.desc).map (fun d => d.parameters.length) = some 0 := by decide +kernel
theorem gg_f_X5_checkStatement_X5_refuse : GoodIn w_f_X5_checkStatement w_f_X5_refuse := goodIn_sub (fun w h => (List.mem_cons.mp h).elim (fun e => (List.mem_cons_of_mem _ (List.mem_append_left _ (List.mem_append_right _ (List.mem_append_left _ (List.mem_cons.mpr (Or.inl e))))))) (fun h => (List.mem_append.mp h).elim (fun h => (List.mem_cons_of_mem _ (List.mem_append_left _ (List.mem_append_right _ (List.mem_append_left _ (List.mem_cons_of_mem _ h)))))) (fun h => List.mem_cons_of_mem _ (List.mem_append_right _ h)))) w_f_X5_refuse_good
theorem g_f_X5_checkStatement_X5_refuse_V125 : GoodIn w_f_X5_checkStatement (wsV RX5 125 RX5 yX5_refuse w_f_X5_refuse) := goodIn_app (nb_g4 (List.mem_cons_of_mem _ (List.mem_append_left _ (List.mem_append_left _ (List.mem_of_getElem? (i := 2) rfl)))) (List.mem_cons_of_mem _ (List.mem_append_left _ (List.mem_append_left _ (List.mem_of_getElem? (i := 3) rfl)))) (List.mem_cons_of_mem _ (List.mem_append_left _ (List.mem_append_left _ (List.mem_of_getElem? (i := 4) rfl)))) (List.mem_cons_of_mem _ (List.mem_append_left _ (List.mem_append_left _ (List.mem_of_getElem? (i := 5) rfl)))) (by decide +kernel)) gg_f_X5_checkStatement_X5_refuse
set_option maxHeartbeats 40000000 in
set_option maxRecDepth 100000 in
theorem c_f_X5_checkStatement (l : Launch) (hl0 : l.stackTraces = false) (dC : Nat → ClassId) (dI : Nat → Nat → Nat) (cy : Nat → ClassId) (ek a : Nat → Nat) (k0 : Nat) (L0 : LV) (σ0 : CS) (r0 : RS) (h0 : f_X5_checkStatement k0 0 L0 σ0 = some r0) (z : Nat → Nat) (sz : Nat) : vx_Met l yX5_checkStatement w_f_X5_checkStatement ({ frames := 7, cells := r0.2.2.1, slots := r0.2.2.2, locals := 122 }) (va_Pc [.ref (a 40)] (nInF (dC, dI) cy ek sz (vC cy a z σ0))) (xV dC dI cy a (va_A (vC cy a z σ0) sz) [] z r0) (xX dC dI cy a (va_A (vC cy a z σ0) sz) [] z r0) r0.2.2.1 r0.2.2.2 (va_A (vC cy a z σ0) sz) := by
  refine vx_ofW (cc := cX5_checkStatement) (maxL := 4) (ret := none) (by decide) rfl ?_
  intro p e s m args below meth c s₁ B hml hno hv
  obtain ⟨rfl, ⟨⟨hsz, hP, hK, hD0, hG⟩, hE⟩, hT⟩ := hv
  have hx := B.exec
  have hb := B.bytes
  have hr := B.returns
  have hts := atoms_spec (ws := w_f_X5_checkStatement) B.pre
  have hown : s.vm.findClass RX5 = some m.cls := findClass_of_methodNamed B.named
  have hlocks := B.notSynchronized
  subst hsz
  have hD := hD0.self (sz := s.heap.size)
  generalize hAe : va_A (vC cy a z σ0) s.heap.size = A at hD hE hT ⊢
  have hA : ∀ q : Nat, s.heap.size ≤ q → A q := fun q h => by rw [← hAe]; exact Or.inr h
  have hS : va_S A s.heap s.heap [] := va_S.rf
  have hl := lv_entry ([.ref (a 40)]) (n := 4) (Nat.le_of_ble_eq_true rfl)
  rw [lg_entry_eq]
  generalize (lg_sl ([.ref (a 40)]) ++ List.replicate (4 - (lg_sl ([.ref (a 40)])).length) Slot.unset).toArray = ls at hl ⊢
  have hl : lv_has ls 4 [(0, .ref (a 40))] := hl
  generalize hmc : r0.2.2.1 = mc
  generalize hms : r0.2.2.2 = ms
  have blk : ∀ k : Nat, (bX p l e (headSpec w_f_X5_checkStatement ({ frames := 7, cells := mc, slots := ms, locals := 122 })).room s m #[.ref (a 40)] below meth c dC dI cy a A (fun r => vx_MQ below (xV dC dI cy a A [] z r) (xX dC dI cy a A [] z r) #[.ref (a 40)] s mc ms A) [] z mc ms 4 (f_X5_checkStatement k 0) (fun z L => [(0, .ref (a 40))]) 0 (fun z L => [])) ∧ (bX p l e (headSpec w_f_X5_checkStatement ({ frames := 7, cells := mc, slots := ms, locals := 122 })).room s m #[.ref (a 40)] below meth c dC dI cy a A (fun r => vx_MQ below (xV dC dI cy a A [] z r) (xX dC dI cy a A [] z r) #[.ref (a 40)] s mc ms A) [] z mc ms 4 (f_X5_checkStatement k 1) (fun z L => [(0, .ref (a 40)), (1, .int (L.1 1))]) 32 (fun z L => [])) ∧ (bX p l e (headSpec w_f_X5_checkStatement ({ frames := 7, cells := mc, slots := ms, locals := 122 })).room s m #[.ref (a 40)] below meth c dC dI cy a A (fun r => vx_MQ below (xV dC dI cy a A [] z r) (xX dC dI cy a A [] z r) #[.ref (a 40)] s mc ms A) [] z mc ms 4 (f_X5_checkStatement k 2) (fun z L => [(0, .ref (a 40)), (1, .int (L.1 1))]) 36 (fun z L => [])) ∧ (bX p l e (headSpec w_f_X5_checkStatement ({ frames := 7, cells := mc, slots := ms, locals := 122 })).room s m #[.ref (a 40)] below meth c dC dI cy a A (fun r => vx_MQ below (xV dC dI cy a A [] z r) (xX dC dI cy a A [] z r) #[.ref (a 40)] s mc ms A) [] z mc ms 4 (f_X5_checkStatement k 3) (fun z L => [(0, .ref (a 40)), (1, .int (L.1 1))]) 37 (fun z L => [.int (L.1 100)])) ∧ (bX p l e (headSpec w_f_X5_checkStatement ({ frames := 7, cells := mc, slots := ms, locals := 122 })).room s m #[.ref (a 40)] below meth c dC dI cy a A (fun r => vx_MQ below (xV dC dI cy a A [] z r) (xX dC dI cy a A [] z r) #[.ref (a 40)] s mc ms A) [] z mc ms 4 (f_X5_checkStatement k 4) (fun z L => [(0, .ref (a 40)), (1, .int (L.1 1))]) 63 (fun z L => [])) ∧ (bX p l e (headSpec w_f_X5_checkStatement ({ frames := 7, cells := mc, slots := ms, locals := 122 })).room s m #[.ref (a 40)] below meth c dC dI cy a A (fun r => vx_MQ below (xV dC dI cy a A [] z r) (xX dC dI cy a A [] z r) #[.ref (a 40)] s mc ms A) [] z mc ms 4 (f_X5_checkStatement k 5) (fun z L => [(0, .ref (a 40)), (1, .int (L.1 1))]) 89 (fun z L => [])) ∧ (bX p l e (headSpec w_f_X5_checkStatement ({ frames := 7, cells := mc, slots := ms, locals := 122 })).room s m #[.ref (a 40)] below meth c dC dI cy a A (fun r => vx_MQ below (xV dC dI cy a A [] z r) (xX dC dI cy a A [] z r) #[.ref (a 40)] s mc ms A) [] z mc ms 4 (f_X5_checkStatement k 6) (fun z L => [(0, .ref (a 40)), (1, .int (L.1 1))]) 101 (fun z L => [])) ∧ (bX p l e (headSpec w_f_X5_checkStatement ({ frames := 7, cells := mc, slots := ms, locals := 122 })).room s m #[.ref (a 40)] below meth c dC dI cy a A (fun r => vx_MQ below (xV dC dI cy a A [] z r) (xX dC dI cy a A [] z r) #[.ref (a 40)] s mc ms A) [] z mc ms 4 (f_X5_checkStatement k 7) (fun z L => [(0, .ref (a 40)), (1, .int (L.1 1))]) 102 (fun z L => [.int (L.1 100)])) ∧ (bX p l e (headSpec w_f_X5_checkStatement ({ frames := 7, cells := mc, slots := ms, locals := 122 })).room s m #[.ref (a 40)] below meth c dC dI cy a A (fun r => vx_MQ below (xV dC dI cy a A [] z r) (xX dC dI cy a A [] z r) #[.ref (a 40)] s mc ms A) [] z mc ms 4 (f_X5_checkStatement k 8) (fun z L => [(0, .ref (a 40)), (1, .int (L.1 1)), (3, .int (L.1 3))]) 115 (fun z L => [])) ∧ (bX p l e (headSpec w_f_X5_checkStatement ({ frames := 7, cells := mc, slots := ms, locals := 122 })).room s m #[.ref (a 40)] below meth c dC dI cy a A (fun r => vx_MQ below (xV dC dI cy a A [] z r) (xX dC dI cy a A [] z r) #[.ref (a 40)] s mc ms A) [] z mc ms 4 (f_X5_checkStatement k 9) (fun z L => [(0, .ref (a 40)), (1, .int (L.1 1))]) 119 (fun z L => [])) ∧ (bX p l e (headSpec w_f_X5_checkStatement ({ frames := 7, cells := mc, slots := ms, locals := 122 })).room s m #[.ref (a 40)] below meth c dC dI cy a A (fun r => vx_MQ below (xV dC dI cy a A [] z r) (xX dC dI cy a A [] z r) #[.ref (a 40)] s mc ms A) [] z mc ms 4 (f_X5_checkStatement k 10) (fun z L => [(0, .ref (a 40))]) 132 (fun z L => [])) ∧ (bX p l e (headSpec w_f_X5_checkStatement ({ frames := 7, cells := mc, slots := ms, locals := 122 })).room s m #[.ref (a 40)] below meth c dC dI cy a A (fun r => vx_MQ below (xV dC dI cy a A [] z r) (xX dC dI cy a A [] z r) #[.ref (a 40)] s mc ms A) [] z mc ms 4 (f_X5_checkStatement k 11) (fun z L => []) 145 (fun z L => [])) := by
    intro k
    induction k with
    | zero => exact ⟨fun z c1 c2 L σ r h => (by cases h), fun z c1 c2 L σ r h => (by cases h), fun z c1 c2 L σ r h => (by cases h), fun z c1 c2 L σ r h => (by cases h), fun z c1 c2 L σ r h => (by cases h), fun z c1 c2 L σ r h => (by cases h), fun z c1 c2 L σ r h => (by cases h), fun z c1 c2 L σ r h => (by cases h), fun z c1 c2 L σ r h => (by cases h), fun z c1 c2 L σ r h => (by cases h), fun z c1 c2 L σ r h => (by cases h), fun z c1 c2 L σ r h => (by cases h)⟩
    | succ k ih =>
      refine ⟨?_, ?_, ?_, ?_, ?_, ?_, ?_, ?_, ?_, ?_, ?_, ?_⟩
      · intro z cells slots L σ r h hzk hc hs H locs ls hP hD hS hl
        rw [f_X5_checkStatement] at h
        refine lv_aload_n hx hb dX5_checkStatement_0 rfl (lv_at hl 0 rfl) ?_
        refine hg_40_0 hx hb hts in_f_X5_checkStatement_X5 hown hK hP (hts _ (List.mem_cons_of_mem _ (List.mem_append_left _ (List.mem_append_left _ (List.mem_of_getElem? (i := 0) rfl))))) dX5_checkStatement_1 ?_
        refine hg_37_2n hx hb hts in_f_X5_checkStatement_X2 hown hK hP (va_Nw.use rfl (hG.1 _ (List.mem_of_getElem? (i := 52) rfl))) dX5_checkStatement_4 ?_
        refine lv_istore_n (lv' := [(1, .int (σ.1 3702)), (0, .ref (a 40))]) hx hb dX5_checkStatement_7 rfl hl (by decide) rfl (fun ls hl => ?_)
        refine lv_iload_n hx hb dX5_checkStatement_8 rfl (lv_at hl 0 rfl) ?_
        refine lv_bipush (v := 14) hx hb dX5_checkStatement_9 (by decide) ?_
        refine lv_icmp_eq (tgt := 32) hx hb dX5_checkStatement_11 (by decide) (fun c1 => ?_) (fun c1 => ?_)
        · rw [if_pos c1] at h
          exact ih.2.1 z _ _ (lI L 1 ((σ.1 3702))) σ _ h hzk hc hs H locs ls hP hD hS (lv_sub hl [1, 0] rfl)
        · rw [if_neg c1] at h
          refine lv_iload_n hx hb dX5_checkStatement_14 rfl (lv_at hl 0 rfl) ?_
          refine lv_bipush (v := 39) hx hb dX5_checkStatement_15 (by decide) ?_
          refine lv_icmp_eq (tgt := 32) hx hb dX5_checkStatement_17 (by decide) (fun c2 => ?_) (fun c2 => ?_)
          · rw [if_pos c2] at h
            exact ih.2.1 z _ _ (lI L 1 ((σ.1 3702))) σ _ h hzk hc hs H locs ls hP hD hS (lv_sub hl [1, 0] rfl)
          · rw [if_neg c2] at h
            refine lv_iload_n hx hb dX5_checkStatement_20 rfl (lv_at hl 0 rfl) ?_
            refine lv_bipush (v := 43) hx hb dX5_checkStatement_21 (by decide) ?_
            refine lv_icmp_eq (tgt := 32) hx hb dX5_checkStatement_23 (by decide) (fun c3 => ?_) (fun c3 => ?_)
            · rw [if_pos c3] at h
              exact ih.2.1 z _ _ (lI L 1 ((σ.1 3702))) σ _ h hzk hc hs H locs ls hP hD hS (lv_sub hl [1, 0] rfl)
            · rw [if_neg c3] at h
              refine lv_iload_n hx hb dX5_checkStatement_26 rfl (lv_at hl 0 rfl) ?_
              refine lv_bipush (v := 45) hx hb dX5_checkStatement_27 (by decide) ?_
              refine lv_icmp_ne (tgt := 36) hx hb dX5_checkStatement_29 (by decide) (fun c4 => ?_) (fun c4 => ?_)
              · rw [if_neg c4] at h
                exact ih.2.2.1 z _ _ (lI L 1 ((σ.1 3702))) σ _ h hzk hc hs H locs ls hP hD hS (lv_sub hl [1, 0] rfl)
              · rw [if_pos c4] at h
                exact ih.2.1 z _ _ (lI L 1 ((σ.1 3702))) σ _ h hzk hc hs H locs ls hP hD hS (lv_sub hl [1, 0] rfl)
      · intro z cells slots L σ r h hzk hc hs H locs ls hP hD hS hl
        rw [f_X5_checkStatement] at h
        refine lv_iconst (v := 1) hx hb dX5_checkStatement_32 (by decide) ?_
        refine lv_goto (tgt := 37) hx hb dX5_checkStatement_33 (by decide) ?_
        exact ih.2.2.2.1 z _ _ (lI L 100 1) σ _ h hzk hc hs H locs ls hP hD hS (lv_sub hl [0, 1] rfl)
      · intro z cells slots L σ r h hzk hc hs H locs ls hP hD hS hl
        rw [f_X5_checkStatement] at h
        refine lv_iconst (v := 0) hx hb dX5_checkStatement_36 (by decide) ?_
        exact ih.2.2.2.1 z _ _ (lI L 100 0) σ _ h hzk hc hs H locs ls hP hD hS (lv_sub hl [0, 1] rfl)
      · intro z cells slots L σ r h hzk hc hs H locs ls hP hD hS hl
        rw [f_X5_checkStatement] at h
        refine lv_istore_n (lv' := [(2, .int (L.1 100)), (0, .ref (a 40)), (1, .int (L.1 1))]) hx hb dX5_checkStatement_37 rfl hl (by decide) rfl (fun ls hl => ?_)
        refine lv_iload_n hx hb dX5_checkStatement_38 rfl (lv_at hl 0 rfl) ?_
        refine lv_if_eq (tgt := 63) hx hb dX5_checkStatement_39 (by decide) (fun c1 => ?_) (fun c1 => ?_)
        · rw [if_pos c1] at h
          exact ih.2.2.2.2.1 z _ _ L σ _ h hzk hc hs H locs ls hP hD hS (lv_sub hl [1, 2] rfl)
        · rw [if_neg c1] at h
          refine lv_aload_n hx hb dX5_checkStatement_42 rfl (lv_at hl 1 rfl) ?_
          refine hg_40_5 hx hb hts in_f_X5_checkStatement_X5 hown hK hP (hts _ (List.mem_cons_of_mem _ (List.mem_append_left _ (List.mem_append_left _ (List.mem_of_getElem? (i := 1) rfl))))) dX5_checkStatement_43 ?_
          refine lv_bipush (v := 20) hx hb dX5_checkStatement_46 (by decide) ?_
          refine lv_icmp_lt (tgt := 63) hx hb dX5_checkStatement_48 (by decide) (fun c2 => ?_) (fun c2 => ?_)
          · rw [if_pos c2] at h
            exact ih.2.2.2.2.1 z _ _ L σ _ h hzk hc hs H locs ls hP hD hS (lv_sub hl [1, 2] rfl)
          · rw [if_neg c2] at h
            refine lv_aload_n hx hb dX5_checkStatement_51 rfl (lv_at hl 1 rfl) ?_
            refine lv_iconst (v := 3) hx hb dX5_checkStatement_52 (by decide) ?_
            refine lv_aload_n hx hb dX5_checkStatement_53 rfl (lv_at hl 1 rfl) ?_
            refine hg_40_0 hx hb hts in_f_X5_checkStatement_X5 hown hK hP (hts _ (List.mem_cons_of_mem _ (List.mem_append_left _ (List.mem_append_left _ (List.mem_of_getElem? (i := 0) rfl))))) dX5_checkStatement_54 ?_
            refine hg_37_3n hx hb hts in_f_X5_checkStatement_X2 hown hK hP (va_Nw.use rfl (hG.1 _ (List.mem_of_getElem? (i := 54) rfl))) dX5_checkStatement_57 ?_
            obtain ⟨r3, hc3, hle3, h9⟩ := ox_ex h
            clear h
            refine kx_v (vx_runV (As := [.int 3, .int (σ.1 3703)]) (rest := []) ⟨hx, hb, hml, hown, hts⟩ (c_f_X5_refuse l hl0 dC dI cy ek a k (lI (lI lZ 1 3) 2 ((σ.1 3703))) σ r3 hc3 z H.size) (cwV 2 hts g_f_X5_checkStatement_X5_refuse_V125 rfl rfl rfl hd_f_X5_refuse ⟨Nat.le_of_ble_eq_true rfl, Nat.le_of_ble_eq_true rfl⟩) ⟨nb_blindF, va_recv hK hP (ci := 4) (q0 := 40) rfl rfl, (kx_pre hK hG hE hT hA hP hD hS)⟩ rfl rfl hl.1 rfl (lv_room (Nat.le_of_ble_eq_true rfl)) dX5_checkStatement_60 ⟨Nat.le_trans (Nat.add_le_add_left hle3.1 _) (Nat.le_of_eq hc), Nat.le_trans (Nat.add_le_add_left hle3.2 _) (Nat.le_of_eq hs)⟩) hK hA hzk hP hD hS (by decide) hno hlocks ?_
            rcases h9 with ⟨h00, y3, hny3, hy⟩ | ⟨h00, hy⟩
            · subst hy
              have h := hny3
              refine Or.inl ⟨h00, fun u H locs hz3 hzk hP hD hS => ?_⟩
              obtain rfl := (zk_nil hz3).symm
              replace hc := (Nat.add_assoc _ _ _).trans hc
              replace hs := (Nat.add_assoc _ _ _).trans hs
              exact ih.2.2.2.2.1 z _ _ L r3.2.1 _ h hzk hc hs H locs ls hP hD hS (lv_sub hl [1, 2] rfl)
            · subst hy
              exact Or.inr ⟨h00, rfl, hc, hs⟩
      · intro z cells slots L σ r h hzk hc hs H locs ls hP hD hS hl
        rw [f_X5_checkStatement] at h
        refine lv_aload_n hx hb dX5_checkStatement_63 rfl (lv_at hl 0 rfl) ?_
        obtain ⟨b1, hb1, h⟩ := oP_ex h
        refine hgq_40_2 hx hb hts in_f_X5_checkStatement_X5 hown hK hP (hts _ (List.mem_cons_of_mem _ (List.mem_append_left _ (List.mem_append_left _ (List.mem_of_getElem? (i := 6) rfl))))) hb1 dX5_checkStatement_64 ?_
        refine hg_P_3n b1 hx hb hts in_f_X5_checkStatement_X7 hown hK hP (va_Nw.use rfl (hG.1 _ (List.mem_of_getElem? (i := 73) rfl))) dX5_checkStatement_67 ?_
        refine lv_sipush (v := 400) hx hb dX5_checkStatement_70 (by decide) ?_
        refine lv_icmp_lt (tgt := 89) hx hb dX5_checkStatement_73 (by decide) (fun c2 => ?_) (fun c2 => ?_)
        · rw [if_pos c2] at h
          exact ih.2.2.2.2.2.1 z _ _ L σ _ h hzk hc hs H locs ls hP hD hS (lv_sub hl [0, 1] rfl)
        · rw [if_neg c2] at h
          refine lv_aload_n hx hb dX5_checkStatement_76 rfl (lv_at hl 0 rfl) ?_
          refine lv_bipush (v := 8) hx hb dX5_checkStatement_77 (by decide) ?_
          refine lv_aload_n hx hb dX5_checkStatement_79 rfl (lv_at hl 0 rfl) ?_
          refine hg_40_0 hx hb hts in_f_X5_checkStatement_X5 hown hK hP (hts _ (List.mem_cons_of_mem _ (List.mem_append_left _ (List.mem_append_left _ (List.mem_of_getElem? (i := 0) rfl))))) dX5_checkStatement_80 ?_
          refine hg_37_3n hx hb hts in_f_X5_checkStatement_X2 hown hK hP (va_Nw.use rfl (hG.1 _ (List.mem_of_getElem? (i := 54) rfl))) dX5_checkStatement_83 ?_
          obtain ⟨r3, hc3, hle3, h9⟩ := ox_ex h
          clear h
          refine kx_v (vx_runV (As := [.int 8, .int (σ.1 3703)]) (rest := []) ⟨hx, hb, hml, hown, hts⟩ (c_f_X5_refuse l hl0 dC dI cy ek a k (lI (lI lZ 1 8) 2 ((σ.1 3703))) σ r3 hc3 z H.size) (cwV 2 hts g_f_X5_checkStatement_X5_refuse_V125 rfl rfl rfl hd_f_X5_refuse ⟨Nat.le_of_ble_eq_true rfl, Nat.le_of_ble_eq_true rfl⟩) ⟨nb_blindF, va_recv hK hP (ci := 4) (q0 := 40) rfl rfl, (kx_pre hK hG hE hT hA hP hD hS)⟩ rfl rfl hl.1 rfl (lv_room (Nat.le_of_ble_eq_true rfl)) dX5_checkStatement_86 ⟨Nat.le_trans (Nat.add_le_add_left hle3.1 _) (Nat.le_of_eq hc), Nat.le_trans (Nat.add_le_add_left hle3.2 _) (Nat.le_of_eq hs)⟩) hK hA hzk hP hD hS (by decide) hno hlocks ?_
          rcases h9 with ⟨h00, y3, hny3, hy⟩ | ⟨h00, hy⟩
          · subst hy
            have h := hny3
            refine Or.inl ⟨h00, fun u H locs hz3 hzk hP hD hS => ?_⟩
            obtain rfl := (zk_nil hz3).symm
            replace hc := (Nat.add_assoc _ _ _).trans hc
            replace hs := (Nat.add_assoc _ _ _).trans hs
            exact ih.2.2.2.2.2.1 z _ _ L r3.2.1 _ h hzk hc hs H locs ls hP hD hS (lv_sub hl [0, 1] rfl)
          · subst hy
            exact Or.inr ⟨h00, rfl, hc, hs⟩
      · intro z cells slots L σ r h hzk hc hs H locs ls hP hD hS hl
        rw [f_X5_checkStatement] at h
        refine lv_aload_n hx hb dX5_checkStatement_89 rfl (lv_at hl 0 rfl) ?_
        refine hg_40_8 hx hb hts in_f_X5_checkStatement_X5 hown hK hP (hts _ (List.mem_cons_of_mem _ (List.mem_append_left _ (List.mem_append_left _ (List.mem_of_getElem? (i := 7) rfl))))) dX5_checkStatement_90 ?_
        refine lv_iconst (v := (-1)) hx hb dX5_checkStatement_93 (by decide) ?_
        refine lv_icmp_eq (tgt := 101) hx hb dX5_checkStatement_94 (by decide) (fun c1 => ?_) (fun c1 => ?_)
        · rw [if_pos c1] at h
          exact ih.2.2.2.2.2.2.1 z _ _ L σ _ h hzk hc hs H locs ls hP hD hS (lv_sub hl [0, 1] rfl)
        · rw [if_neg c1] at h
          refine lv_iconst (v := 1) hx hb dX5_checkStatement_97 (by decide) ?_
          refine lv_goto (tgt := 102) hx hb dX5_checkStatement_98 (by decide) ?_
          exact ih.2.2.2.2.2.2.2.1 z _ _ (lI L 100 1) σ _ h hzk hc hs H locs ls hP hD hS (lv_sub hl [0, 1] rfl)
      · intro z cells slots L σ r h hzk hc hs H locs ls hP hD hS hl
        rw [f_X5_checkStatement] at h
        refine lv_iconst (v := 0) hx hb dX5_checkStatement_101 (by decide) ?_
        exact ih.2.2.2.2.2.2.2.1 z _ _ (lI L 100 0) σ _ h hzk hc hs H locs ls hP hD hS (lv_sub hl [0, 1] rfl)
      · intro z cells slots L σ r h hzk hc hs H locs ls hP hD hS hl
        rw [f_X5_checkStatement] at h
        refine lv_istore_n (lv' := [(3, .int (L.1 100)), (0, .ref (a 40)), (1, .int (L.1 1))]) hx hb dX5_checkStatement_102 rfl hl (by decide) rfl (fun ls hl => ?_)
        refine lv_iload_n hx hb dX5_checkStatement_103 rfl (lv_at hl 2 rfl) ?_
        refine lv_bipush (v := 49) hx hb dX5_checkStatement_104 (by decide) ?_
        refine lv_icmp_eq (tgt := 115) hx hb dX5_checkStatement_106 (by decide) (fun c1 => ?_) (fun c1 => ?_)
        · rw [if_pos c1] at h
          exact ih.2.2.2.2.2.2.2.2.1 z _ _ (lI L 3 ((L.1 100))) σ _ h hzk hc hs H locs ls hP hD hS (lv_sub hl [1, 2, 0] rfl)
        · rw [if_neg c1] at h
          refine lv_iload_n hx hb dX5_checkStatement_109 rfl (lv_at hl 2 rfl) ?_
          refine lv_bipush (v := 50) hx hb dX5_checkStatement_110 (by decide) ?_
          refine lv_icmp_ne (tgt := 119) hx hb dX5_checkStatement_112 (by decide) (fun c2 => ?_) (fun c2 => ?_)
          · rw [if_neg c2] at h
            exact ih.2.2.2.2.2.2.2.2.2.1 z _ _ L σ _ h hzk hc hs H locs ls hP hD hS (lv_sub hl [1, 2] rfl)
          · rw [if_pos c2] at h
            exact ih.2.2.2.2.2.2.2.2.1 z _ _ (lI L 3 ((L.1 100))) σ _ h hzk hc hs H locs ls hP hD hS (lv_sub hl [1, 2, 0] rfl)
      · intro z cells slots L σ r h hzk hc hs H locs ls hP hD hS hl
        rw [f_X5_checkStatement] at h
        refine lv_iload_n hx hb dX5_checkStatement_115 rfl (lv_at hl 2 rfl) ?_
        refine lv_if_eq (tgt := 132) hx hb dX5_checkStatement_116 (by decide) (fun c1 => ?_) (fun c1 => ?_)
        · rw [if_pos c1] at h
          exact ih.2.2.2.2.2.2.2.2.2.2.1 z _ _ L σ _ h hzk hc hs H locs ls hP hD hS (lv_sub hl [0] rfl)
        · rw [if_neg c1] at h
          exact ih.2.2.2.2.2.2.2.2.2.1 z _ _ L σ _ h hzk hc hs H locs ls hP hD hS (lv_sub hl [0, 1] rfl)
      · intro z cells slots L σ r h hzk hc hs H locs ls hP hD hS hl
        rw [f_X5_checkStatement] at h
        refine lv_iload_n hx hb dX5_checkStatement_119 rfl (lv_at hl 1 rfl) ?_
        refine lv_bipush (v := 51) hx hb dX5_checkStatement_120 (by decide) ?_
        refine lv_icmp_ne (tgt := 145) hx hb dX5_checkStatement_122 (by decide) (fun c1 => ?_) (fun c1 => ?_)
        · rw [if_neg c1] at h
          exact ih.2.2.2.2.2.2.2.2.2.2.2 z _ _ L σ _ h hzk hc hs H locs ls hP hD hS (lv_sub hl [] rfl)
        · rw [if_pos c1] at h
          refine lv_aload_n hx hb dX5_checkStatement_125 rfl (lv_at hl 0 rfl) ?_
          refine hg_40_3 hx hb hts in_f_X5_checkStatement_X5 hown hK hP (hts _ (List.mem_cons_of_mem _ (List.mem_append_left _ (List.mem_append_left _ (List.mem_of_getElem? (i := 8) rfl))))) dX5_checkStatement_126 ?_
          refine lv_if_ne (tgt := 145) hx hb dX5_checkStatement_129 (by decide) (fun c2 => ?_) (fun c2 => ?_)
          · rw [if_neg c2] at h
            exact ih.2.2.2.2.2.2.2.2.2.2.2 z _ _ L σ _ h hzk hc hs H locs ls hP hD hS (lv_sub hl [] rfl)
          · rw [if_pos c2] at h
            exact ih.2.2.2.2.2.2.2.2.2.2.1 z _ _ L σ _ h hzk hc hs H locs ls hP hD hS (lv_sub hl [0] rfl)
      · intro z cells slots L σ r h hzk hc hs H locs ls hP hD hS hl
        rw [f_X5_checkStatement] at h
        refine lv_aload_n hx hb dX5_checkStatement_132 rfl (lv_at hl 0 rfl) ?_
        refine lv_bipush (v := 7) hx hb dX5_checkStatement_133 (by decide) ?_
        refine lv_aload_n hx hb dX5_checkStatement_135 rfl (lv_at hl 0 rfl) ?_
        refine hg_40_0 hx hb hts in_f_X5_checkStatement_X5 hown hK hP (hts _ (List.mem_cons_of_mem _ (List.mem_append_left _ (List.mem_append_left _ (List.mem_of_getElem? (i := 0) rfl))))) dX5_checkStatement_136 ?_
        refine hg_37_3n hx hb hts in_f_X5_checkStatement_X2 hown hK hP (va_Nw.use rfl (hG.1 _ (List.mem_of_getElem? (i := 54) rfl))) dX5_checkStatement_139 ?_
        obtain ⟨r1, hc1, hle1, h9⟩ := ox_ex h
        clear h
        refine kx_v (vx_runV (As := [.int 7, .int (σ.1 3703)]) (rest := []) ⟨hx, hb, hml, hown, hts⟩ (c_f_X5_refuse l hl0 dC dI cy ek a k (lI (lI lZ 1 7) 2 ((σ.1 3703))) σ r1 hc1 z H.size) (cwV 2 hts g_f_X5_checkStatement_X5_refuse_V125 rfl rfl rfl hd_f_X5_refuse ⟨Nat.le_of_ble_eq_true rfl, Nat.le_of_ble_eq_true rfl⟩) ⟨nb_blindF, va_recv hK hP (ci := 4) (q0 := 40) rfl rfl, (kx_pre hK hG hE hT hA hP hD hS)⟩ rfl rfl hl.1 rfl (lv_room (Nat.le_of_ble_eq_true rfl)) dX5_checkStatement_142 ⟨Nat.le_trans (Nat.add_le_add_left hle1.1 _) (Nat.le_of_eq hc), Nat.le_trans (Nat.add_le_add_left hle1.2 _) (Nat.le_of_eq hs)⟩) hK hA hzk hP hD hS (by decide) hno hlocks ?_
        rcases h9 with ⟨h00, y1, hny1, hy⟩ | ⟨h00, hy⟩
        · subst hy
          have h := hny1
          refine Or.inl ⟨h00, fun u H locs hz1 hzk hP hD hS => ?_⟩
          obtain rfl := (zk_nil hz1).symm
          replace hc := (Nat.add_assoc _ _ _).trans hc
          replace hs := (Nat.add_assoc _ _ _).trans hs
          exact ih.2.2.2.2.2.2.2.2.2.2.2 z _ _ L r1.2.1 _ h hzk hc hs H locs ls hP hD hS (lv_sub hl [] rfl)
        · subst hy
          exact Or.inr ⟨h00, rfl, hc, hs⟩
      · intro z cells slots L σ r h hzk hc hs H locs ls hP hD hS hl
        rw [f_X5_checkStatement] at h
        obtain rfl := Option.some.inj h
        subst hc
        subst hs
        exact xr_v hx hb hr hK hzk hP hD hS hlocks dX5_checkStatement_145
  exact (blk k0).1 z 0 0 L0 σ0 r0 h0 (zk_rf _ _) ((Nat.zero_add _).trans hmc) ((Nat.zero_add _).trans hms) s.heap [] ls hP hD hS hl
/-! X5_keep__A0 -/
def f_X5_keep__A0 : Nat → Nat → LV → CS → Option RS
  | 0, _, _, _ => none
  | k + 1, 0, L, σ => if ¬ (16384 : Int32) < 0 ∧ (16384 : Int32).toNatClampNeg < 134217728 ∧ (sN σ 42) < 2147483648 then (if nI (sN σ 42) < ((((σ.1 4013)) + ((L.1 3)))) ∧ (sN σ 42) < (16384 : Int32).toNatClampNeg then (adR (1, (16384 : Int32).toNatClampNeg) (f_X5_keep__A0 k 1 L (uZ σ 42 (16384 : Int32).toNatClampNeg))) else (f_X5_keep__A0 k 1 L σ)) else none
  | k + 1, 1, L, σ => if ((((σ.1 4013)) + ((L.1 3)))) ≤ ((Int32.ofNat (sN σ 42))) then (f_X5_keep__A0 k 2 L σ) else (some ((1, 0), σ, (1, 6)))
  | k + 1, 2, L, σ => if ¬ ((L.1 2)) < 0 ∧ ¬ ((σ.1 4013)) < 0 ∧ ¬ ((L.1 3)) < 0 ∧ ((L.1 2)).toNatClampNeg + ((L.1 3)).toNatClampNeg ≤ (sN σ (pR0 ((L.2.2.1 1)))) ∧ ((σ.1 4013)).toNatClampNeg + ((L.1 3)).toNatClampNeg ≤ (sN σ 42) then (f_X5_keep__A0 k 3 L (uF σ 42 (va_cpy (σ.2.2.1 (pR0 ((L.2.2.1 1)))) (σ.2.2.1 42) ((L.1 2)).toNatClampNeg ((σ.1 4013)).toNatClampNeg ((L.1 3)).toNatClampNeg))) else none
  | k + 1, 3, L, σ => some ((0, 0), (uI σ 4013 ((((σ.1 4013)) + ((L.1 3))))), (0, 0))
  | _ + 1, _ + 4, _, _ => none
def o_f_X5_keep__A0 : List Cond := [.fieldLink RX5 15 "SetHouse$Parser" "later" "[I", .fieldLink RX5 115 "SetHouse$Parser" "kept" "I", .initialized RX11, .static yX11_widened, .classLink RX5 70 "java/lang/IllegalArgumentException", .initialized "java/lang/IllegalArgumentException", .methodLink RX5 329 arraycopyName, .native arraycopyName, .static arraycopyName, .initialized "java/lang/System"]
theorem o_f_X5_keep__A0_good : o_f_X5_keep__A0.all goodWord = true := by decide +kernel
def p_f_X5_keep__A0 : List Cond := o_f_X5_keep__A0 ++ ((.code yX11_widened cX11_widened 3 (some (.array .int)) :: p_f_X11_widened) ++ (((vx_at0 RX5 124 "java/lang/IllegalArgumentException" ["java/lang/RuntimeException", "java/lang/Exception"]).filter goodWord) ++ []))
theorem p_f_X5_keep__A0_good : p_f_X5_keep__A0.all goodWord = true := nb_all2 o_f_X5_keep__A0_good (nb_all2 (nb_allc (by decide +kernel) p_f_X11_widened_good) (nb_all2 (nb_fg _) rfl))
def w_f_X5_keep__A0 : List Cond := .code yX5_keep cX5_keep 4 none :: (p_f_X5_keep__A0 ++ fC)
theorem w_f_X5_keep__A0_good : w_f_X5_keep__A0.all goodWord = true := nb_allc (by decide +kernel) (nb_all2 p_f_X5_keep__A0_good fC_good)
theorem in_f_X5_keep__A0_X5 : ∀ w ∈ wsX50, w ∈ w_f_X5_keep__A0 := fun _ h => List.mem_cons_of_mem _ (List.mem_append_right _ (List.mem_append_right _ (List.mem_append_right _ (List.mem_append_right _ (List.mem_append_right _ (List.mem_append_left _ h))))))
theorem hd_f_X5_keep__A0 : yX5_keep.cls = RX5 ∧ yX5_keep.cls ≠ "java/lang/invoke/MethodHandle" ∧ yX5_keep.cls ≠ "java/lang/invoke/VarHandle" ∧ (parseMethodDescriptor yX5_keep.desc).map (fun d => d.parameters.length) = some 3 := by decide +kernel
theorem gg_f_X5_keep__A0_X11_widened : GoodIn w_f_X5_keep__A0 w_f_X11_widened := goodIn_sub (fun w h => (List.mem_cons.mp h).elim (fun e => (List.mem_cons_of_mem _ (List.mem_append_left _ (List.mem_append_right _ (List.mem_append_left _ (List.mem_cons.mpr (Or.inl e))))))) (fun h => (List.mem_append.mp h).elim (fun h => (List.mem_cons_of_mem _ (List.mem_append_left _ (List.mem_append_right _ (List.mem_append_left _ (List.mem_cons_of_mem _ h)))))) (fun h => List.mem_cons_of_mem _ (List.mem_append_right _ h)))) w_f_X11_widened_good
theorem g_f_X5_keep__A0_X11_widened_SN325 : GoodIn w_f_X5_keep__A0 w_f_X11_widened := gg_f_X5_keep__A0_X11_widened
set_option maxHeartbeats 40000000 in
set_option maxRecDepth 100000 in
theorem c_f_X5_keep__A0 (l : Launch) (hl0 : l.stackTraces = false) (dC : Nat → ClassId) (dI : Nat → Nat → Nat) (cy : Nat → ClassId) (ek a : Nat → Nat) (k0 : Nat) (L0 : LV) (σ0 : CS) (r0 : RS) (h0 : f_X5_keep__A0 k0 0 L0 σ0 = some r0) (z : Nat → Nat) (sz : Nat) : vx_Met l yX5_keep w_f_X5_keep__A0 ({ frames := 6, cells := r0.2.2.1, slots := r0.2.2.2, locals := 114 }) (va_Pc [.ref (a 40), .ref (z (pR0 (L0.2.2.1 1))), .int (L0.1 2), .int (L0.1 3)] (nInF (dC, dI) cy ek sz (vC cy a z σ0))) (xV dC dI cy a (va_A (vC cy a z σ0) sz) [42] z r0) (xX dC dI cy a (va_A (vC cy a z σ0) sz) [42] z r0) r0.2.2.1 r0.2.2.2 (va_A (vC cy a z σ0) sz) := by
  refine vx_ofW (cc := cX5_keep) (maxL := 4) (ret := none) (by decide) rfl ?_
  intro p e s m args below meth c s₁ B hml hno hv
  obtain ⟨rfl, ⟨⟨hsz, hP, hK, hD0, hG⟩, hE⟩, hT⟩ := hv
  have hx := B.exec
  have hb := B.bytes
  have hr := B.returns
  have hts := atoms_spec (ws := w_f_X5_keep__A0) B.pre
  have hown : s.vm.findClass RX5 = some m.cls := findClass_of_methodNamed B.named
  have hlocks := B.notSynchronized
  subst hsz
  have hD := hD0.self (sz := s.heap.size)
  generalize hAe : va_A (vC cy a z σ0) s.heap.size = A at hD hE hT ⊢
  have hA : ∀ q : Nat, s.heap.size ≤ q → A q := fun q h => by rw [← hAe]; exact Or.inr h
  have hS : va_S A s.heap s.heap [] := va_S.rf
  have hl := lv_entry ([.ref (a 40), .ref (z (pR0 (L0.2.2.1 1))), .int (L0.1 2), .int (L0.1 3)]) (n := 4) (Nat.le_of_ble_eq_true rfl)
  rw [lg_entry_eq]
  generalize (lg_sl ([.ref (a 40), .ref (z (pR0 (L0.2.2.1 1))), .int (L0.1 2), .int (L0.1 3)]) ++ List.replicate (4 - (lg_sl ([.ref (a 40), .ref (z (pR0 (L0.2.2.1 1))), .int (L0.1 2), .int (L0.1 3)])).length) Slot.unset).toArray = ls at hl ⊢
  have hl : lv_has ls 4 [(0, .ref (a 40)), (1, .ref (z (pR0 (L0.2.2.1 1)))), (2, .int (L0.1 2)), (3, .int (L0.1 3))] := hl
  generalize hmc : r0.2.2.1 = mc
  generalize hms : r0.2.2.2 = ms
  have blk : ∀ k : Nat, (bX p l e (headSpec w_f_X5_keep__A0 ({ frames := 6, cells := mc, slots := ms, locals := 114 })).room s m #[.ref (a 40), .ref (z (pR0 (L0.2.2.1 1))), .int (L0.1 2), .int (L0.1 3)] below meth c dC dI cy a A (fun r => vx_MQ below (xV dC dI cy a A [42] z r) (xX dC dI cy a A [42] z r) #[.ref (a 40), .ref (z (pR0 (L0.2.2.1 1))), .int (L0.1 2), .int (L0.1 3)] s mc ms A) [42] z mc ms 4 (f_X5_keep__A0 k 0) (fun z L => [(0, .ref (a 40)), (1, .ref (z (pR0 (L.2.2.1 1)))), (2, .int (L.1 2)), (3, .int (L.1 3))]) 0 (fun z L => [])) ∧ (bX p l e (headSpec w_f_X5_keep__A0 ({ frames := 6, cells := mc, slots := ms, locals := 114 })).room s m #[.ref (a 40), .ref (z (pR0 (L0.2.2.1 1))), .int (L0.1 2), .int (L0.1 3)] below meth c dC dI cy a A (fun r => vx_MQ below (xV dC dI cy a A [42] z r) (xX dC dI cy a A [42] z r) #[.ref (a 40), .ref (z (pR0 (L0.2.2.1 1))), .int (L0.1 2), .int (L0.1 3)] s mc ms A) [42] z mc ms 4 (f_X5_keep__A0 k 1) (fun z L => [(0, .ref (a 40)), (1, .ref (z (pR0 (L.2.2.1 1)))), (2, .int (L.1 2)), (3, .int (L.1 3))]) 20 (fun z L => [])) ∧ (bX p l e (headSpec w_f_X5_keep__A0 ({ frames := 6, cells := mc, slots := ms, locals := 114 })).room s m #[.ref (a 40), .ref (z (pR0 (L0.2.2.1 1))), .int (L0.1 2), .int (L0.1 3)] below meth c dC dI cy a A (fun r => vx_MQ below (xV dC dI cy a A [42] z r) (xX dC dI cy a A [42] z r) #[.ref (a 40), .ref (z (pR0 (L0.2.2.1 1))), .int (L0.1 2), .int (L0.1 3)] s mc ms A) [42] z mc ms 4 (f_X5_keep__A0 k 2) (fun z L => [(0, .ref (a 40)), (1, .ref (z (pR0 (L.2.2.1 1)))), (2, .int (L.1 2)), (3, .int (L.1 3))]) 42 (fun z L => [])) ∧ (bX p l e (headSpec w_f_X5_keep__A0 ({ frames := 6, cells := mc, slots := ms, locals := 114 })).room s m #[.ref (a 40), .ref (z (pR0 (L0.2.2.1 1))), .int (L0.1 2), .int (L0.1 3)] below meth c dC dI cy a A (fun r => vx_MQ below (xV dC dI cy a A [42] z r) (xX dC dI cy a A [42] z r) #[.ref (a 40), .ref (z (pR0 (L0.2.2.1 1))), .int (L0.1 2), .int (L0.1 3)] s mc ms A) [42] z mc ms 4 (f_X5_keep__A0 k 3) (fun z L => [(0, .ref (a 40)), (3, .int (L.1 3))]) 56 (fun z L => [])) := by
    intro k
    induction k with
    | zero => exact ⟨fun z c1 c2 L σ r h => (by cases h), fun z c1 c2 L σ r h => (by cases h), fun z c1 c2 L σ r h => (by cases h), fun z c1 c2 L σ r h => (by cases h)⟩
    | succ k ih =>
      refine ⟨?_, ?_, ?_, ?_⟩
      · intro z cells slots L σ r h hzk hc hs H locs ls hP hD hS hl
        rw [f_X5_keep__A0] at h
        refine lv_aload_n hx hb dX5_keep_0 rfl (lv_at hl 0 rfl) ?_
        refine lv_aload_n hx hb dX5_keep_1 rfl (lv_at hl 0 rfl) ?_
        refine hg_40_12 hx hb hts in_f_X5_keep__A0_X5 hown hK hP (hts _ (List.mem_cons_of_mem _ (List.mem_append_left _ (List.mem_append_left _ (List.mem_of_getElem? (i := 0) rfl))))) dX5_keep_2 ?_
        refine lv_aload_n hx hb dX5_keep_5 rfl (lv_at hl 0 rfl) ?_
        refine hg_40_13 hx hb hts in_f_X5_keep__A0_X5 hown hK hP (hts _ (List.mem_cons_of_mem _ (List.mem_append_left _ (List.mem_append_left _ (List.mem_of_getElem? (i := 1) rfl))))) dX5_keep_6 ?_
        refine lv_iload_n hx hb dX5_keep_9 rfl (lv_at hl 3 rfl) ?_
        refine lv_iadd hx hb dX5_keep_10 ?_
        refine lv_sipush (v := 16384) hx hb dX5_keep_11 (by decide) ?_
        obtain ⟨q1, h⟩ := kr_ite1 h
        by_cases q2 : nI (sN σ 42) < ((((σ.1 4013)) + ((L.1 3)))) ∧ (sN σ 42) < (16384 : Int32).toNatClampNeg
        · rw [if_pos q2] at h
          obtain ⟨y3, hny3, hy⟩ := adR_ex h
          subst hy
          have h := hny3
          refine hw_42_new ⟨hx, hb, hml, hown, hts⟩ ⟨va_cnB 3 hts g_f_X5_keep__A0_X11_widened_SN325 rfl rfl rfl (hG.1 _ (List.mem_of_getElem? (i := 97) rfl)) (hts _ (List.mem_cons_of_mem _ (List.mem_append_left _ (List.mem_append_left _ (List.mem_of_getElem? (i := 2) rfl))))) (by decide +kernel) ⟨Nat.le_of_ble_eq_true rfl, Nat.le_of_ble_eq_true rfl⟩, (hts _ (List.mem_cons_of_mem _ (List.mem_append_left _ (List.mem_append_left _ (List.mem_of_getElem? (i := 3) rfl))))), trivial⟩ in_f_X5_keep__A0_X5 hK hG hA hP hD hS q1 q2 hl.1 (Nat.le_of_ble_eq_true rfl) dX5_keep_14 (hts _ (List.mem_cons_of_mem _ (List.mem_append_left _ (List.mem_append_left _ (List.mem_of_getElem? (i := 0) rfl))))) dX5_keep_17 (Nat.le_trans (Nat.add_le_add_left (Nat.le_add_right _ _) _) (Nat.le_of_eq hc)) (Nat.le_trans (Nat.add_le_add_left (Nat.le_add_right _ _) _) (Nat.le_of_eq hs)) (fun z H locs hz3 hP hD hS => ?_)
          have hzk := zk_tr hzk hz3 (by decide)
          try dsimp only at hl
          rw [← hz3 ((pR0 (L.2.2.1 1))) (by unfold pR0; cases (L.2.2.1 1) <;> decide)] at hl
          replace hc := (Nat.add_assoc _ _ _).trans hc
          replace hs := (Nat.add_assoc _ _ _).trans hs
          exact ih.2.1 z _ _ L (uZ σ 42 (16384 : Int32).toNatClampNeg) _ h hzk hc hs H locs ls hP hD hS (lv_sub hl [0, 1, 2, 3] rfl)
        · rw [if_neg q2] at h
          refine hw_42_same ⟨hx, hb, hml, hown, hts⟩ ⟨va_cnB 3 hts g_f_X5_keep__A0_X11_widened_SN325 rfl rfl rfl (hG.1 _ (List.mem_of_getElem? (i := 97) rfl)) (hts _ (List.mem_cons_of_mem _ (List.mem_append_left _ (List.mem_append_left _ (List.mem_of_getElem? (i := 2) rfl))))) (by decide +kernel) ⟨Nat.le_of_ble_eq_true rfl, Nat.le_of_ble_eq_true rfl⟩, (hts _ (List.mem_cons_of_mem _ (List.mem_append_left _ (List.mem_append_left _ (List.mem_of_getElem? (i := 3) rfl))))), trivial⟩ in_f_X5_keep__A0_X5 hK hG hA hP hD hS q1 q2 hl.1 (Nat.le_of_ble_eq_true rfl) dX5_keep_14 (hts _ (List.mem_cons_of_mem _ (List.mem_append_left _ (List.mem_append_left _ (List.mem_of_getElem? (i := 0) rfl))))) dX5_keep_17 (Nat.le_trans (Nat.le_add_right _ _) (Nat.le_of_eq hc)) (Nat.le_trans (Nat.le_add_right _ _) (Nat.le_of_eq hs)) (fun H locs hP hD hS => ?_)
          exact ih.2.1 z _ _ L σ _ h hzk hc hs H locs ls hP hD hS (lv_sub hl [0, 1, 2, 3] rfl)
      · intro z cells slots L σ r h hzk hc hs H locs ls hP hD hS hl
        rw [f_X5_keep__A0] at h
        refine lv_aload_n hx hb dX5_keep_20 rfl (lv_at hl 0 rfl) ?_
        refine hg_40_13 hx hb hts in_f_X5_keep__A0_X5 hown hK hP (hts _ (List.mem_cons_of_mem _ (List.mem_append_left _ (List.mem_append_left _ (List.mem_of_getElem? (i := 1) rfl))))) dX5_keep_21 ?_
        refine lv_iload_n hx hb dX5_keep_24 rfl (lv_at hl 3 rfl) ?_
        refine lv_iadd hx hb dX5_keep_25 ?_
        refine lv_aload_n hx hb dX5_keep_26 rfl (lv_at hl 0 rfl) ?_
        refine hg_40_12 hx hb hts in_f_X5_keep__A0_X5 hown hK hP (hts _ (List.mem_cons_of_mem _ (List.mem_append_left _ (List.mem_append_left _ (List.mem_of_getElem? (i := 0) rfl))))) dX5_keep_27 ?_
        refine hn_42 hx hb hK hP dX5_keep_30 ?_
        refine lv_icmp_le (tgt := 42) hx hb dX5_keep_31 (by decide) (fun c1 => ?_) (fun c1 => ?_)
        · rw [if_pos c1] at h
          exact ih.2.2.1 z _ _ L σ _ h hzk hc hs H locs ls hP hD hS (lv_sub hl [0, 1, 2, 3] rfl)
        · rw [if_neg c1] at h
          obtain rfl := Option.some.inj h
          exact vx_throw0 (cls := "java/lang/IllegalArgumentException") (names := ["java/lang/RuntimeException", "java/lang/Exception"]) hx hb hl0 hown (by decide) (by decide) (hts _ (List.mem_cons_of_mem _ (List.mem_append_left _ (List.mem_append_left _ (List.mem_of_getElem? (i := 4) rfl))))) (hts _ (List.mem_cons_of_mem _ (List.mem_append_left _ (List.mem_append_left _ (List.mem_of_getElem? (i := 5) rfl))))) (vx_hat (B := [.castable "java/lang/IllegalArgumentException" "java/lang/IllegalArgumentException", .declares (Bundle.init0 "java/lang/RuntimeException"), .declares (Bundle.init0 "java/lang/Exception"), .declares (Bundle.init0 Bundle.tN)]) (fun w h => hts w (List.mem_cons_of_mem _ (List.mem_append_left _ (List.mem_append_right _ (List.mem_append_right _ (List.mem_append_left _ h)))))) (by decide +kernel) (vx_c (va_Nw.use (by decide +kernel) (hT.2.2.1 _ (List.mem_of_getElem? (i := 1) rfl))) (vx_c (va_Nw.use (by decide +kernel) (hT.2.2.1 _ (List.mem_of_getElem? (i := 4) rfl))) (vx_c (va_Nw.use (by decide +kernel) (hT.2.2.1 _ (List.mem_of_getElem? (i := 5) rfl))) (vx_c (va_Nw.use (by decide +kernel) (hT.2.2.1 _ (List.mem_of_getElem? (i := 6) rfl))) vx_n))))) (fun w h => List.all_eq_true.mp (by decide +kernel : (Cond.classLink RX5 70 "java/lang/IllegalArgumentException" :: Cond.initialized "java/lang/IllegalArgumentException" :: (vx_at0 RX5 124 "java/lang/IllegalArgumentException" ["java/lang/RuntimeException", "java/lang/Exception"])).all vx_ot = true) w h) hT.1 hT.2.1 hS (hl.1.trans hml.symm) dX5_keep_34 dX5_keep_37 dX5_keep_38 dX5_keep_41 (fun x h => (hno x h).elim) (Nat.le_of_ble_eq_true rfl) (Nat.le_of_ble_eq_true rfl) (Nat.le_of_eq hc) (Nat.le_of_eq hs) hlocks (xt_x (n := 1) (by decide) hK hzk hP hD hS) hS.2.2 (Nat.le_of_eq hc) (Nat.le_of_eq hs)
      · intro z cells slots L σ r h hzk hc hs H locs ls hP hD hS hl
        rw [f_X5_keep__A0] at h
        refine lv_aload_n hx hb dX5_keep_42 rfl (lv_at hl 1 rfl) ?_
        refine lv_iload_n hx hb dX5_keep_43 rfl (lv_at hl 2 rfl) ?_
        refine lv_aload_n hx hb dX5_keep_44 rfl (lv_at hl 0 rfl) ?_
        refine hg_40_12 hx hb hts in_f_X5_keep__A0_X5 hown hK hP (hts _ (List.mem_cons_of_mem _ (List.mem_append_left _ (List.mem_append_left _ (List.mem_of_getElem? (i := 0) rfl))))) dX5_keep_45 ?_
        refine lv_aload_n hx hb dX5_keep_48 rfl (lv_at hl 0 rfl) ?_
        refine hg_40_13 hx hb hts in_f_X5_keep__A0_X5 hown hK hP (hts _ (List.mem_cons_of_mem _ (List.mem_append_left _ (List.mem_append_left _ (List.mem_of_getElem? (i := 1) rfl))))) dX5_keep_49 ?_
        refine lv_iload_n hx hb dX5_keep_52 rfl (lv_at hl 3 rfl) ?_
        obtain ⟨q1, h⟩ := kr_ite1 h
        refine hcp_P0_42 ((L.2.2.1 1)) hx hb (hml.trans hl.1.symm) hown (hts _ (List.mem_cons_of_mem _ (List.mem_append_left _ (List.mem_append_left _ (List.mem_of_getElem? (i := 6) rfl))))) (hts _ (List.mem_cons_of_mem _ (List.mem_append_left _ (List.mem_append_left _ (List.mem_of_getElem? (i := 7) rfl))))) (hts _ (List.mem_cons_of_mem _ (List.mem_append_left _ (List.mem_append_left _ (List.mem_of_getElem? (i := 8) rfl))))) (hts _ (List.mem_cons_of_mem _ (List.mem_append_left _ (List.mem_append_left _ (List.mem_of_getElem? (i := 9) rfl))))) hK hP hD hS q1 (Nat.le_of_ble_eq_true rfl) (Nat.le_of_ble_eq_true rfl) dX5_keep_53 (fun H locs hP hD hS => ?_)
        exact ih.2.2.2 z _ _ L (uF σ 42 (va_cpy (σ.2.2.1 (pR0 ((L.2.2.1 1)))) (σ.2.2.1 42) ((L.1 2)).toNatClampNeg ((σ.1 4013)).toNatClampNeg ((L.1 3)).toNatClampNeg)) _ h hzk hc hs H locs ls hP hD hS (lv_sub hl [0, 3] rfl)
      · intro z cells slots L σ r h hzk hc hs H locs ls hP hD hS hl
        rw [f_X5_keep__A0] at h
        refine lv_aload_n hx hb dX5_keep_56 rfl (lv_at hl 0 rfl) ?_
        refine lv_aload_n hx hb dX5_keep_57 rfl (lv_at hl 0 rfl) ?_
        refine hg_40_13 hx hb hts in_f_X5_keep__A0_X5 hown hK hP (hts _ (List.mem_cons_of_mem _ (List.mem_append_left _ (List.mem_append_left _ (List.mem_of_getElem? (i := 1) rfl))))) dX5_keep_58 ?_
        refine lv_iload_n hx hb dX5_keep_61 rfl (lv_at hl 1 rfl) ?_
        refine lv_iadd hx hb dX5_keep_62 ?_
        refine hp_40_13 hx hb hts in_f_X5_keep__A0_X5 hown hK hP hD hS (hts _ (List.mem_cons_of_mem _ (List.mem_append_left _ (List.mem_append_left _ (List.mem_of_getElem? (i := 1) rfl))))) dX5_keep_63 (fun H locs hP hD hS => ?_)
        obtain rfl := Option.some.inj h
        subst hc
        subst hs
        exact xr_v hx hb hr hK hzk hP hD hS hlocks dX5_keep_66
  exact (blk k0).1 z 0 0 L0 σ0 r0 h0 (zk_rf _ _) ((Nat.zero_add _).trans hmc) ((Nat.zero_add _).trans hms) s.heap [] ls hP hD hS hl
/-! X5_keepTarget -/
def f_X5_keepTarget : Nat → Nat → LV → CS → Option RS
  | 0, _, _, _ => none
  | k + 1, 0, L, σ => oP (sPp σ) (fun b1 => f_X5_keepTarget k 1 (lI (lI (lI L 2 ((σ.1 (fP b1 1)))) 3 0) 4 0) σ)
  | k + 1, 1, L, σ => if ((σ.1 4019)) ≤ ((L.1 4)) then (f_X5_keepTarget k 2 L σ) else (oP (sPp σ) (fun b2 => oP (sPp σ) (fun b3 => if ¬ (((((σ.1 4018)) + ((3 * ((L.1 4)))))) < 0 ∨ (sN σ 41) ≤ ((((σ.1 4018)) + ((3 * ((L.1 4)))))).toNatClampNeg) then (if ¬ (((((((σ.1 4018)) + ((3 * ((L.1 4)))))) + 1)) < 0 ∨ (sN σ 41) ≤ ((((((σ.1 4018)) + ((3 * ((L.1 4)))))) + 1)).toNatClampNeg) then (if ¬ (((((σ.1 4018)) + ((3 * ((L.1 4)))))) < 0 ∨ (sN σ 41) ≤ ((((σ.1 4018)) + ((3 * ((L.1 4)))))).toNatClampNeg) then (ox (f_X7_words__P__A0 k 0 (lI (lI (lB (lB lZ 0 b2) 1 ((sKd σ b3))) 2 ((σ.2.2.1 41 ((((σ.1 4018)) + ((3 * ((L.1 4)))))).toNatClampNeg))) 3 ((((σ.2.2.1 41 ((((((σ.1 4018)) + ((3 * ((L.1 4)))))) + 1)).toNatClampNeg)) - ((σ.2.2.1 41 ((((σ.1 4018)) + ((3 * ((L.1 4)))))).toNatClampNeg))))) σ) (fun r7 => if ¬ (((((((σ.1 4018)) + ((3 * ((L.1 4)))))) + 2)) < 0 ∨ (sN r7.2.1 41) ≤ ((((((σ.1 4018)) + ((3 * ((L.1 4)))))) + 2)).toNatClampNeg) then (if ((r7.2.1.2.2.1 41 ((((((σ.1 4018)) + ((3 * ((L.1 4)))))) + 2)).toNatClampNeg)) = 97 then (f_X5_keepTarget k 4 (lI (lI L 100 2) 101 ((L.1 3))) r7.2.1) else (f_X5_keepTarget k 3 (lI L 100 ((L.1 3))) r7.2.1)) else none)) else none) else none) else none)))
  | k + 1, 2, L, σ => oP (sPp σ) (fun b1 => ox (f_X7_emit__P k 0 (lI (lI (lB lZ 0 b1) 1 38) 2 ((((L.1 3)) + ((L.1 1))))) σ) (fun r2 => oP (sPp r2.2.1) (fun b3 => oP (sPp r2.2.1) (fun b4 => if ¬ (((r2.2.1.1 4020)) < 0 ∨ 256 ≤ ((r2.2.1.1 4020)).toNatClampNeg) then (if ((r2.2.1.2.2.1 (pR8 b4) ((r2.2.1.1 4020)).toNatClampNeg)) = ((r2.2.1.1 4003)) then (f_X5_keepTarget k 6 (lB (lI (lI L 100 0) 101 192) 102 b3) r2.2.1) else (f_X5_keepTarget k 5 (lB (lI L 100 192) 101 b3) r2.2.1)) else none))))
  | k + 1, 3, L, σ => f_X5_keepTarget k 4 (lI (lI L 100 1) 101 ((L.1 100))) σ
  | k + 1, 4, L, σ => f_X5_keepTarget k 1 (lI (lI L 3 ((((L.1 101)) + ((L.1 100))))) 4 ((((L.1 4)) + 1))) σ
  | k + 1, 5, L, σ => f_X5_keepTarget k 6 (lB (lI (lI L 100 1) 101 ((L.1 100))) 102 ((L.2.2.1 101))) σ
  | k + 1, 6, L, σ => oP (sPp σ) (fun b1 => if ¬ (((σ.1 4020)) < 0 ∨ 256 ≤ ((σ.1 4020)).toNatClampNeg) then (ox (f_X7_emit__P k 0 (lI (lI (lB lZ 0 ((L.2.2.1 102))) 1 ((((L.1 101)) + ((L.1 100))))) 2 ((σ.2.2.1 (pR9 b1) ((σ.1 4020)).toNatClampNeg))) σ) (fun r3 => oP (sPp r3.2.1) (fun b4 => ox (f_X7_word__P k 0 (lI (lB lZ 0 b4) 1 ((((L.1 3)) + 1))) r3.2.1) (fun r5 => oP (sPp r5.2.1) (fun b6 => ox (f_X7_word__P k 0 (lI (lB lZ 0 b6) 1 ((r5.2.1.1 4019))) r5.2.1) (fun r7 => f_X5_keepTarget k 7 (lI L 4 0) r7.2.1)))))) else none)
  | k + 1, 7, L, σ => if ((σ.1 4019)) ≤ ((L.1 4)) then (f_X5_keepTarget k 8 L σ) else (oP (sPp σ) (fun b2 => if ¬ (((((((σ.1 4018)) + ((3 * ((L.1 4)))))) + 2)) < 0 ∨ (sN σ 41) ≤ ((((((σ.1 4018)) + ((3 * ((L.1 4)))))) + 2)).toNatClampNeg) then (ox (f_X7_word__P k 0 (lI (lB lZ 0 b2) 1 ((σ.2.2.1 41 ((((((σ.1 4018)) + ((3 * ((L.1 4)))))) + 2)).toNatClampNeg))) σ) (fun r4 => f_X5_keepTarget k 7 (lI L 4 ((((L.1 4)) + 1))) r4.2.1)) else none))
  | k + 1, 8, L, σ => oP (sPp σ) (fun b1 => ox (f_X7_emit__P k 0 (lI (lI (lB lZ 0 b1) 1 37) 2 ((((L.1 3)) + 1))) σ) (fun r2 => oP (sPp r2.2.1) (fun b3 => oP (sPp r2.2.1) (fun b4 => ox (f_X5_keep__A0 k 0 (lI (lI (lB lZ 1 ((sKd r2.2.1 b3))) 2 ((L.1 2))) 3 ((((r2.2.1.1 (fP b4 1))) - ((L.1 2))))) r2.2.1) (fun r5 => oP (sPp r5.2.1) (fun b6 => some ((0, 0), (uI r5.2.1 (fP b6 1) ((L.1 2))), (0, 0))))))))
  | _ + 1, _ + 9, _, _ => none
def o_f_X5_keepTarget : List Cond := [.fieldLink RX5 93 "SetHouse$Parser" "p" "LSetHouse$Program;", .fieldLink RX5 347 "SetHouse$Parser" "targetCount" "I", .fieldLink RX5 350 "SetHouse$Parser" "targetMarks" "I", .fieldLink RX5 9 "SetHouse$Parser" "marks" "[I", .methodLink RX5 312 yX7_words, .instanceMethod yX7_words, .selects RX7 yX7_words yX7_words, .initialized RX7, .methodLink RX5 66 yX7_emit, .instanceMethod yX7_emit, .selects RX7 yX7_emit yX7_emit, .fieldLink RX5 353 "SetHouse$Parser" "targetName" "I", .fieldLink RX5 97 "SetHouse$Parser" "unit" "I", .methodLink RX5 243 yX7_word, .instanceMethod yX7_word, .selects RX7 yX7_word yX7_word, .methodLink RX5 335 yX5_keep, .instanceMethod yX5_keep, .selects RX5 yX5_keep yX5_keep, .initialized RX5]
theorem o_f_X5_keepTarget_good : o_f_X5_keepTarget.all goodWord = true := by decide +kernel
def p_f_X5_keepTarget : List Cond := o_f_X5_keepTarget ++ ((.code yX7_words cX7_words 4 none :: p_f_X7_words__P__A0) ++ ((.code yX7_emit cX7_emit 3 (some .int) :: p_f_X7_emit__P) ++ ((.code yX7_word cX7_word 2 (some .int) :: p_f_X7_word__P) ++ ((.code yX5_keep cX5_keep 4 none :: p_f_X5_keep__A0) ++ []))))
theorem p_f_X5_keepTarget_good : p_f_X5_keepTarget.all goodWord = true := nb_all2 o_f_X5_keepTarget_good (nb_all2 (nb_allc (by decide +kernel) p_f_X7_words__P__A0_good) (nb_all2 (nb_allc (by decide +kernel) p_f_X7_emit__P_good) (nb_all2 (nb_allc (by decide +kernel) p_f_X7_word__P_good) (nb_all2 (nb_allc (by decide +kernel) p_f_X5_keep__A0_good) rfl))))
def w_f_X5_keepTarget : List Cond := .code yX5_keepTarget cX5_keepTarget 6 none :: (p_f_X5_keepTarget ++ fC)
theorem w_f_X5_keepTarget_good : w_f_X5_keepTarget.all goodWord = true := nb_allc (by decide +kernel) (nb_all2 p_f_X5_keepTarget_good fC_good)
theorem in_f_X5_keepTarget_X5 : ∀ w ∈ wsX50, w ∈ w_f_X5_keepTarget := fun _ h => List.mem_cons_of_mem _ (List.mem_append_right _ (List.mem_append_right _ (List.mem_append_right _ (List.mem_append_right _ (List.mem_append_right _ (List.mem_append_left _ h))))))
theorem in_f_X5_keepTarget_X7 : ∀ w ∈ wsX70, w ∈ w_f_X5_keepTarget := fun _ h => List.mem_cons_of_mem _ (List.mem_append_right _ (List.mem_append_right _ (List.mem_append_right _ (List.mem_append_right _ (List.mem_append_right _ (List.mem_append_right _ (List.mem_append_right _ (List.mem_append_left _ h))))))))
theorem hd_f_X5_keepTarget : yX5_keepTarget.cls = RX5 ∧ yX5_keepTarget.cls ≠ "java/lang/invoke/MethodHandle" ∧ yX5_keepTarget.cls ≠ "java/lang/invoke/VarHandle" ∧ (parseMethodDescriptor yX5_keepTarget.desc).map (fun d => d.parameters.length) = some 1 := by decide +kernel
theorem gg_f_X5_keepTarget_X5_keep__A0 : GoodIn w_f_X5_keepTarget w_f_X5_keep__A0 := goodIn_sub (fun w h => (List.mem_cons.mp h).elim (fun e => (List.mem_cons_of_mem _ (List.mem_append_left _ (List.mem_append_right _ (List.mem_append_right _ (List.mem_append_right _ (List.mem_append_right _ (List.mem_append_left _ (List.mem_cons.mpr (Or.inl e)))))))))) (fun h => (List.mem_append.mp h).elim (fun h => (List.mem_cons_of_mem _ (List.mem_append_left _ (List.mem_append_right _ (List.mem_append_right _ (List.mem_append_right _ (List.mem_append_right _ (List.mem_append_left _ (List.mem_cons_of_mem _ h))))))))) (fun h => List.mem_cons_of_mem _ (List.mem_append_right _ h)))) w_f_X5_keep__A0_good
theorem g_f_X5_keepTarget_X5_keep__A0_V335 : GoodIn w_f_X5_keepTarget (wsV RX5 335 RX5 yX5_keep w_f_X5_keep__A0) := goodIn_app (nb_g4 (List.mem_cons_of_mem _ (List.mem_append_left _ (List.mem_append_left _ (List.mem_of_getElem? (i := 16) rfl)))) (List.mem_cons_of_mem _ (List.mem_append_left _ (List.mem_append_left _ (List.mem_of_getElem? (i := 17) rfl)))) (List.mem_cons_of_mem _ (List.mem_append_left _ (List.mem_append_left _ (List.mem_of_getElem? (i := 18) rfl)))) (List.mem_cons_of_mem _ (List.mem_append_left _ (List.mem_append_left _ (List.mem_of_getElem? (i := 19) rfl)))) (by decide +kernel)) gg_f_X5_keepTarget_X5_keep__A0
theorem gg_f_X5_keepTarget_X7_emit__P : GoodIn w_f_X5_keepTarget w_f_X7_emit__P := goodIn_sub (fun w h => (List.mem_cons.mp h).elim (fun e => (List.mem_cons_of_mem _ (List.mem_append_left _ (List.mem_append_right _ (List.mem_append_right _ (List.mem_append_left _ (List.mem_cons.mpr (Or.inl e)))))))) (fun h => (List.mem_append.mp h).elim (fun h => (List.mem_cons_of_mem _ (List.mem_append_left _ (List.mem_append_right _ (List.mem_append_right _ (List.mem_append_left _ (List.mem_cons_of_mem _ h))))))) (fun h => List.mem_cons_of_mem _ (List.mem_append_right _ h)))) w_f_X7_emit__P_good
theorem g_f_X5_keepTarget_X7_emit__P_V66 : GoodIn w_f_X5_keepTarget (wsV RX5 66 RX7 yX7_emit w_f_X7_emit__P) := goodIn_app (nb_g4 (List.mem_cons_of_mem _ (List.mem_append_left _ (List.mem_append_left _ (List.mem_of_getElem? (i := 8) rfl)))) (List.mem_cons_of_mem _ (List.mem_append_left _ (List.mem_append_left _ (List.mem_of_getElem? (i := 9) rfl)))) (List.mem_cons_of_mem _ (List.mem_append_left _ (List.mem_append_left _ (List.mem_of_getElem? (i := 10) rfl)))) (List.mem_cons_of_mem _ (List.mem_append_left _ (List.mem_append_left _ (List.mem_of_getElem? (i := 7) rfl)))) (by decide +kernel)) gg_f_X5_keepTarget_X7_emit__P
theorem gg_f_X5_keepTarget_X7_word__P : GoodIn w_f_X5_keepTarget w_f_X7_word__P := goodIn_sub (fun w h => (List.mem_cons.mp h).elim (fun e => (List.mem_cons_of_mem _ (List.mem_append_left _ (List.mem_append_right _ (List.mem_append_right _ (List.mem_append_right _ (List.mem_append_left _ (List.mem_cons.mpr (Or.inl e))))))))) (fun h => (List.mem_append.mp h).elim (fun h => (List.mem_cons_of_mem _ (List.mem_append_left _ (List.mem_append_right _ (List.mem_append_right _ (List.mem_append_right _ (List.mem_append_left _ (List.mem_cons_of_mem _ h)))))))) (fun h => List.mem_cons_of_mem _ (List.mem_append_right _ h)))) w_f_X7_word__P_good
theorem g_f_X5_keepTarget_X7_word__P_V243 : GoodIn w_f_X5_keepTarget (wsV RX5 243 RX7 yX7_word w_f_X7_word__P) := goodIn_app (nb_g4 (List.mem_cons_of_mem _ (List.mem_append_left _ (List.mem_append_left _ (List.mem_of_getElem? (i := 13) rfl)))) (List.mem_cons_of_mem _ (List.mem_append_left _ (List.mem_append_left _ (List.mem_of_getElem? (i := 14) rfl)))) (List.mem_cons_of_mem _ (List.mem_append_left _ (List.mem_append_left _ (List.mem_of_getElem? (i := 15) rfl)))) (List.mem_cons_of_mem _ (List.mem_append_left _ (List.mem_append_left _ (List.mem_of_getElem? (i := 7) rfl)))) (by decide +kernel)) gg_f_X5_keepTarget_X7_word__P
theorem gg_f_X5_keepTarget_X7_words__P__A0 : GoodIn w_f_X5_keepTarget w_f_X7_words__P__A0 := goodIn_sub (fun w h => (List.mem_cons.mp h).elim (fun e => (List.mem_cons_of_mem _ (List.mem_append_left _ (List.mem_append_right _ (List.mem_append_left _ (List.mem_cons.mpr (Or.inl e))))))) (fun h => (List.mem_append.mp h).elim (fun h => (List.mem_cons_of_mem _ (List.mem_append_left _ (List.mem_append_right _ (List.mem_append_left _ (List.mem_cons_of_mem _ h)))))) (fun h => List.mem_cons_of_mem _ (List.mem_append_right _ h)))) w_f_X7_words__P__A0_good
theorem g_f_X5_keepTarget_X7_words__P__A0_V312 : GoodIn w_f_X5_keepTarget (wsV RX5 312 RX7 yX7_words w_f_X7_words__P__A0) := goodIn_app (nb_g4 (List.mem_cons_of_mem _ (List.mem_append_left _ (List.mem_append_left _ (List.mem_of_getElem? (i := 4) rfl)))) (List.mem_cons_of_mem _ (List.mem_append_left _ (List.mem_append_left _ (List.mem_of_getElem? (i := 5) rfl)))) (List.mem_cons_of_mem _ (List.mem_append_left _ (List.mem_append_left _ (List.mem_of_getElem? (i := 6) rfl)))) (List.mem_cons_of_mem _ (List.mem_append_left _ (List.mem_append_left _ (List.mem_of_getElem? (i := 7) rfl)))) (by decide +kernel)) gg_f_X5_keepTarget_X7_words__P__A0
set_option maxHeartbeats 40000000 in
set_option maxRecDepth 100000 in
theorem c_f_X5_keepTarget (l : Launch) (hl0 : l.stackTraces = false) (dC : Nat → ClassId) (dI : Nat → Nat → Nat) (cy : Nat → ClassId) (ek a : Nat → Nat) (k0 : Nat) (L0 : LV) (σ0 : CS) (r0 : RS) (h0 : f_X5_keepTarget k0 0 L0 σ0 = some r0) (z : Nat → Nat) (sz : Nat) : vx_Met l yX5_keepTarget w_f_X5_keepTarget ({ frames := 8, cells := r0.2.2.1, slots := r0.2.2.2, locals := 144 }) (va_Pc [.ref (a 40), .int (L0.1 1)] (nInF (dC, dI) cy ek sz (vC cy a z σ0))) (xV dC dI cy a (va_A (vC cy a z σ0) sz) [42, 43, 51] z r0) (xX dC dI cy a (va_A (vC cy a z σ0) sz) [42, 43, 51] z r0) r0.2.2.1 r0.2.2.2 (va_A (vC cy a z σ0) sz) := by
  refine vx_ofW (cc := cX5_keepTarget) (maxL := 6) (ret := none) (by decide) rfl ?_
  intro p e s m args below meth c s₁ B hml hno hv
  obtain ⟨rfl, ⟨⟨hsz, hP, hK, hD0, hG⟩, hE⟩, hT⟩ := hv
  have hx := B.exec
  have hb := B.bytes
  have hr := B.returns
  have hts := atoms_spec (ws := w_f_X5_keepTarget) B.pre
  have hown : s.vm.findClass RX5 = some m.cls := findClass_of_methodNamed B.named
  have hlocks := B.notSynchronized
  subst hsz
  have hD := hD0.self (sz := s.heap.size)
  generalize hAe : va_A (vC cy a z σ0) s.heap.size = A at hD hE hT ⊢
  have hA : ∀ q : Nat, s.heap.size ≤ q → A q := fun q h => by rw [← hAe]; exact Or.inr h
  have hS : va_S A s.heap s.heap [] := va_S.rf
  have hl := lv_entry ([.ref (a 40), .int (L0.1 1)]) (n := 6) (Nat.le_of_ble_eq_true rfl)
  rw [lg_entry_eq]
  generalize (lg_sl ([.ref (a 40), .int (L0.1 1)]) ++ List.replicate (6 - (lg_sl ([.ref (a 40), .int (L0.1 1)])).length) Slot.unset).toArray = ls at hl ⊢
  have hl : lv_has ls 6 [(0, .ref (a 40)), (1, .int (L0.1 1))] := hl
  generalize hmc : r0.2.2.1 = mc
  generalize hms : r0.2.2.2 = ms
  have blk : ∀ k : Nat, (bX p l e (headSpec w_f_X5_keepTarget ({ frames := 8, cells := mc, slots := ms, locals := 144 })).room s m #[.ref (a 40), .int (L0.1 1)] below meth c dC dI cy a A (fun r => vx_MQ below (xV dC dI cy a A [42, 43, 51] z r) (xX dC dI cy a A [42, 43, 51] z r) #[.ref (a 40), .int (L0.1 1)] s mc ms A) [42, 43, 51] z mc ms 6 (f_X5_keepTarget k 0) (fun z L => [(0, .ref (a 40)), (1, .int (L.1 1))]) 0 (fun z L => [])) ∧ (bX p l e (headSpec w_f_X5_keepTarget ({ frames := 8, cells := mc, slots := ms, locals := 144 })).room s m #[.ref (a 40), .int (L0.1 1)] below meth c dC dI cy a A (fun r => vx_MQ below (xV dC dI cy a A [42, 43, 51] z r) (xX dC dI cy a A [42, 43, 51] z r) #[.ref (a 40), .int (L0.1 1)] s mc ms A) [42, 43, 51] z mc ms 6 (f_X5_keepTarget k 1) (fun z L => [(0, .ref (a 40)), (1, .int (L.1 1)), (2, .int (L.1 2)), (3, .int (L.1 3)), (4, .int (L.1 4))]) 13 (fun z L => [])) ∧ (bX p l e (headSpec w_f_X5_keepTarget ({ frames := 8, cells := mc, slots := ms, locals := 144 })).room s m #[.ref (a 40), .int (L0.1 1)] below meth c dC dI cy a A (fun r => vx_MQ below (xV dC dI cy a A [42, 43, 51] z r) (xX dC dI cy a A [42, 43, 51] z r) #[.ref (a 40), .int (L0.1 1)] s mc ms A) [42, 43, 51] z mc ms 6 (f_X5_keepTarget k 2) (fun z L => [(0, .ref (a 40)), (1, .int (L.1 1)), (2, .int (L.1 2)), (3, .int (L.1 3))]) 99 (fun z L => [])) ∧ (bX p l e (headSpec w_f_X5_keepTarget ({ frames := 8, cells := mc, slots := ms, locals := 144 })).room s m #[.ref (a 40), .int (L0.1 1)] below meth c dC dI cy a A (fun r => vx_MQ below (xV dC dI cy a A [42, 43, 51] z r) (xX dC dI cy a A [42, 43, 51] z r) #[.ref (a 40), .int (L0.1 1)] s mc ms A) [42, 43, 51] z mc ms 6 (f_X5_keepTarget k 3) (fun z L => [(0, .ref (a 40)), (1, .int (L.1 1)), (2, .int (L.1 2)), (4, .int (L.1 4))]) 90 (fun z L => [.int (L.1 100)])) ∧ (bX p l e (headSpec w_f_X5_keepTarget ({ frames := 8, cells := mc, slots := ms, locals := 144 })).room s m #[.ref (a 40), .int (L0.1 1)] below meth c dC dI cy a A (fun r => vx_MQ below (xV dC dI cy a A [42, 43, 51] z r) (xX dC dI cy a A [42, 43, 51] z r) #[.ref (a 40), .int (L0.1 1)] s mc ms A) [42, 43, 51] z mc ms 6 (f_X5_keepTarget k 4) (fun z L => [(0, .ref (a 40)), (1, .int (L.1 1)), (2, .int (L.1 2)), (4, .int (L.1 4))]) 91 (fun z L => [.int (L.1 100), .int (L.1 101)])) ∧ (bX p l e (headSpec w_f_X5_keepTarget ({ frames := 8, cells := mc, slots := ms, locals := 144 })).room s m #[.ref (a 40), .int (L0.1 1)] below meth c dC dI cy a A (fun r => vx_MQ below (xV dC dI cy a A [42, 43, 51] z r) (xX dC dI cy a A [42, 43, 51] z r) #[.ref (a 40), .int (L0.1 1)] s mc ms A) [42, 43, 51] z mc ms 6 (f_X5_keepTarget k 5) (fun z L => [(0, .ref (a 40)), (2, .int (L.1 2)), (3, .int (L.1 3))]) 142 (fun z L => [.int (L.1 100), .ref (a (pA (L.2.2.1 101)))])) ∧ (bX p l e (headSpec w_f_X5_keepTarget ({ frames := 8, cells := mc, slots := ms, locals := 144 })).room s m #[.ref (a 40), .int (L0.1 1)] below meth c dC dI cy a A (fun r => vx_MQ below (xV dC dI cy a A [42, 43, 51] z r) (xX dC dI cy a A [42, 43, 51] z r) #[.ref (a 40), .int (L0.1 1)] s mc ms A) [42, 43, 51] z mc ms 6 (f_X5_keepTarget k 6) (fun z L => [(0, .ref (a 40)), (2, .int (L.1 2)), (3, .int (L.1 3))]) 143 (fun z L => [.int (L.1 100), .int (L.1 101), .ref (a (pA (L.2.2.1 102)))])) ∧ (bX p l e (headSpec w_f_X5_keepTarget ({ frames := 8, cells := mc, slots := ms, locals := 144 })).room s m #[.ref (a 40), .int (L0.1 1)] below meth c dC dI cy a A (fun r => vx_MQ below (xV dC dI cy a A [42, 43, 51] z r) (xX dC dI cy a A [42, 43, 51] z r) #[.ref (a 40), .int (L0.1 1)] s mc ms A) [42, 43, 51] z mc ms 6 (f_X5_keepTarget k 7) (fun z L => [(0, .ref (a 40)), (2, .int (L.1 2)), (3, .int (L.1 3)), (4, .int (L.1 4))]) 186 (fun z L => [])) ∧ (bX p l e (headSpec w_f_X5_keepTarget ({ frames := 8, cells := mc, slots := ms, locals := 144 })).room s m #[.ref (a 40), .int (L0.1 1)] below meth c dC dI cy a A (fun r => vx_MQ below (xV dC dI cy a A [42, 43, 51] z r) (xX dC dI cy a A [42, 43, 51] z r) #[.ref (a 40), .int (L0.1 1)] s mc ms A) [42, 43, 51] z mc ms 6 (f_X5_keepTarget k 8) (fun z L => [(0, .ref (a 40)), (2, .int (L.1 2)), (3, .int (L.1 3))]) 225 (fun z L => [])) := by
    intro k
    induction k with
    | zero => exact ⟨fun z c1 c2 L σ r h => (by cases h), fun z c1 c2 L σ r h => (by cases h), fun z c1 c2 L σ r h => (by cases h), fun z c1 c2 L σ r h => (by cases h), fun z c1 c2 L σ r h => (by cases h), fun z c1 c2 L σ r h => (by cases h), fun z c1 c2 L σ r h => (by cases h), fun z c1 c2 L σ r h => (by cases h), fun z c1 c2 L σ r h => (by cases h)⟩
    | succ k ih =>
      refine ⟨?_, ?_, ?_, ?_, ?_, ?_, ?_, ?_, ?_⟩
      · intro z cells slots L σ r h hzk hc hs H locs ls hP hD hS hl
        rw [f_X5_keepTarget] at h
        refine lv_aload_n hx hb dX5_keepTarget_0 rfl (lv_at hl 0 rfl) ?_
        obtain ⟨b1, hb1, h⟩ := oP_ex h
        refine hgq_40_2 hx hb hts in_f_X5_keepTarget_X5 hown hK hP (hts _ (List.mem_cons_of_mem _ (List.mem_append_left _ (List.mem_append_left _ (List.mem_of_getElem? (i := 0) rfl))))) hb1 dX5_keepTarget_1 ?_
        refine hg_P_1n b1 hx hb hts in_f_X5_keepTarget_X7 hown hK hP (va_Nw.use rfl (hG.1 _ (List.mem_of_getElem? (i := 68) rfl))) dX5_keepTarget_4 ?_
        refine lv_istore_n (lv' := [(2, .int (σ.1 (fP b1 1))), (0, .ref (a 40)), (1, .int (L.1 1))]) hx hb dX5_keepTarget_7 rfl hl (by decide) rfl (fun ls hl => ?_)
        refine lv_iconst (v := 0) hx hb dX5_keepTarget_8 (by decide) ?_
        refine lv_istore_n (lv' := [(3, .int 0), (2, .int (σ.1 (fP b1 1))), (0, .ref (a 40)), (1, .int (L.1 1))]) hx hb dX5_keepTarget_9 rfl hl (by decide) rfl (fun ls hl => ?_)
        refine lv_iconst (v := 0) hx hb dX5_keepTarget_10 (by decide) ?_
        refine lv_istore (lv' := [(4, .int 0), (3, .int 0), (2, .int (σ.1 (fP b1 1))), (0, .ref (a 40)), (1, .int (L.1 1))]) hx hb dX5_keepTarget_11 hl (by decide) rfl (fun ls hl => ?_)
        exact ih.2.1 z _ _ (lI (lI (lI L 2 ((σ.1 (fP b1 1)))) 3 0) 4 0) σ _ h hzk hc hs H locs ls hP hD hS (lv_sub hl [3, 4, 2, 1, 0] rfl)
      · intro z cells slots L σ r h hzk hc hs H locs ls hP hD hS hl
        rw [f_X5_keepTarget] at h
        refine lv_iload hx hb dX5_keepTarget_13 (lv_at hl 4 rfl) ?_
        refine lv_aload_n hx hb dX5_keepTarget_15 rfl (lv_at hl 0 rfl) ?_
        refine hg_40_19 hx hb hts in_f_X5_keepTarget_X5 hown hK hP (hts _ (List.mem_cons_of_mem _ (List.mem_append_left _ (List.mem_append_left _ (List.mem_of_getElem? (i := 1) rfl))))) dX5_keepTarget_16 ?_
        refine lv_icmp_ge (tgt := 99) hx hb dX5_keepTarget_19 (by decide) (fun c1 => ?_) (fun c1 => ?_)
        · rw [if_pos c1] at h
          exact ih.2.2.1 z _ _ L σ _ h hzk hc hs H locs ls hP hD hS (lv_sub hl [0, 1, 2, 3] rfl)
        · rw [if_neg c1] at h
          refine lv_aload_n hx hb dX5_keepTarget_22 rfl (lv_at hl 0 rfl) ?_
          refine hg_40_18 hx hb hts in_f_X5_keepTarget_X5 hown hK hP (hts _ (List.mem_cons_of_mem _ (List.mem_append_left _ (List.mem_append_left _ (List.mem_of_getElem? (i := 2) rfl))))) dX5_keepTarget_23 ?_
          refine lv_iconst (v := 3) hx hb dX5_keepTarget_26 (by decide) ?_
          refine lv_iload hx hb dX5_keepTarget_27 (lv_at hl 4 rfl) ?_
          refine lv_imul hx hb dX5_keepTarget_29 ?_
          refine lv_iadd hx hb dX5_keepTarget_30 ?_
          refine lv_istore (lv' := [(5, .int (((σ.1 4018)) + ((3 * ((L.1 4)))))), (0, .ref (a 40)), (1, .int (L.1 1)), (2, .int (L.1 2)), (3, .int (L.1 3)), (4, .int (L.1 4))]) hx hb dX5_keepTarget_31 hl (by decide) rfl (fun ls hl => ?_)
          refine lv_aload_n hx hb dX5_keepTarget_33 rfl (lv_at hl 1 rfl) ?_
          obtain ⟨b2, hb2, h⟩ := oP_ex h
          refine hgq_40_2 hx hb hts in_f_X5_keepTarget_X5 hown hK hP (hts _ (List.mem_cons_of_mem _ (List.mem_append_left _ (List.mem_append_left _ (List.mem_of_getElem? (i := 0) rfl))))) hb2 dX5_keepTarget_34 ?_
          refine lv_aload_n hx hb dX5_keepTarget_37 rfl (lv_at hl 1 rfl) ?_
          obtain ⟨b3, hb3, h⟩ := oP_ex h
          refine hgq_40_2 hx hb hts in_f_X5_keepTarget_X5 hown hK hP (hts _ (List.mem_cons_of_mem _ (List.mem_append_left _ (List.mem_append_left _ (List.mem_of_getElem? (i := 0) rfl))))) hb3 dX5_keepTarget_38 ?_
          refine hg_P_0n b3 hx hb hts in_f_X5_keepTarget_X7 hown hK hP (va_Nw.use rfl (hG.1 _ (List.mem_of_getElem? (i := 67) rfl))) dX5_keepTarget_41 ?_
          refine lv_aload_n hx hb dX5_keepTarget_44 rfl (lv_at hl 1 rfl) ?_
          refine hg_40_10 hx hb hts in_f_X5_keepTarget_X5 hown hK hP (hts _ (List.mem_cons_of_mem _ (List.mem_append_left _ (List.mem_append_left _ (List.mem_of_getElem? (i := 3) rfl))))) dX5_keepTarget_45 ?_
          refine lv_iload hx hb dX5_keepTarget_48 (lv_at hl 0 rfl) ?_
          obtain ⟨q4, h⟩ := kr_ite1 h
          refine hl_41 hx hb hK hP q4 dX5_keepTarget_50 ?_
          refine lv_aload_n hx hb dX5_keepTarget_51 rfl (lv_at hl 1 rfl) ?_
          refine hg_40_10 hx hb hts in_f_X5_keepTarget_X5 hown hK hP (hts _ (List.mem_cons_of_mem _ (List.mem_append_left _ (List.mem_append_left _ (List.mem_of_getElem? (i := 3) rfl))))) dX5_keepTarget_52 ?_
          refine lv_iload hx hb dX5_keepTarget_55 (lv_at hl 0 rfl) ?_
          refine lv_iconst (v := 1) hx hb dX5_keepTarget_57 (by decide) ?_
          refine lv_iadd hx hb dX5_keepTarget_58 ?_
          obtain ⟨q5, h⟩ := kr_ite1 h
          refine hl_41 hx hb hK hP q5 dX5_keepTarget_59 ?_
          refine lv_aload_n hx hb dX5_keepTarget_60 rfl (lv_at hl 1 rfl) ?_
          refine hg_40_10 hx hb hts in_f_X5_keepTarget_X5 hown hK hP (hts _ (List.mem_cons_of_mem _ (List.mem_append_left _ (List.mem_append_left _ (List.mem_of_getElem? (i := 3) rfl))))) dX5_keepTarget_61 ?_
          refine lv_iload hx hb dX5_keepTarget_64 (lv_at hl 0 rfl) ?_
          obtain ⟨q6, h⟩ := kr_ite1 h
          refine hl_41 hx hb hK hP q6 dX5_keepTarget_66 ?_
          refine lv_isub hx hb dX5_keepTarget_67 ?_
          obtain ⟨r7, hc7, hle7, h9⟩ := ox_ex h
          clear h
          refine kx_v (vx_runV (As := [.ref (z (pR0 (sKd σ b3))), .int (σ.2.2.1 41 ((((σ.1 4018)) + ((3 * ((L.1 4)))))).toNatClampNeg), .int (((σ.2.2.1 41 ((((((σ.1 4018)) + ((3 * ((L.1 4)))))) + 1)).toNatClampNeg)) - ((σ.2.2.1 41 ((((σ.1 4018)) + ((3 * ((L.1 4)))))).toNatClampNeg)))]) (rest := []) ⟨hx, hb, hml, hown, hts⟩ (c_f_X7_words__P__A0 l hl0 dC dI cy ek a k (lI (lI (lB (lB lZ 0 b2) 1 ((sKd σ b3))) 2 ((σ.2.2.1 41 ((((σ.1 4018)) + ((3 * ((L.1 4)))))).toNatClampNeg))) 3 ((((σ.2.2.1 41 ((((((σ.1 4018)) + ((3 * ((L.1 4)))))) + 1)).toNatClampNeg)) - ((σ.2.2.1 41 ((((σ.1 4018)) + ((3 * ((L.1 4)))))).toNatClampNeg))))) σ r7 hc7 z H.size) (cwV 3 hts g_f_X5_keepTarget_X7_words__P__A0_V312 rfl rfl rfl hd_f_X7_words__P__A0 ⟨Nat.le_of_ble_eq_true rfl, Nat.le_of_ble_eq_true rfl⟩) ⟨nb_blindF, recvP b2 hK hP, (kx_pre hK hG hE hT hA hP hD hS)⟩ rfl rfl hl.1 rfl (lv_room (Nat.le_of_ble_eq_true rfl)) dX5_keepTarget_68 ⟨Nat.le_trans (Nat.add_le_add_left hle7.1 _) (Nat.le_of_eq hc), Nat.le_trans (Nat.add_le_add_left hle7.2 _) (Nat.le_of_eq hs)⟩) hK hA hzk hP hD hS (by decide) hno hlocks ?_
          rcases h9 with ⟨h00, y7, hny7, hy⟩ | ⟨h00, hy⟩
          · subst hy
            have h := hny7
            refine Or.inl ⟨h00, fun z H locs hz7 hzk hP hD hS => ?_⟩
            replace hc := (Nat.add_assoc _ _ _).trans hc
            replace hs := (Nat.add_assoc _ _ _).trans hs
            refine lv_iload_n hx hb dX5_keepTarget_71 rfl (lv_at hl 4 rfl) ?_
            refine lv_aload_n hx hb dX5_keepTarget_72 rfl (lv_at hl 1 rfl) ?_
            refine hg_40_10 hx hb hts in_f_X5_keepTarget_X5 hown hK hP (hts _ (List.mem_cons_of_mem _ (List.mem_append_left _ (List.mem_append_left _ (List.mem_of_getElem? (i := 3) rfl))))) dX5_keepTarget_73 ?_
            refine lv_iload hx hb dX5_keepTarget_76 (lv_at hl 0 rfl) ?_
            refine lv_iconst (v := 2) hx hb dX5_keepTarget_78 (by decide) ?_
            refine lv_iadd hx hb dX5_keepTarget_79 ?_
            obtain ⟨q8, h⟩ := kr_ite1 h
            refine hl_41 hx hb hK hP q8 dX5_keepTarget_80 ?_
            refine lv_bipush (v := 97) hx hb dX5_keepTarget_81 (by decide) ?_
            refine lv_icmp_ne (tgt := 90) hx hb dX5_keepTarget_83 (by decide) (fun c9 => ?_) (fun c9 => ?_)
            · rw [if_neg c9] at h
              exact ih.2.2.2.1 z _ _ (lI L 100 ((L.1 3))) r7.2.1 _ h hzk hc hs H locs ls hP hD hS (lv_sub hl [1, 2, 3, 5] rfl)
            · rw [if_pos c9] at h
              refine lv_iconst (v := 2) hx hb dX5_keepTarget_86 (by decide) ?_
              refine lv_goto (tgt := 91) hx hb dX5_keepTarget_87 (by decide) ?_
              exact ih.2.2.2.2.1 z _ _ (lI (lI L 100 2) 101 ((L.1 3))) r7.2.1 _ h hzk hc hs H locs ls hP hD hS (lv_sub hl [1, 2, 3, 5] rfl)
          · subst hy
            exact Or.inr ⟨h00, rfl, hc, hs⟩
      · intro z cells slots L σ r h hzk hc hs H locs ls hP hD hS hl
        rw [f_X5_keepTarget] at h
        refine lv_aload_n hx hb dX5_keepTarget_99 rfl (lv_at hl 0 rfl) ?_
        obtain ⟨b1, hb1, h⟩ := oP_ex h
        refine hgq_40_2 hx hb hts in_f_X5_keepTarget_X5 hown hK hP (hts _ (List.mem_cons_of_mem _ (List.mem_append_left _ (List.mem_append_left _ (List.mem_of_getElem? (i := 0) rfl))))) hb1 dX5_keepTarget_100 ?_
        refine lv_bipush (v := 38) hx hb dX5_keepTarget_103 (by decide) ?_
        refine lv_iload_n hx hb dX5_keepTarget_105 rfl (lv_at hl 3 rfl) ?_
        refine lv_iload_n hx hb dX5_keepTarget_106 rfl (lv_at hl 1 rfl) ?_
        refine lv_iadd hx hb dX5_keepTarget_107 ?_
        obtain ⟨r2, hc2, hle2, h9⟩ := ox_ex h
        clear h
        refine kx_i (vx_runV (As := [.int 38, .int (((L.1 3)) + ((L.1 1)))]) (rest := []) ⟨hx, hb, hml, hown, hts⟩ (c_f_X7_emit__P l hl0 dC dI cy ek a k (lI (lI (lB lZ 0 b1) 1 38) 2 ((((L.1 3)) + ((L.1 1))))) σ r2 hc2 z H.size) (cwV 2 hts g_f_X5_keepTarget_X7_emit__P_V66 rfl rfl rfl hd_f_X7_emit__P ⟨Nat.le_of_ble_eq_true rfl, Nat.le_of_ble_eq_true rfl⟩) ⟨nb_blindF, recvP b1 hK hP, (kx_pre hK hG hE hT hA hP hD hS)⟩ rfl rfl hl.1 rfl (lv_room (Nat.le_of_ble_eq_true rfl)) dX5_keepTarget_108 ⟨Nat.le_trans (Nat.add_le_add_left hle2.1 _) (Nat.le_of_eq hc), Nat.le_trans (Nat.add_le_add_left hle2.2 _) (Nat.le_of_eq hs)⟩) hK hA hzk hP hD hS (by decide) hno hlocks ?_
        rcases h9 with ⟨h00, y2, hny2, hy⟩ | ⟨h00, hy⟩
        · subst hy
          have h := hny2
          refine Or.inl ⟨h00, fun z H locs hz2 hzk hP hD hS => ?_⟩
          replace hc := (Nat.add_assoc _ _ _).trans hc
          replace hs := (Nat.add_assoc _ _ _).trans hs
          refine lv_pop hx hb dX5_keepTarget_111 rfl ?_
          refine lv_aload_n hx hb dX5_keepTarget_112 rfl (lv_at hl 0 rfl) ?_
          obtain ⟨b3, hb3, h⟩ := oP_ex h
          refine hgq_40_2 hx hb hts in_f_X5_keepTarget_X5 hown hK hP (hts _ (List.mem_cons_of_mem _ (List.mem_append_left _ (List.mem_append_left _ (List.mem_of_getElem? (i := 0) rfl))))) hb3 dX5_keepTarget_113 ?_
          refine lv_sipush (v := 192) hx hb dX5_keepTarget_116 (by decide) ?_
          refine lv_aload_n hx hb dX5_keepTarget_119 rfl (lv_at hl 0 rfl) ?_
          obtain ⟨b4, hb4, h⟩ := oP_ex h
          refine hgq_40_2 hx hb hts in_f_X5_keepTarget_X5 hown hK hP (hts _ (List.mem_cons_of_mem _ (List.mem_append_left _ (List.mem_append_left _ (List.mem_of_getElem? (i := 0) rfl))))) hb4 dX5_keepTarget_120 ?_
          refine hg_P_8n b4 hx hb hts in_f_X5_keepTarget_X7 hown hK hP (va_Nw.use rfl (hG.1 _ (List.mem_of_getElem? (i := 78) rfl))) dX5_keepTarget_123 ?_
          refine lv_aload_n hx hb dX5_keepTarget_126 rfl (lv_at hl 0 rfl) ?_
          refine hg_40_20 hx hb hts in_f_X5_keepTarget_X5 hown hK hP (hts _ (List.mem_cons_of_mem _ (List.mem_append_left _ (List.mem_append_left _ (List.mem_of_getElem? (i := 11) rfl))))) dX5_keepTarget_127 ?_
          obtain ⟨q5, h⟩ := kr_ite1 h
          refine hl_P8 b4 hx hb hK hP q5 dX5_keepTarget_130 ?_
          refine lv_aload_n hx hb dX5_keepTarget_131 rfl (lv_at hl 0 rfl) ?_
          refine hg_40_3 hx hb hts in_f_X5_keepTarget_X5 hown hK hP (hts _ (List.mem_cons_of_mem _ (List.mem_append_left _ (List.mem_append_left _ (List.mem_of_getElem? (i := 12) rfl))))) dX5_keepTarget_132 ?_
          refine lv_icmp_ne (tgt := 142) hx hb dX5_keepTarget_135 (by decide) (fun c6 => ?_) (fun c6 => ?_)
          · rw [if_neg c6] at h
            exact ih.2.2.2.2.2.1 z _ _ (lB (lI L 100 192) 101 b3) r2.2.1 _ h hzk hc hs H locs ls hP hD hS (lv_sub hl [0, 2, 3] rfl)
          · rw [if_pos c6] at h
            refine lv_iconst (v := 0) hx hb dX5_keepTarget_138 (by decide) ?_
            refine lv_goto (tgt := 143) hx hb dX5_keepTarget_139 (by decide) ?_
            exact ih.2.2.2.2.2.2.1 z _ _ (lB (lI (lI L 100 0) 101 192) 102 b3) r2.2.1 _ h hzk hc hs H locs ls hP hD hS (lv_sub hl [0, 2, 3] rfl)
        · subst hy
          exact Or.inr ⟨h00, rfl, hc, hs⟩
      · intro z cells slots L σ r h hzk hc hs H locs ls hP hD hS hl
        rw [f_X5_keepTarget] at h
        refine lv_iconst (v := 1) hx hb dX5_keepTarget_90 (by decide) ?_
        exact ih.2.2.2.2.1 z _ _ (lI (lI L 100 1) 101 ((L.1 100))) σ _ h hzk hc hs H locs ls hP hD hS (lv_sub hl [0, 1, 2, 3] rfl)
      · intro z cells slots L σ r h hzk hc hs H locs ls hP hD hS hl
        rw [f_X5_keepTarget] at h
        refine lv_iadd hx hb dX5_keepTarget_91 ?_
        refine lv_istore_n (lv' := [(3, .int (((L.1 101)) + ((L.1 100)))), (0, .ref (a 40)), (1, .int (L.1 1)), (2, .int (L.1 2)), (4, .int (L.1 4))]) hx hb dX5_keepTarget_92 rfl hl (by decide) rfl (fun ls hl => ?_)
        refine lv_iinc (v := ((L.1 4)) + 1) (lv' := [(4, .int (((L.1 4)) + 1)), (3, .int (((L.1 101)) + ((L.1 100)))), (0, .ref (a 40)), (1, .int (L.1 1)), (2, .int (L.1 2))]) hx hb dX5_keepTarget_93 hl (k := 4) rfl rfl (by decide) rfl (fun ls hl => ?_)
        refine lv_goto (tgt := 13) hx hb dX5_keepTarget_96 (by decide) ?_
        exact ih.2.1 z _ _ (lI (lI L 3 ((((L.1 101)) + ((L.1 100))))) 4 ((((L.1 4)) + 1))) σ _ h hzk hc hs H locs ls hP hD hS (lv_sub hl [2, 3, 4, 1, 0] rfl)
      · intro z cells slots L σ r h hzk hc hs H locs ls hP hD hS hl
        rw [f_X5_keepTarget] at h
        refine lv_iconst (v := 1) hx hb dX5_keepTarget_142 (by decide) ?_
        exact ih.2.2.2.2.2.2.1 z _ _ (lB (lI (lI L 100 1) 101 ((L.1 100))) 102 ((L.2.2.1 101))) σ _ h hzk hc hs H locs ls hP hD hS (lv_sub hl [0, 1, 2] rfl)
      · intro z cells slots L σ r h hzk hc hs H locs ls hP hD hS hl
        rw [f_X5_keepTarget] at h
        refine lv_iadd hx hb dX5_keepTarget_143 ?_
        refine lv_aload_n hx hb dX5_keepTarget_144 rfl (lv_at hl 0 rfl) ?_
        obtain ⟨b1, hb1, h⟩ := oP_ex h
        refine hgq_40_2 hx hb hts in_f_X5_keepTarget_X5 hown hK hP (hts _ (List.mem_cons_of_mem _ (List.mem_append_left _ (List.mem_append_left _ (List.mem_of_getElem? (i := 0) rfl))))) hb1 dX5_keepTarget_145 ?_
        refine hg_P_9n b1 hx hb hts in_f_X5_keepTarget_X7 hown hK hP (va_Nw.use rfl (hG.1 _ (List.mem_of_getElem? (i := 80) rfl))) dX5_keepTarget_148 ?_
        refine lv_aload_n hx hb dX5_keepTarget_151 rfl (lv_at hl 0 rfl) ?_
        refine hg_40_20 hx hb hts in_f_X5_keepTarget_X5 hown hK hP (hts _ (List.mem_cons_of_mem _ (List.mem_append_left _ (List.mem_append_left _ (List.mem_of_getElem? (i := 11) rfl))))) dX5_keepTarget_152 ?_
        obtain ⟨q2, h⟩ := kr_ite1 h
        refine hl_P9 b1 hx hb hK hP q2 dX5_keepTarget_155 ?_
        obtain ⟨r3, hc3, hle3, h9⟩ := ox_ex h
        clear h
        refine kx_i (vx_runV (As := [.int (((L.1 101)) + ((L.1 100))), .int (σ.2.2.1 (pR9 b1) ((σ.1 4020)).toNatClampNeg)]) (rest := []) ⟨hx, hb, hml, hown, hts⟩ (c_f_X7_emit__P l hl0 dC dI cy ek a k (lI (lI (lB lZ 0 ((L.2.2.1 102))) 1 ((((L.1 101)) + ((L.1 100))))) 2 ((σ.2.2.1 (pR9 b1) ((σ.1 4020)).toNatClampNeg))) σ r3 hc3 z H.size) (cwV 2 hts g_f_X5_keepTarget_X7_emit__P_V66 rfl rfl rfl hd_f_X7_emit__P ⟨Nat.le_of_ble_eq_true rfl, Nat.le_of_ble_eq_true rfl⟩) ⟨nb_blindF, recvP ((L.2.2.1 102)) hK hP, (kx_pre hK hG hE hT hA hP hD hS)⟩ rfl rfl hl.1 rfl (lv_room (Nat.le_of_ble_eq_true rfl)) dX5_keepTarget_156 ⟨Nat.le_trans (Nat.add_le_add_left hle3.1 _) (Nat.le_of_eq hc), Nat.le_trans (Nat.add_le_add_left hle3.2 _) (Nat.le_of_eq hs)⟩) hK hA hzk hP hD hS (by decide) hno hlocks ?_
        rcases h9 with ⟨h00, y3, hny3, hy⟩ | ⟨h00, hy⟩
        · subst hy
          have h := hny3
          refine Or.inl ⟨h00, fun z H locs hz3 hzk hP hD hS => ?_⟩
          replace hc := (Nat.add_assoc _ _ _).trans hc
          replace hs := (Nat.add_assoc _ _ _).trans hs
          refine lv_pop hx hb dX5_keepTarget_159 rfl ?_
          refine lv_aload_n hx hb dX5_keepTarget_160 rfl (lv_at hl 0 rfl) ?_
          obtain ⟨b4, hb4, h⟩ := oP_ex h
          refine hgq_40_2 hx hb hts in_f_X5_keepTarget_X5 hown hK hP (hts _ (List.mem_cons_of_mem _ (List.mem_append_left _ (List.mem_append_left _ (List.mem_of_getElem? (i := 0) rfl))))) hb4 dX5_keepTarget_161 ?_
          refine lv_iload_n hx hb dX5_keepTarget_164 rfl (lv_at hl 2 rfl) ?_
          refine lv_iconst (v := 1) hx hb dX5_keepTarget_165 (by decide) ?_
          refine lv_iadd hx hb dX5_keepTarget_166 ?_
          obtain ⟨r5, hc5, hle5, h9⟩ := ox_ex h
          clear h
          refine kx_i (r := y3) (vx_runV (As := [.int (((L.1 3)) + 1)]) (rest := []) ⟨hx, hb, hml, hown, hts⟩ (c_f_X7_word__P l hl0 dC dI cy ek a k (lI (lB lZ 0 b4) 1 ((((L.1 3)) + 1))) r3.2.1 r5 hc5 z H.size) (cwV 1 hts g_f_X5_keepTarget_X7_word__P_V243 rfl rfl rfl hd_f_X7_word__P ⟨Nat.le_of_ble_eq_true rfl, Nat.le_of_ble_eq_true rfl⟩) ⟨nb_blindF, recvP b4 hK hP, (kx_pre hK hG hE hT hA hP hD hS)⟩ rfl rfl hl.1 rfl (lv_room (Nat.le_of_ble_eq_true rfl)) dX5_keepTarget_167 ⟨Nat.le_trans (Nat.add_le_add_left hle5.1 _) (Nat.le_of_eq hc), Nat.le_trans (Nat.add_le_add_left hle5.2 _) (Nat.le_of_eq hs)⟩) hK hA hzk hP hD hS (by decide) hno hlocks ?_
          rcases h9 with ⟨h00, y5, hny5, hy⟩ | ⟨h00, hy⟩
          · subst hy
            have h := hny5
            refine Or.inl ⟨h00, fun z H locs hz5 hzk hP hD hS => ?_⟩
            replace hc := (Nat.add_assoc _ _ _).trans hc
            replace hs := (Nat.add_assoc _ _ _).trans hs
            refine lv_pop hx hb dX5_keepTarget_170 rfl ?_
            refine lv_aload_n hx hb dX5_keepTarget_171 rfl (lv_at hl 0 rfl) ?_
            obtain ⟨b6, hb6, h⟩ := oP_ex h
            refine hgq_40_2 hx hb hts in_f_X5_keepTarget_X5 hown hK hP (hts _ (List.mem_cons_of_mem _ (List.mem_append_left _ (List.mem_append_left _ (List.mem_of_getElem? (i := 0) rfl))))) hb6 dX5_keepTarget_172 ?_
            refine lv_aload_n hx hb dX5_keepTarget_175 rfl (lv_at hl 0 rfl) ?_
            refine hg_40_19 hx hb hts in_f_X5_keepTarget_X5 hown hK hP (hts _ (List.mem_cons_of_mem _ (List.mem_append_left _ (List.mem_append_left _ (List.mem_of_getElem? (i := 1) rfl))))) dX5_keepTarget_176 ?_
            obtain ⟨r7, hc7, hle7, h9⟩ := ox_ex h
            clear h
            refine kx_i (r := y5) (vx_runV (As := [.int (r5.2.1.1 4019)]) (rest := []) ⟨hx, hb, hml, hown, hts⟩ (c_f_X7_word__P l hl0 dC dI cy ek a k (lI (lB lZ 0 b6) 1 ((r5.2.1.1 4019))) r5.2.1 r7 hc7 z H.size) (cwV 1 hts g_f_X5_keepTarget_X7_word__P_V243 rfl rfl rfl hd_f_X7_word__P ⟨Nat.le_of_ble_eq_true rfl, Nat.le_of_ble_eq_true rfl⟩) ⟨nb_blindF, recvP b6 hK hP, (kx_pre hK hG hE hT hA hP hD hS)⟩ rfl rfl hl.1 rfl (lv_room (Nat.le_of_ble_eq_true rfl)) dX5_keepTarget_179 ⟨Nat.le_trans (Nat.add_le_add_left hle7.1 _) (Nat.le_of_eq hc), Nat.le_trans (Nat.add_le_add_left hle7.2 _) (Nat.le_of_eq hs)⟩) hK hA hzk hP hD hS (by decide) hno hlocks ?_
            rcases h9 with ⟨h00, y7, hny7, hy⟩ | ⟨h00, hy⟩
            · subst hy
              have h := hny7
              refine Or.inl ⟨h00, fun z H locs hz7 hzk hP hD hS => ?_⟩
              replace hc := (Nat.add_assoc _ _ _).trans hc
              replace hs := (Nat.add_assoc _ _ _).trans hs
              refine lv_pop hx hb dX5_keepTarget_182 rfl ?_
              refine lv_iconst (v := 0) hx hb dX5_keepTarget_183 (by decide) ?_
              refine lv_istore (lv' := [(4, .int 0), (0, .ref (a 40)), (2, .int (L.1 2)), (3, .int (L.1 3))]) hx hb dX5_keepTarget_184 hl (by decide) rfl (fun ls hl => ?_)
              exact ih.2.2.2.2.2.2.2.1 z _ _ (lI L 4 0) r7.2.1 _ h hzk hc hs H locs ls hP hD hS (lv_sub hl [1, 2, 3, 0] rfl)
            · subst hy
              exact Or.inr ⟨h00, rfl, hc, hs⟩
          · subst hy
            exact Or.inr ⟨h00, rfl, hc, hs⟩
        · subst hy
          exact Or.inr ⟨h00, rfl, hc, hs⟩
      · intro z cells slots L σ r h hzk hc hs H locs ls hP hD hS hl
        rw [f_X5_keepTarget] at h
        refine lv_iload hx hb dX5_keepTarget_186 (lv_at hl 3 rfl) ?_
        refine lv_aload_n hx hb dX5_keepTarget_188 rfl (lv_at hl 0 rfl) ?_
        refine hg_40_19 hx hb hts in_f_X5_keepTarget_X5 hown hK hP (hts _ (List.mem_cons_of_mem _ (List.mem_append_left _ (List.mem_append_left _ (List.mem_of_getElem? (i := 1) rfl))))) dX5_keepTarget_189 ?_
        refine lv_icmp_ge (tgt := 225) hx hb dX5_keepTarget_192 (by decide) (fun c1 => ?_) (fun c1 => ?_)
        · rw [if_pos c1] at h
          exact ih.2.2.2.2.2.2.2.2 z _ _ L σ _ h hzk hc hs H locs ls hP hD hS (lv_sub hl [0, 1, 2] rfl)
        · rw [if_neg c1] at h
          refine lv_aload_n hx hb dX5_keepTarget_195 rfl (lv_at hl 0 rfl) ?_
          obtain ⟨b2, hb2, h⟩ := oP_ex h
          refine hgq_40_2 hx hb hts in_f_X5_keepTarget_X5 hown hK hP (hts _ (List.mem_cons_of_mem _ (List.mem_append_left _ (List.mem_append_left _ (List.mem_of_getElem? (i := 0) rfl))))) hb2 dX5_keepTarget_196 ?_
          refine lv_aload_n hx hb dX5_keepTarget_199 rfl (lv_at hl 0 rfl) ?_
          refine hg_40_10 hx hb hts in_f_X5_keepTarget_X5 hown hK hP (hts _ (List.mem_cons_of_mem _ (List.mem_append_left _ (List.mem_append_left _ (List.mem_of_getElem? (i := 3) rfl))))) dX5_keepTarget_200 ?_
          refine lv_aload_n hx hb dX5_keepTarget_203 rfl (lv_at hl 0 rfl) ?_
          refine hg_40_18 hx hb hts in_f_X5_keepTarget_X5 hown hK hP (hts _ (List.mem_cons_of_mem _ (List.mem_append_left _ (List.mem_append_left _ (List.mem_of_getElem? (i := 2) rfl))))) dX5_keepTarget_204 ?_
          refine lv_iconst (v := 3) hx hb dX5_keepTarget_207 (by decide) ?_
          refine lv_iload hx hb dX5_keepTarget_208 (lv_at hl 3 rfl) ?_
          refine lv_imul hx hb dX5_keepTarget_210 ?_
          refine lv_iadd hx hb dX5_keepTarget_211 ?_
          refine lv_iconst (v := 2) hx hb dX5_keepTarget_212 (by decide) ?_
          refine lv_iadd hx hb dX5_keepTarget_213 ?_
          obtain ⟨q3, h⟩ := kr_ite1 h
          refine hl_41 hx hb hK hP q3 dX5_keepTarget_214 ?_
          obtain ⟨r4, hc4, hle4, h9⟩ := ox_ex h
          clear h
          refine kx_i (vx_runV (As := [.int (σ.2.2.1 41 ((((((σ.1 4018)) + ((3 * ((L.1 4)))))) + 2)).toNatClampNeg)]) (rest := []) ⟨hx, hb, hml, hown, hts⟩ (c_f_X7_word__P l hl0 dC dI cy ek a k (lI (lB lZ 0 b2) 1 ((σ.2.2.1 41 ((((((σ.1 4018)) + ((3 * ((L.1 4)))))) + 2)).toNatClampNeg))) σ r4 hc4 z H.size) (cwV 1 hts g_f_X5_keepTarget_X7_word__P_V243 rfl rfl rfl hd_f_X7_word__P ⟨Nat.le_of_ble_eq_true rfl, Nat.le_of_ble_eq_true rfl⟩) ⟨nb_blindF, recvP b2 hK hP, (kx_pre hK hG hE hT hA hP hD hS)⟩ rfl rfl hl.1 rfl (lv_room (Nat.le_of_ble_eq_true rfl)) dX5_keepTarget_215 ⟨Nat.le_trans (Nat.add_le_add_left hle4.1 _) (Nat.le_of_eq hc), Nat.le_trans (Nat.add_le_add_left hle4.2 _) (Nat.le_of_eq hs)⟩) hK hA hzk hP hD hS (by decide) hno hlocks ?_
          rcases h9 with ⟨h00, y4, hny4, hy⟩ | ⟨h00, hy⟩
          · subst hy
            have h := hny4
            refine Or.inl ⟨h00, fun z H locs hz4 hzk hP hD hS => ?_⟩
            replace hc := (Nat.add_assoc _ _ _).trans hc
            replace hs := (Nat.add_assoc _ _ _).trans hs
            refine lv_pop hx hb dX5_keepTarget_218 rfl ?_
            refine lv_iinc (v := ((L.1 4)) + 1) (lv' := [(4, .int (((L.1 4)) + 1)), (0, .ref (a 40)), (2, .int (L.1 2)), (3, .int (L.1 3))]) hx hb dX5_keepTarget_219 hl (k := 3) rfl rfl (by decide) rfl (fun ls hl => ?_)
            refine lv_goto (tgt := 186) hx hb dX5_keepTarget_222 (by decide) ?_
            exact ih.2.2.2.2.2.2.2.1 z _ _ (lI L 4 ((((L.1 4)) + 1))) r4.2.1 _ h hzk hc hs H locs ls hP hD hS (lv_sub hl [1, 2, 3, 0] rfl)
          · subst hy
            exact Or.inr ⟨h00, rfl, hc, hs⟩
      · intro z cells slots L σ r h hzk hc hs H locs ls hP hD hS hl
        rw [f_X5_keepTarget] at h
        refine lv_aload_n hx hb dX5_keepTarget_225 rfl (lv_at hl 0 rfl) ?_
        obtain ⟨b1, hb1, h⟩ := oP_ex h
        refine hgq_40_2 hx hb hts in_f_X5_keepTarget_X5 hown hK hP (hts _ (List.mem_cons_of_mem _ (List.mem_append_left _ (List.mem_append_left _ (List.mem_of_getElem? (i := 0) rfl))))) hb1 dX5_keepTarget_226 ?_
        refine lv_bipush (v := 37) hx hb dX5_keepTarget_229 (by decide) ?_
        refine lv_iload_n hx hb dX5_keepTarget_231 rfl (lv_at hl 2 rfl) ?_
        refine lv_iconst (v := 1) hx hb dX5_keepTarget_232 (by decide) ?_
        refine lv_iadd hx hb dX5_keepTarget_233 ?_
        obtain ⟨r2, hc2, hle2, h9⟩ := ox_ex h
        clear h
        refine kx_i (vx_runV (As := [.int 37, .int (((L.1 3)) + 1)]) (rest := []) ⟨hx, hb, hml, hown, hts⟩ (c_f_X7_emit__P l hl0 dC dI cy ek a k (lI (lI (lB lZ 0 b1) 1 37) 2 ((((L.1 3)) + 1))) σ r2 hc2 z H.size) (cwV 2 hts g_f_X5_keepTarget_X7_emit__P_V66 rfl rfl rfl hd_f_X7_emit__P ⟨Nat.le_of_ble_eq_true rfl, Nat.le_of_ble_eq_true rfl⟩) ⟨nb_blindF, recvP b1 hK hP, (kx_pre hK hG hE hT hA hP hD hS)⟩ rfl rfl hl.1 rfl (lv_room (Nat.le_of_ble_eq_true rfl)) dX5_keepTarget_234 ⟨Nat.le_trans (Nat.add_le_add_left hle2.1 _) (Nat.le_of_eq hc), Nat.le_trans (Nat.add_le_add_left hle2.2 _) (Nat.le_of_eq hs)⟩) hK hA hzk hP hD hS (by decide) hno hlocks ?_
        rcases h9 with ⟨h00, y2, hny2, hy⟩ | ⟨h00, hy⟩
        · subst hy
          have h := hny2
          refine Or.inl ⟨h00, fun z H locs hz2 hzk hP hD hS => ?_⟩
          replace hc := (Nat.add_assoc _ _ _).trans hc
          replace hs := (Nat.add_assoc _ _ _).trans hs
          refine lv_pop hx hb dX5_keepTarget_237 rfl ?_
          refine lv_aload_n hx hb dX5_keepTarget_238 rfl (lv_at hl 0 rfl) ?_
          refine lv_aload_n hx hb dX5_keepTarget_239 rfl (lv_at hl 0 rfl) ?_
          obtain ⟨b3, hb3, h⟩ := oP_ex h
          refine hgq_40_2 hx hb hts in_f_X5_keepTarget_X5 hown hK hP (hts _ (List.mem_cons_of_mem _ (List.mem_append_left _ (List.mem_append_left _ (List.mem_of_getElem? (i := 0) rfl))))) hb3 dX5_keepTarget_240 ?_
          refine hg_P_0n b3 hx hb hts in_f_X5_keepTarget_X7 hown hK hP (va_Nw.use rfl (hG.1 _ (List.mem_of_getElem? (i := 67) rfl))) dX5_keepTarget_243 ?_
          refine lv_iload_n hx hb dX5_keepTarget_246 rfl (lv_at hl 1 rfl) ?_
          refine lv_aload_n hx hb dX5_keepTarget_247 rfl (lv_at hl 0 rfl) ?_
          obtain ⟨b4, hb4, h⟩ := oP_ex h
          refine hgq_40_2 hx hb hts in_f_X5_keepTarget_X5 hown hK hP (hts _ (List.mem_cons_of_mem _ (List.mem_append_left _ (List.mem_append_left _ (List.mem_of_getElem? (i := 0) rfl))))) hb4 dX5_keepTarget_248 ?_
          refine hg_P_1n b4 hx hb hts in_f_X5_keepTarget_X7 hown hK hP (va_Nw.use rfl (hG.1 _ (List.mem_of_getElem? (i := 68) rfl))) dX5_keepTarget_251 ?_
          refine lv_iload_n hx hb dX5_keepTarget_254 rfl (lv_at hl 1 rfl) ?_
          refine lv_isub hx hb dX5_keepTarget_255 ?_
          obtain ⟨r5, hc5, hle5, h9⟩ := ox_ex h
          clear h
          refine kx_v (r := y2) (vx_runV (As := [.ref (z (pR0 (sKd r2.2.1 b3))), .int (L.1 2), .int (((r2.2.1.1 (fP b4 1))) - ((L.1 2)))]) (rest := []) ⟨hx, hb, hml, hown, hts⟩ (c_f_X5_keep__A0 l hl0 dC dI cy ek a k (lI (lI (lB lZ 1 ((sKd r2.2.1 b3))) 2 ((L.1 2))) 3 ((((r2.2.1.1 (fP b4 1))) - ((L.1 2))))) r2.2.1 r5 hc5 z H.size) (cwV 3 hts g_f_X5_keepTarget_X5_keep__A0_V335 rfl rfl rfl hd_f_X5_keep__A0 ⟨Nat.le_of_ble_eq_true rfl, Nat.le_of_ble_eq_true rfl⟩) ⟨nb_blindF, va_recv hK hP (ci := 4) (q0 := 40) rfl rfl, (kx_pre hK hG hE hT hA hP hD hS)⟩ rfl rfl hl.1 rfl (lv_room (Nat.le_of_ble_eq_true rfl)) dX5_keepTarget_256 ⟨Nat.le_trans (Nat.add_le_add_left hle5.1 _) (Nat.le_of_eq hc), Nat.le_trans (Nat.add_le_add_left hle5.2 _) (Nat.le_of_eq hs)⟩) hK hA hzk hP hD hS (by decide) hno hlocks ?_
          rcases h9 with ⟨h00, y5, hny5, hy⟩ | ⟨h00, hy⟩
          · subst hy
            have h := hny5
            refine Or.inl ⟨h00, fun z H locs hz5 hzk hP hD hS => ?_⟩
            replace hc := (Nat.add_assoc _ _ _).trans hc
            replace hs := (Nat.add_assoc _ _ _).trans hs
            refine lv_aload_n hx hb dX5_keepTarget_259 rfl (lv_at hl 0 rfl) ?_
            obtain ⟨b6, hb6, h⟩ := oP_ex h
            refine hgq_40_2 hx hb hts in_f_X5_keepTarget_X5 hown hK hP (hts _ (List.mem_cons_of_mem _ (List.mem_append_left _ (List.mem_append_left _ (List.mem_of_getElem? (i := 0) rfl))))) hb6 dX5_keepTarget_260 ?_
            refine lv_iload_n hx hb dX5_keepTarget_263 rfl (lv_at hl 1 rfl) ?_
            refine hp_P_1n b6 hx hb hts in_f_X5_keepTarget_X7 hown hK hP hD hS (va_Nw.use rfl (hG.1 _ (List.mem_of_getElem? (i := 68) rfl))) dX5_keepTarget_264 (fun H locs hP hD hS => ?_)
            obtain rfl := Option.some.inj h
            subst hc
            subst hs
            exact xr_v hx hb hr hK hzk hP hD hS hlocks dX5_keepTarget_267
          · subst hy
            exact Or.inr ⟨h00, rfl, hc, hs⟩
        · subst hy
          exact Or.inr ⟨h00, rfl, hc, hs⟩
  exact (blk k0).1 z 0 0 L0 σ0 r0 h0 (zk_rf _ _) ((Nat.zero_add _).trans hmc) ((Nat.zero_add _).trans hms) s.heap [] ls hP hD hS hl
/-! X7_words__P__z42 -/
def f_X7_words__P__z42 : Nat → Nat → LV → CS → Option RS
  | 0, _, _, _ => none
  | k + 1, 0, L, σ => ox (f_X7_widen__P k 0 (lI (lB lZ 0 ((L.2.2.1 0))) 1 ((L.1 3))) σ) (fun r1 => if ¬ ((L.1 2)) < 0 ∧ ¬ ((r1.2.1.1 (fP ((L.2.2.1 0)) 1))) < 0 ∧ ¬ ((L.1 3)) < 0 ∧ ((L.1 2)).toNatClampNeg + ((L.1 3)).toNatClampNeg ≤ (sN r1.2.1 42) ∧ ((r1.2.1.1 (fP ((L.2.2.1 0)) 1))).toNatClampNeg + ((L.1 3)).toNatClampNeg ≤ (sN r1.2.1 (pR0 ((sKd r1.2.1 ((L.2.2.1 0)))))) then (f_X7_words__P__z42 k 1 L (uF r1.2.1 (pR0 ((sKd r1.2.1 ((L.2.2.1 0))))) (va_cpy (r1.2.1.2.2.1 42) (r1.2.1.2.2.1 (pR0 ((sKd r1.2.1 ((L.2.2.1 0)))))) ((L.1 2)).toNatClampNeg ((r1.2.1.1 (fP ((L.2.2.1 0)) 1))).toNatClampNeg ((L.1 3)).toNatClampNeg))) else none)
  | k + 1, 1, L, σ => some ((0, 0), (uI σ (fP ((L.2.2.1 0)) 1) ((((σ.1 (fP ((L.2.2.1 0)) 1))) + ((L.1 3))))), (0, 0))
  | _ + 1, _ + 2, _, _ => none
def o_f_X7_words__P__z42 : List Cond := [.methodLink RX7 85 yX7_widen, .instanceMethod yX7_widen, .selects RX7 yX7_widen yX7_widen, .initialized RX7, .fieldLink RX7 9 "SetHouse$Program" "code" "[I", .fieldLink RX7 53 "SetHouse$Program" "size" "I", .methodLink RX7 76 arraycopyName, .native arraycopyName, .static arraycopyName, .initialized "java/lang/System"]
theorem o_f_X7_words__P__z42_good : o_f_X7_words__P__z42.all goodWord = true := by decide +kernel
def p_f_X7_words__P__z42 : List Cond := o_f_X7_words__P__z42 ++ ((.code yX7_widen cX7_widen 2 none :: p_f_X7_widen__P) ++ [])
theorem p_f_X7_words__P__z42_good : p_f_X7_words__P__z42.all goodWord = true := nb_all2 o_f_X7_words__P__z42_good (nb_all2 (nb_allc (by decide +kernel) p_f_X7_widen__P_good) rfl)
def w_f_X7_words__P__z42 : List Cond := .code yX7_words cX7_words 4 none :: (p_f_X7_words__P__z42 ++ fC)
theorem w_f_X7_words__P__z42_good : w_f_X7_words__P__z42.all goodWord = true := nb_allc (by decide +kernel) (nb_all2 p_f_X7_words__P__z42_good fC_good)
theorem in_f_X7_words__P__z42_X7 : ∀ w ∈ wsX70, w ∈ w_f_X7_words__P__z42 := fun _ h => List.mem_cons_of_mem _ (List.mem_append_right _ (List.mem_append_right _ (List.mem_append_right _ (List.mem_append_right _ (List.mem_append_right _ (List.mem_append_right _ (List.mem_append_right _ (List.mem_append_left _ h))))))))
theorem hd_f_X7_words__P__z42 : yX7_words.cls = RX7 ∧ yX7_words.cls ≠ "java/lang/invoke/MethodHandle" ∧ yX7_words.cls ≠ "java/lang/invoke/VarHandle" ∧ (parseMethodDescriptor yX7_words.desc).map (fun d => d.parameters.length) = some 3 := by decide +kernel
theorem gg_f_X7_words__P__z42_X7_widen__P : GoodIn w_f_X7_words__P__z42 w_f_X7_widen__P := goodIn_sub (fun w h => (List.mem_cons.mp h).elim (fun e => (List.mem_cons_of_mem _ (List.mem_append_left _ (List.mem_append_right _ (List.mem_append_left _ (List.mem_cons.mpr (Or.inl e))))))) (fun h => (List.mem_append.mp h).elim (fun h => (List.mem_cons_of_mem _ (List.mem_append_left _ (List.mem_append_right _ (List.mem_append_left _ (List.mem_cons_of_mem _ h)))))) (fun h => List.mem_cons_of_mem _ (List.mem_append_right _ h)))) w_f_X7_widen__P_good
theorem g_f_X7_words__P__z42_X7_widen__P_V85 : GoodIn w_f_X7_words__P__z42 (wsV RX7 85 RX7 yX7_widen w_f_X7_widen__P) := goodIn_app (nb_g4 (List.mem_cons_of_mem _ (List.mem_append_left _ (List.mem_append_left _ (List.mem_of_getElem? (i := 0) rfl)))) (List.mem_cons_of_mem _ (List.mem_append_left _ (List.mem_append_left _ (List.mem_of_getElem? (i := 1) rfl)))) (List.mem_cons_of_mem _ (List.mem_append_left _ (List.mem_append_left _ (List.mem_of_getElem? (i := 2) rfl)))) (List.mem_cons_of_mem _ (List.mem_append_left _ (List.mem_append_left _ (List.mem_of_getElem? (i := 3) rfl)))) (by decide +kernel)) gg_f_X7_words__P__z42_X7_widen__P
set_option maxHeartbeats 40000000 in
set_option maxRecDepth 100000 in
theorem c_f_X7_words__P__z42 (l : Launch) (hl0 : l.stackTraces = false) (dC : Nat → ClassId) (dI : Nat → Nat → Nat) (cy : Nat → ClassId) (ek a : Nat → Nat) (k0 : Nat) (L0 : LV) (σ0 : CS) (r0 : RS) (h0 : f_X7_words__P__z42 k0 0 L0 σ0 = some r0) (z : Nat → Nat) (sz : Nat) : vx_Met l yX7_words w_f_X7_words__P__z42 ({ frames := 7, cells := r0.2.2.1, slots := r0.2.2.2, locals := 121 }) (va_Pc [.ref (a (pA (L0.2.2.1 0))), .ref (z 42), .int (L0.1 2), .int (L0.1 3)] (nInF (dC, dI) cy ek sz (vC cy a z σ0))) (xV dC dI cy a (va_A (vC cy a z σ0) sz) [43, 51] z r0) (xX dC dI cy a (va_A (vC cy a z σ0) sz) [43, 51] z r0) r0.2.2.1 r0.2.2.2 (va_A (vC cy a z σ0) sz) := by
  refine vx_ofW (cc := cX7_words) (maxL := 4) (ret := none) (by decide) rfl ?_
  intro p e s m args below meth c s₁ B hml hno hv
  obtain ⟨rfl, ⟨⟨hsz, hP, hK, hD0, hG⟩, hE⟩, hT⟩ := hv
  have hx := B.exec
  have hb := B.bytes
  have hr := B.returns
  have hts := atoms_spec (ws := w_f_X7_words__P__z42) B.pre
  have hown : s.vm.findClass RX7 = some m.cls := findClass_of_methodNamed B.named
  have hlocks := B.notSynchronized
  subst hsz
  have hD := hD0.self (sz := s.heap.size)
  generalize hAe : va_A (vC cy a z σ0) s.heap.size = A at hD hE hT ⊢
  have hA : ∀ q : Nat, s.heap.size ≤ q → A q := fun q h => by rw [← hAe]; exact Or.inr h
  have hS : va_S A s.heap s.heap [] := va_S.rf
  have hl := lv_entry ([.ref (a (pA (L0.2.2.1 0))), .ref (z 42), .int (L0.1 2), .int (L0.1 3)]) (n := 4) (Nat.le_of_ble_eq_true rfl)
  rw [lg_entry_eq]
  generalize (lg_sl ([.ref (a (pA (L0.2.2.1 0))), .ref (z 42), .int (L0.1 2), .int (L0.1 3)]) ++ List.replicate (4 - (lg_sl ([.ref (a (pA (L0.2.2.1 0))), .ref (z 42), .int (L0.1 2), .int (L0.1 3)])).length) Slot.unset).toArray = ls at hl ⊢
  have hl : lv_has ls 4 [(0, .ref (a (pA (L0.2.2.1 0)))), (1, .ref (z 42)), (2, .int (L0.1 2)), (3, .int (L0.1 3))] := hl
  generalize hmc : r0.2.2.1 = mc
  generalize hms : r0.2.2.2 = ms
  have blk : ∀ k : Nat, (bX p l e (headSpec w_f_X7_words__P__z42 ({ frames := 7, cells := mc, slots := ms, locals := 121 })).room s m #[.ref (a (pA (L0.2.2.1 0))), .ref (z 42), .int (L0.1 2), .int (L0.1 3)] below meth c dC dI cy a A (fun r => vx_MQ below (xV dC dI cy a A [43, 51] z r) (xX dC dI cy a A [43, 51] z r) #[.ref (a (pA (L0.2.2.1 0))), .ref (z 42), .int (L0.1 2), .int (L0.1 3)] s mc ms A) [43, 51] z mc ms 4 (f_X7_words__P__z42 k 0) (fun z L => [(0, .ref (a (pA (L.2.2.1 0)))), (1, .ref (z 42)), (2, .int (L.1 2)), (3, .int (L.1 3))]) 0 (fun z L => [])) ∧ (bX p l e (headSpec w_f_X7_words__P__z42 ({ frames := 7, cells := mc, slots := ms, locals := 121 })).room s m #[.ref (a (pA (L0.2.2.1 0))), .ref (z 42), .int (L0.1 2), .int (L0.1 3)] below meth c dC dI cy a A (fun r => vx_MQ below (xV dC dI cy a A [43, 51] z r) (xX dC dI cy a A [43, 51] z r) #[.ref (a (pA (L0.2.2.1 0))), .ref (z 42), .int (L0.1 2), .int (L0.1 3)] s mc ms A) [43, 51] z mc ms 4 (f_X7_words__P__z42 k 1) (fun z L => [(0, .ref (a (pA (L.2.2.1 0)))), (3, .int (L.1 3))]) 19 (fun z L => [])) := by
    intro k
    induction k with
    | zero => exact ⟨fun z c1 c2 L σ r h => (by cases h), fun z c1 c2 L σ r h => (by cases h)⟩
    | succ k ih =>
      refine ⟨?_, ?_⟩
      · intro z cells slots L σ r h hzk hc hs H locs ls hP hD hS hl
        rw [f_X7_words__P__z42] at h
        refine lv_aload_n hx hb dX7_words_0 rfl (lv_at hl 0 rfl) ?_
        refine lv_iload_n hx hb dX7_words_1 rfl (lv_at hl 3 rfl) ?_
        obtain ⟨r1, hc1, hle1, h9⟩ := ox_ex h
        clear h
        refine kx_v (vx_runV (As := [.int (L.1 3)]) (rest := []) ⟨hx, hb, hml, hown, hts⟩ (c_f_X7_widen__P l hl0 dC dI cy ek a k (lI (lB lZ 0 ((L.2.2.1 0))) 1 ((L.1 3))) σ r1 hc1 z H.size) (cwV 1 hts g_f_X7_words__P__z42_X7_widen__P_V85 rfl rfl rfl hd_f_X7_widen__P ⟨Nat.le_of_ble_eq_true rfl, Nat.le_of_ble_eq_true rfl⟩) ⟨nb_blindF, recvP ((L.2.2.1 0)) hK hP, (kx_pre hK hG hE hT hA hP hD hS)⟩ rfl rfl hl.1 rfl (lv_room (Nat.le_of_ble_eq_true rfl)) dX7_words_2 ⟨Nat.le_trans (Nat.add_le_add_left hle1.1 _) (Nat.le_of_eq hc), Nat.le_trans (Nat.add_le_add_left hle1.2 _) (Nat.le_of_eq hs)⟩) hK hA hzk hP hD hS (by decide) hno hlocks ?_
        rcases h9 with ⟨h00, y1, hny1, hy⟩ | ⟨h00, hy⟩
        · subst hy
          have h := hny1
          refine Or.inl ⟨h00, fun z H locs hz1 hzk hP hD hS => ?_⟩
          try dsimp only at hl
          rw [← hz1 42 (by decide)] at hl
          replace hc := (Nat.add_assoc _ _ _).trans hc
          replace hs := (Nat.add_assoc _ _ _).trans hs
          refine lv_aload_n hx hb dX7_words_5 rfl (lv_at hl 1 rfl) ?_
          refine lv_iload_n hx hb dX7_words_6 rfl (lv_at hl 2 rfl) ?_
          refine lv_aload_n hx hb dX7_words_7 rfl (lv_at hl 0 rfl) ?_
          refine hg_P_0 ((L.2.2.1 0)) hx hb hts in_f_X7_words__P__z42_X7 hown hK hP (hts _ (List.mem_cons_of_mem _ (List.mem_append_left _ (List.mem_append_left _ (List.mem_of_getElem? (i := 4) rfl))))) dX7_words_8 ?_
          refine lv_aload_n hx hb dX7_words_11 rfl (lv_at hl 0 rfl) ?_
          refine hg_P_1 ((L.2.2.1 0)) hx hb hts in_f_X7_words__P__z42_X7 hown hK hP (hts _ (List.mem_cons_of_mem _ (List.mem_append_left _ (List.mem_append_left _ (List.mem_of_getElem? (i := 5) rfl))))) dX7_words_12 ?_
          refine lv_iload_n hx hb dX7_words_15 rfl (lv_at hl 3 rfl) ?_
          obtain ⟨q2, h⟩ := kr_ite1 h
          refine hcp_42_P0 ((sKd r1.2.1 ((L.2.2.1 0)))) hx hb (hml.trans hl.1.symm) hown (hts _ (List.mem_cons_of_mem _ (List.mem_append_left _ (List.mem_append_left _ (List.mem_of_getElem? (i := 6) rfl))))) (hts _ (List.mem_cons_of_mem _ (List.mem_append_left _ (List.mem_append_left _ (List.mem_of_getElem? (i := 7) rfl))))) (hts _ (List.mem_cons_of_mem _ (List.mem_append_left _ (List.mem_append_left _ (List.mem_of_getElem? (i := 8) rfl))))) (hts _ (List.mem_cons_of_mem _ (List.mem_append_left _ (List.mem_append_left _ (List.mem_of_getElem? (i := 9) rfl))))) hK hP hD hS q2 (Nat.le_of_ble_eq_true rfl) (Nat.le_of_ble_eq_true rfl) dX7_words_16 (fun H locs hP hD hS => ?_)
          exact ih.2 z _ _ L (uF r1.2.1 (pR0 ((sKd r1.2.1 ((L.2.2.1 0))))) (va_cpy (r1.2.1.2.2.1 42) (r1.2.1.2.2.1 (pR0 ((sKd r1.2.1 ((L.2.2.1 0)))))) ((L.1 2)).toNatClampNeg ((r1.2.1.1 (fP ((L.2.2.1 0)) 1))).toNatClampNeg ((L.1 3)).toNatClampNeg)) _ h hzk hc hs H locs ls hP hD hS (lv_sub hl [0, 3] rfl)
        · subst hy
          exact Or.inr ⟨h00, rfl, hc, hs⟩
      · intro z cells slots L σ r h hzk hc hs H locs ls hP hD hS hl
        rw [f_X7_words__P__z42] at h
        refine lv_aload_n hx hb dX7_words_19 rfl (lv_at hl 0 rfl) ?_
        refine lv_aload_n hx hb dX7_words_20 rfl (lv_at hl 0 rfl) ?_
        refine hg_P_1 ((L.2.2.1 0)) hx hb hts in_f_X7_words__P__z42_X7 hown hK hP (hts _ (List.mem_cons_of_mem _ (List.mem_append_left _ (List.mem_append_left _ (List.mem_of_getElem? (i := 5) rfl))))) dX7_words_21 ?_
        refine lv_iload_n hx hb dX7_words_24 rfl (lv_at hl 1 rfl) ?_
        refine lv_iadd hx hb dX7_words_25 ?_
        refine hp_P_1 ((L.2.2.1 0)) hx hb hts in_f_X7_words__P__z42_X7 hown hK hP hD hS (hts _ (List.mem_cons_of_mem _ (List.mem_append_left _ (List.mem_append_left _ (List.mem_of_getElem? (i := 5) rfl))))) dX7_words_26 (fun H locs hP hD hS => ?_)
        obtain rfl := Option.some.inj h
        subst hc
        subst hs
        exact xr_v hx hb hr hK hzk hP hD hS hlocks dX7_words_29
  exact (blk k0).1 z 0 0 L0 σ0 r0 h0 (zk_rf _ _) ((Nat.zero_add _).trans hmc) ((Nat.zero_add _).trans hms) s.heap [] ls hP hD hS hl
/-! X5_call -/
def f_X5_call : Nat → Nat → LV → CS → Option RS
  | 0, _, _, _ => none
  | k + 1, 0, L, σ => oP (sPp σ) (fun b1 => if ¬ (((L.1 1)) < 0 ∨ 42 ≤ ((L.1 1)).toNatClampNeg) then (oP (sPp σ) (fun b3 => ox (f_X7_emit__P k 0 (lI (lI (lB lZ 0 b3) 1 16) 2 0) σ) (fun r4 => ox (f_X5_opens k 0 lZ r4.2.1) (fun r5 => if ((r5.2.1.1 3702)) = 11 then (f_X5_call k 1 (lI (lI L 3 ((σ.2.2.1 (pR14 b1) ((L.1 1)).toNatClampNeg))) 4 0) r5.2.1) else (f_X5_call k 2 (lI (lI (lI L 3 ((σ.2.2.1 (pR14 b1) ((L.1 1)).toNatClampNeg))) 4 0) 100 1) r5.2.1))))) else none)
  | k + 1, 1, L, σ => f_X5_call k 2 (lI L 100 0) σ
  | k + 1, 2, L, σ => f_X5_call k 3 (lI (lI L 5 ((L.1 100))) 6 0) σ
  | k + 1, 3, L, σ => if 32768 < ((L.1 6)) then (f_X5_call k 4 L σ) else (if ((L.1 5)) = 0 then (f_X5_call k 4 L σ) else (oP (sPp σ) (fun b3 => ox (f_X5_exp k 0 (lI lZ 1 0) σ) (fun r4 => if ((L.1 3)) ≤ ((L.1 4)) then (f_X5_call k 5 (lI (lI L 7 ((σ.1 3703))) 8 ((σ.1 (fP b3 1)))) r4.2.1) else (oP (sPp r4.2.1) (fun b6 => op (y_X7_mode__P k 0 (lI (lI (lB lZ 0 b6) 1 ((L.1 1))) 2 ((L.1 4))) r4.2.1) (fun r7 => f_X5_call k 6 (lI (lI (lI L 7 ((σ.1 3703))) 8 ((σ.1 (fP b3 1)))) 100 r7.1) r7.2)))))))
  | k + 1, 4, L, σ => ox (f_X5_want k 0 (lI lZ 1 11) σ) (fun r1 => if ((L.1 4)) = ((L.1 3)) then (f_X5_call k 7 L r1.2.1) else (ox (f_X5_refuse k 0 (lI (lI lZ 1 6) 2 ((r1.2.1.1 3703))) r1.2.1) (fun r3 => f_X5_call k 7 L r3.2.1)))
  | k + 1, 5, L, σ => f_X5_call k 6 (lI L 100 0) σ
  | k + 1, 6, L, σ => if ((L.1 100)) = 0 then (f_X5_call k 8 (lI L 9 ((L.1 100))) σ) else (if ((σ.1 4016)) = ((L.1 7)) then (oP (sPp σ) (fun b3 => if ((σ.1 4017)) = ((σ.1 (fP b3 1))) then (f_X5_call k 10 (lI L 9 ((L.1 100))) σ) else (f_X5_call k 9 (lI L 9 ((L.1 100))) σ))) else (f_X5_call k 9 (lI L 9 ((L.1 100))) σ))
  | k + 1, 7, L, σ => ox (f_X5_closes k 0 (lI lZ 1 11) σ) (fun r1 => oP (sPp r1.2.1) (fun b2 => ox (f_X7_emit__P k 0 (lI (lI (lB lZ 0 b2) 1 19) 2 ((L.1 1))) r1.2.1) (fun r3 => oP (sPp r3.2.1) (fun b4 => ox (f_X7_words__P__z42 k 0 (lI (lI (lB lZ 0 b4) 2 ((L.1 2))) 3 ((((r3.2.1.1 4013)) - ((L.1 2))))) r3.2.1) (fun r5 => oP (sPp r5.2.1) (fun b6 => ox (f_X7_words__P__z42 k 0 (lI (lI (lB lZ 0 b6) 2 0) 3 ((L.1 2))) r5.2.1) (fun r7 => some ((0, 0), r7.2.1, (0, 0)))))))))
  | k + 1, 8, L, σ => if ((L.1 9)) = 1 then (oP (sPp σ) (fun b2 => ox (f_X5_push k 0 (lI lZ 1 ((-2147483648))) (uI σ (fP b2 1) ((L.1 8)))) (fun r3 => f_X5_call k 11 L r3.2.1))) else (f_X5_call k 11 L σ)
  | k + 1, 9, L, σ => ox (f_X5_refuse k 0 (lI (lI lZ 1 6) 2 ((L.1 7))) σ) (fun r1 => f_X5_call k 10 L r1.2.1)
  | k + 1, 10, L, σ => ox (f_X5_keepTarget k 0 (lI lZ 1 ((((((L.1 3)) - 1)) - ((L.1 4))))) σ) (fun r1 => f_X5_call k 8 L r1.2.1)
  | k + 1, 11, L, σ => if ((σ.1 3702)) = 16 then (f_X5_call k 13 (lI (lI L 4 ((((L.1 4)) + 1))) 100 1) σ) else (f_X5_call k 12 (lI L 4 ((((L.1 4)) + 1))) σ)
  | k + 1, 12, L, σ => f_X5_call k 13 (lI L 100 0) σ
  | k + 1, 13, L, σ => if ((L.1 100)) = 0 then (f_X5_call k 14 (lI L 5 ((L.1 100))) σ) else (ox (f_X2_advance k 0 lZ σ) (fun r2 => f_X5_call k 14 (lI L 5 ((L.1 100))) r2.2.1))
  | k + 1, 14, L, σ => f_X5_call k 3 (lI L 6 ((((L.1 6)) + 1))) σ
  | _ + 1, _ + 15, _, _ => none
def o_f_X5_call : List Cond := [.fieldLink RX5 93 "SetHouse$Parser" "p" "LSetHouse$Program;", .methodLink RX5 66 yX7_emit, .instanceMethod yX7_emit, .selects RX7 yX7_emit yX7_emit, .initialized RX7, .methodLink RX5 173 yX5_opens, .instanceMethod yX5_opens, .selects RX5 yX5_opens yX5_opens, .initialized RX5, .fieldLink RX5 18 "SetHouse$Parser" "lex" "LSetHouse$Lexer;", .constant RX5 35 (32768), .methodLink RX5 90 yX5_exp, .instanceMethod yX5_exp, .selects RX5 yX5_exp yX5_exp, .methodLink RX5 338 yX7_mode, .instanceMethod yX7_mode, .selects RX7 yX7_mode yX7_mode, .methodLink RX5 61 yX5_want, .instanceMethod yX5_want, .selects RX5 yX5_want yX5_want, .methodLink RX5 125 yX5_refuse, .instanceMethod yX5_refuse, .selects RX5 yX5_refuse yX5_refuse, .fieldLink RX5 118 "SetHouse$Parser" "targetPlace" "I", .fieldLink RX5 341 "SetHouse$Parser" "targetEnd" "I", .methodLink RX5 186 yX5_closes, .instanceMethod yX5_closes, .selects RX5 yX5_closes yX5_closes, .fieldLink RX5 15 "SetHouse$Parser" "later" "[I", .fieldLink RX5 115 "SetHouse$Parser" "kept" "I", .methodLink RX5 312 yX7_words, .instanceMethod yX7_words, .selects RX7 yX7_words yX7_words, .constant RX5 198 (-2147483648), .methodLink RX5 199 yX5_push, .instanceMethod yX5_push, .selects RX5 yX5_push yX5_push, .methodLink RX5 344 yX5_keepTarget, .instanceMethod yX5_keepTarget, .selects RX5 yX5_keepTarget yX5_keepTarget, .methodLink RX5 30 yX2_advance, .instanceMethod yX2_advance, .selects RX2 yX2_advance yX2_advance, .initialized RX2]
theorem o_f_X5_call_good : o_f_X5_call.all goodWord = true := by decide +kernel
def p_f_X5_call : List Cond := o_f_X5_call ++ ((.code yX7_emit cX7_emit 3 (some .int) :: p_f_X7_emit__P) ++ ((.code yX5_opens cX5_opens 1 none :: p_f_X5_opens) ++ ((.code yX5_exp cX5_exp 8 none :: p_f_F2) ++ ((.code yX7_mode cX7_mode 3 (some .int) :: p_y_X7_mode__P) ++ ((.code yX5_want cX5_want 2 none :: p_f_X5_want) ++ ((.code yX5_refuse cX5_refuse 3 none :: p_f_X5_refuse) ++ ((.code yX5_closes cX5_closes 2 none :: p_f_X5_closes) ++ ((.code yX7_words cX7_words 4 none :: p_f_X7_words__P__z42) ++ ((.code yX5_push cX5_push 2 none :: p_f_X5_push) ++ ((.code yX5_keepTarget cX5_keepTarget 6 none :: p_f_X5_keepTarget) ++ ((.code yX2_advance cX2_advance 7 none :: p_f_X2_advance) ++ [])))))))))))
theorem p_f_X5_call_good : p_f_X5_call.all goodWord = true := nb_all2 o_f_X5_call_good (nb_all2 (nb_allc (by decide +kernel) p_f_X7_emit__P_good) (nb_all2 (nb_allc (by decide +kernel) p_f_X5_opens_good) (nb_all2 (nb_allc (by decide +kernel) p_f_F2_good) (nb_all2 (nb_allc (by decide +kernel) p_y_X7_mode__P_good) (nb_all2 (nb_allc (by decide +kernel) p_f_X5_want_good) (nb_all2 (nb_allc (by decide +kernel) p_f_X5_refuse_good) (nb_all2 (nb_allc (by decide +kernel) p_f_X5_closes_good) (nb_all2 (nb_allc (by decide +kernel) p_f_X7_words__P__z42_good) (nb_all2 (nb_allc (by decide +kernel) p_f_X5_push_good) (nb_all2 (nb_allc (by decide +kernel) p_f_X5_keepTarget_good) (nb_all2 (nb_allc (by decide +kernel) p_f_X2_advance_good) rfl)))))))))))
def w_f_X5_call : List Cond := .code yX5_call cX5_call 10 none :: (p_f_X5_call ++ fC)
theorem w_f_X5_call_good : w_f_X5_call.all goodWord = true := nb_allc (by decide +kernel) (nb_all2 p_f_X5_call_good fC_good)
theorem in_f_X5_call_X2 : ∀ w ∈ wsX20, w ∈ w_f_X5_call := fun _ h => List.mem_cons_of_mem _ (List.mem_append_right _ (List.mem_append_right _ (List.mem_append_right _ (List.mem_append_left _ h))))
theorem in_f_X5_call_X5 : ∀ w ∈ wsX50, w ∈ w_f_X5_call := fun _ h => List.mem_cons_of_mem _ (List.mem_append_right _ (List.mem_append_right _ (List.mem_append_right _ (List.mem_append_right _ (List.mem_append_right _ (List.mem_append_left _ h))))))
theorem in_f_X5_call_X7 : ∀ w ∈ wsX70, w ∈ w_f_X5_call := fun _ h => List.mem_cons_of_mem _ (List.mem_append_right _ (List.mem_append_right _ (List.mem_append_right _ (List.mem_append_right _ (List.mem_append_right _ (List.mem_append_right _ (List.mem_append_right _ (List.mem_append_left _ h))))))))
theorem hd_f_X5_call : yX5_call.cls = RX5 ∧ yX5_call.cls ≠ "java/lang/invoke/MethodHandle" ∧ yX5_call.cls ≠ "java/lang/invoke/VarHandle" ∧ (parseMethodDescriptor yX5_call.desc).map (fun d => d.parameters.length) = some 2 := by decide +kernel
theorem gg_f_X5_call_X2_advance : GoodIn w_f_X5_call w_f_X2_advance := goodIn_sub (fun w h => (List.mem_cons.mp h).elim (fun e => (List.mem_cons_of_mem _ (List.mem_append_left _ (List.mem_append_right _ (List.mem_append_right _ (List.mem_append_right _ (List.mem_append_right _ (List.mem_append_right _ (List.mem_append_right _ (List.mem_append_right _ (List.mem_append_right _ (List.mem_append_right _ (List.mem_append_right _ (List.mem_append_right _ (List.mem_append_left _ (List.mem_cons.mpr (Or.inl e))))))))))))))))) (fun h => (List.mem_append.mp h).elim (fun h => (List.mem_cons_of_mem _ (List.mem_append_left _ (List.mem_append_right _ (List.mem_append_right _ (List.mem_append_right _ (List.mem_append_right _ (List.mem_append_right _ (List.mem_append_right _ (List.mem_append_right _ (List.mem_append_right _ (List.mem_append_right _ (List.mem_append_right _ (List.mem_append_right _ (List.mem_append_left _ (List.mem_cons_of_mem _ h)))))))))))))))) (fun h => List.mem_cons_of_mem _ (List.mem_append_right _ h)))) w_f_X2_advance_good
theorem g_f_X5_call_X2_advance_V30 : GoodIn w_f_X5_call (wsV RX5 30 RX2 yX2_advance w_f_X2_advance) := goodIn_app (nb_g4 (List.mem_cons_of_mem _ (List.mem_append_left _ (List.mem_append_left _ (List.mem_of_getElem? (i := 40) rfl)))) (List.mem_cons_of_mem _ (List.mem_append_left _ (List.mem_append_left _ (List.mem_of_getElem? (i := 41) rfl)))) (List.mem_cons_of_mem _ (List.mem_append_left _ (List.mem_append_left _ (List.mem_of_getElem? (i := 42) rfl)))) (List.mem_cons_of_mem _ (List.mem_append_left _ (List.mem_append_left _ (List.mem_of_getElem? (i := 43) rfl)))) (by decide +kernel)) gg_f_X5_call_X2_advance
theorem gg_f_X5_call_X5_closes : GoodIn w_f_X5_call w_f_X5_closes := goodIn_sub (fun w h => (List.mem_cons.mp h).elim (fun e => (List.mem_cons_of_mem _ (List.mem_append_left _ (List.mem_append_right _ (List.mem_append_right _ (List.mem_append_right _ (List.mem_append_right _ (List.mem_append_right _ (List.mem_append_right _ (List.mem_append_right _ (List.mem_append_left _ (List.mem_cons.mpr (Or.inl e))))))))))))) (fun h => (List.mem_append.mp h).elim (fun h => (List.mem_cons_of_mem _ (List.mem_append_left _ (List.mem_append_right _ (List.mem_append_right _ (List.mem_append_right _ (List.mem_append_right _ (List.mem_append_right _ (List.mem_append_right _ (List.mem_append_right _ (List.mem_append_left _ (List.mem_cons_of_mem _ h)))))))))))) (fun h => List.mem_cons_of_mem _ (List.mem_append_right _ h)))) w_f_X5_closes_good
theorem g_f_X5_call_X5_closes_V186 : GoodIn w_f_X5_call (wsV RX5 186 RX5 yX5_closes w_f_X5_closes) := goodIn_app (nb_g4 (List.mem_cons_of_mem _ (List.mem_append_left _ (List.mem_append_left _ (List.mem_of_getElem? (i := 25) rfl)))) (List.mem_cons_of_mem _ (List.mem_append_left _ (List.mem_append_left _ (List.mem_of_getElem? (i := 26) rfl)))) (List.mem_cons_of_mem _ (List.mem_append_left _ (List.mem_append_left _ (List.mem_of_getElem? (i := 27) rfl)))) (List.mem_cons_of_mem _ (List.mem_append_left _ (List.mem_append_left _ (List.mem_of_getElem? (i := 8) rfl)))) (by decide +kernel)) gg_f_X5_call_X5_closes
theorem gg_f_X5_call_X5_exp : GoodIn w_f_X5_call w_f_X5_exp := goodIn_sub (fun w h => (List.mem_cons.mp h).elim (fun e => (List.mem_cons_of_mem _ (List.mem_append_left _ (List.mem_append_right _ (List.mem_append_right _ (List.mem_append_right _ (List.mem_append_left _ (List.mem_cons.mpr (Or.inl e))))))))) (fun h => (List.mem_append.mp h).elim (fun h => (List.mem_cons_of_mem _ (List.mem_append_left _ (List.mem_append_right _ (List.mem_append_right _ (List.mem_append_right _ (List.mem_append_left _ (List.mem_cons_of_mem _ h)))))))) (fun h => List.mem_cons_of_mem _ (List.mem_append_right _ h)))) w_f_X5_exp_good
theorem g_f_X5_call_X5_exp_V90 : GoodIn w_f_X5_call (wsV RX5 90 RX5 yX5_exp w_f_X5_exp) := goodIn_app (nb_g4 (List.mem_cons_of_mem _ (List.mem_append_left _ (List.mem_append_left _ (List.mem_of_getElem? (i := 11) rfl)))) (List.mem_cons_of_mem _ (List.mem_append_left _ (List.mem_append_left _ (List.mem_of_getElem? (i := 12) rfl)))) (List.mem_cons_of_mem _ (List.mem_append_left _ (List.mem_append_left _ (List.mem_of_getElem? (i := 13) rfl)))) (List.mem_cons_of_mem _ (List.mem_append_left _ (List.mem_append_left _ (List.mem_of_getElem? (i := 8) rfl)))) (by decide +kernel)) gg_f_X5_call_X5_exp
theorem gg_f_X5_call_X5_keepTarget : GoodIn w_f_X5_call w_f_X5_keepTarget := goodIn_sub (fun w h => (List.mem_cons.mp h).elim (fun e => (List.mem_cons_of_mem _ (List.mem_append_left _ (List.mem_append_right _ (List.mem_append_right _ (List.mem_append_right _ (List.mem_append_right _ (List.mem_append_right _ (List.mem_append_right _ (List.mem_append_right _ (List.mem_append_right _ (List.mem_append_right _ (List.mem_append_right _ (List.mem_append_left _ (List.mem_cons.mpr (Or.inl e)))))))))))))))) (fun h => (List.mem_append.mp h).elim (fun h => (List.mem_cons_of_mem _ (List.mem_append_left _ (List.mem_append_right _ (List.mem_append_right _ (List.mem_append_right _ (List.mem_append_right _ (List.mem_append_right _ (List.mem_append_right _ (List.mem_append_right _ (List.mem_append_right _ (List.mem_append_right _ (List.mem_append_right _ (List.mem_append_left _ (List.mem_cons_of_mem _ h))))))))))))))) (fun h => List.mem_cons_of_mem _ (List.mem_append_right _ h)))) w_f_X5_keepTarget_good
theorem g_f_X5_call_X5_keepTarget_V344 : GoodIn w_f_X5_call (wsV RX5 344 RX5 yX5_keepTarget w_f_X5_keepTarget) := goodIn_app (nb_g4 (List.mem_cons_of_mem _ (List.mem_append_left _ (List.mem_append_left _ (List.mem_of_getElem? (i := 37) rfl)))) (List.mem_cons_of_mem _ (List.mem_append_left _ (List.mem_append_left _ (List.mem_of_getElem? (i := 38) rfl)))) (List.mem_cons_of_mem _ (List.mem_append_left _ (List.mem_append_left _ (List.mem_of_getElem? (i := 39) rfl)))) (List.mem_cons_of_mem _ (List.mem_append_left _ (List.mem_append_left _ (List.mem_of_getElem? (i := 8) rfl)))) (by decide +kernel)) gg_f_X5_call_X5_keepTarget
theorem gg_f_X5_call_X5_opens : GoodIn w_f_X5_call w_f_X5_opens := goodIn_sub (fun w h => (List.mem_cons.mp h).elim (fun e => (List.mem_cons_of_mem _ (List.mem_append_left _ (List.mem_append_right _ (List.mem_append_right _ (List.mem_append_left _ (List.mem_cons.mpr (Or.inl e)))))))) (fun h => (List.mem_append.mp h).elim (fun h => (List.mem_cons_of_mem _ (List.mem_append_left _ (List.mem_append_right _ (List.mem_append_right _ (List.mem_append_left _ (List.mem_cons_of_mem _ h))))))) (fun h => List.mem_cons_of_mem _ (List.mem_append_right _ h)))) w_f_X5_opens_good
theorem g_f_X5_call_X5_opens_V173 : GoodIn w_f_X5_call (wsV RX5 173 RX5 yX5_opens w_f_X5_opens) := goodIn_app (nb_g4 (List.mem_cons_of_mem _ (List.mem_append_left _ (List.mem_append_left _ (List.mem_of_getElem? (i := 5) rfl)))) (List.mem_cons_of_mem _ (List.mem_append_left _ (List.mem_append_left _ (List.mem_of_getElem? (i := 6) rfl)))) (List.mem_cons_of_mem _ (List.mem_append_left _ (List.mem_append_left _ (List.mem_of_getElem? (i := 7) rfl)))) (List.mem_cons_of_mem _ (List.mem_append_left _ (List.mem_append_left _ (List.mem_of_getElem? (i := 8) rfl)))) (by decide +kernel)) gg_f_X5_call_X5_opens
theorem gg_f_X5_call_X5_push : GoodIn w_f_X5_call w_f_X5_push := goodIn_sub (fun w h => (List.mem_cons.mp h).elim (fun e => (List.mem_cons_of_mem _ (List.mem_append_left _ (List.mem_append_right _ (List.mem_append_right _ (List.mem_append_right _ (List.mem_append_right _ (List.mem_append_right _ (List.mem_append_right _ (List.mem_append_right _ (List.mem_append_right _ (List.mem_append_right _ (List.mem_append_left _ (List.mem_cons.mpr (Or.inl e))))))))))))))) (fun h => (List.mem_append.mp h).elim (fun h => (List.mem_cons_of_mem _ (List.mem_append_left _ (List.mem_append_right _ (List.mem_append_right _ (List.mem_append_right _ (List.mem_append_right _ (List.mem_append_right _ (List.mem_append_right _ (List.mem_append_right _ (List.mem_append_right _ (List.mem_append_right _ (List.mem_append_left _ (List.mem_cons_of_mem _ h)))))))))))))) (fun h => List.mem_cons_of_mem _ (List.mem_append_right _ h)))) w_f_X5_push_good
theorem g_f_X5_call_X5_push_V199 : GoodIn w_f_X5_call (wsV RX5 199 RX5 yX5_push w_f_X5_push) := goodIn_app (nb_g4 (List.mem_cons_of_mem _ (List.mem_append_left _ (List.mem_append_left _ (List.mem_of_getElem? (i := 34) rfl)))) (List.mem_cons_of_mem _ (List.mem_append_left _ (List.mem_append_left _ (List.mem_of_getElem? (i := 35) rfl)))) (List.mem_cons_of_mem _ (List.mem_append_left _ (List.mem_append_left _ (List.mem_of_getElem? (i := 36) rfl)))) (List.mem_cons_of_mem _ (List.mem_append_left _ (List.mem_append_left _ (List.mem_of_getElem? (i := 8) rfl)))) (by decide +kernel)) gg_f_X5_call_X5_push
theorem gg_f_X5_call_X5_refuse : GoodIn w_f_X5_call w_f_X5_refuse := goodIn_sub (fun w h => (List.mem_cons.mp h).elim (fun e => (List.mem_cons_of_mem _ (List.mem_append_left _ (List.mem_append_right _ (List.mem_append_right _ (List.mem_append_right _ (List.mem_append_right _ (List.mem_append_right _ (List.mem_append_right _ (List.mem_append_left _ (List.mem_cons.mpr (Or.inl e)))))))))))) (fun h => (List.mem_append.mp h).elim (fun h => (List.mem_cons_of_mem _ (List.mem_append_left _ (List.mem_append_right _ (List.mem_append_right _ (List.mem_append_right _ (List.mem_append_right _ (List.mem_append_right _ (List.mem_append_right _ (List.mem_append_left _ (List.mem_cons_of_mem _ h))))))))))) (fun h => List.mem_cons_of_mem _ (List.mem_append_right _ h)))) w_f_X5_refuse_good
theorem g_f_X5_call_X5_refuse_V125 : GoodIn w_f_X5_call (wsV RX5 125 RX5 yX5_refuse w_f_X5_refuse) := goodIn_app (nb_g4 (List.mem_cons_of_mem _ (List.mem_append_left _ (List.mem_append_left _ (List.mem_of_getElem? (i := 20) rfl)))) (List.mem_cons_of_mem _ (List.mem_append_left _ (List.mem_append_left _ (List.mem_of_getElem? (i := 21) rfl)))) (List.mem_cons_of_mem _ (List.mem_append_left _ (List.mem_append_left _ (List.mem_of_getElem? (i := 22) rfl)))) (List.mem_cons_of_mem _ (List.mem_append_left _ (List.mem_append_left _ (List.mem_of_getElem? (i := 8) rfl)))) (by decide +kernel)) gg_f_X5_call_X5_refuse
theorem gg_f_X5_call_X5_want : GoodIn w_f_X5_call w_f_X5_want := goodIn_sub (fun w h => (List.mem_cons.mp h).elim (fun e => (List.mem_cons_of_mem _ (List.mem_append_left _ (List.mem_append_right _ (List.mem_append_right _ (List.mem_append_right _ (List.mem_append_right _ (List.mem_append_right _ (List.mem_append_left _ (List.mem_cons.mpr (Or.inl e))))))))))) (fun h => (List.mem_append.mp h).elim (fun h => (List.mem_cons_of_mem _ (List.mem_append_left _ (List.mem_append_right _ (List.mem_append_right _ (List.mem_append_right _ (List.mem_append_right _ (List.mem_append_right _ (List.mem_append_left _ (List.mem_cons_of_mem _ h)))))))))) (fun h => List.mem_cons_of_mem _ (List.mem_append_right _ h)))) w_f_X5_want_good
theorem g_f_X5_call_X5_want_V61 : GoodIn w_f_X5_call (wsV RX5 61 RX5 yX5_want w_f_X5_want) := goodIn_app (nb_g4 (List.mem_cons_of_mem _ (List.mem_append_left _ (List.mem_append_left _ (List.mem_of_getElem? (i := 17) rfl)))) (List.mem_cons_of_mem _ (List.mem_append_left _ (List.mem_append_left _ (List.mem_of_getElem? (i := 18) rfl)))) (List.mem_cons_of_mem _ (List.mem_append_left _ (List.mem_append_left _ (List.mem_of_getElem? (i := 19) rfl)))) (List.mem_cons_of_mem _ (List.mem_append_left _ (List.mem_append_left _ (List.mem_of_getElem? (i := 8) rfl)))) (by decide +kernel)) gg_f_X5_call_X5_want
theorem gg_f_X5_call_X7_emit__P : GoodIn w_f_X5_call w_f_X7_emit__P := goodIn_sub (fun w h => (List.mem_cons.mp h).elim (fun e => (List.mem_cons_of_mem _ (List.mem_append_left _ (List.mem_append_right _ (List.mem_append_left _ (List.mem_cons.mpr (Or.inl e))))))) (fun h => (List.mem_append.mp h).elim (fun h => (List.mem_cons_of_mem _ (List.mem_append_left _ (List.mem_append_right _ (List.mem_append_left _ (List.mem_cons_of_mem _ h)))))) (fun h => List.mem_cons_of_mem _ (List.mem_append_right _ h)))) w_f_X7_emit__P_good
theorem g_f_X5_call_X7_emit__P_V66 : GoodIn w_f_X5_call (wsV RX5 66 RX7 yX7_emit w_f_X7_emit__P) := goodIn_app (nb_g4 (List.mem_cons_of_mem _ (List.mem_append_left _ (List.mem_append_left _ (List.mem_of_getElem? (i := 1) rfl)))) (List.mem_cons_of_mem _ (List.mem_append_left _ (List.mem_append_left _ (List.mem_of_getElem? (i := 2) rfl)))) (List.mem_cons_of_mem _ (List.mem_append_left _ (List.mem_append_left _ (List.mem_of_getElem? (i := 3) rfl)))) (List.mem_cons_of_mem _ (List.mem_append_left _ (List.mem_append_left _ (List.mem_of_getElem? (i := 4) rfl)))) (by decide +kernel)) gg_f_X5_call_X7_emit__P
theorem gg_f_X5_call_X7_words__P__z42 : GoodIn w_f_X5_call w_f_X7_words__P__z42 := goodIn_sub (fun w h => (List.mem_cons.mp h).elim (fun e => (List.mem_cons_of_mem _ (List.mem_append_left _ (List.mem_append_right _ (List.mem_append_right _ (List.mem_append_right _ (List.mem_append_right _ (List.mem_append_right _ (List.mem_append_right _ (List.mem_append_right _ (List.mem_append_right _ (List.mem_append_left _ (List.mem_cons.mpr (Or.inl e)))))))))))))) (fun h => (List.mem_append.mp h).elim (fun h => (List.mem_cons_of_mem _ (List.mem_append_left _ (List.mem_append_right _ (List.mem_append_right _ (List.mem_append_right _ (List.mem_append_right _ (List.mem_append_right _ (List.mem_append_right _ (List.mem_append_right _ (List.mem_append_right _ (List.mem_append_left _ (List.mem_cons_of_mem _ h))))))))))))) (fun h => List.mem_cons_of_mem _ (List.mem_append_right _ h)))) w_f_X7_words__P__z42_good
theorem g_f_X5_call_X7_words__P__z42_V312 : GoodIn w_f_X5_call (wsV RX5 312 RX7 yX7_words w_f_X7_words__P__z42) := goodIn_app (nb_g4 (List.mem_cons_of_mem _ (List.mem_append_left _ (List.mem_append_left _ (List.mem_of_getElem? (i := 30) rfl)))) (List.mem_cons_of_mem _ (List.mem_append_left _ (List.mem_append_left _ (List.mem_of_getElem? (i := 31) rfl)))) (List.mem_cons_of_mem _ (List.mem_append_left _ (List.mem_append_left _ (List.mem_of_getElem? (i := 32) rfl)))) (List.mem_cons_of_mem _ (List.mem_append_left _ (List.mem_append_left _ (List.mem_of_getElem? (i := 4) rfl)))) (by decide +kernel)) gg_f_X5_call_X7_words__P__z42
theorem gg_f_X5_call_X7_mode__P : GoodIn w_f_X5_call w_y_X7_mode__P := goodIn_sub (fun w h => (List.mem_cons.mp h).elim (fun e => (List.mem_cons_of_mem _ (List.mem_append_left _ (List.mem_append_right _ (List.mem_append_right _ (List.mem_append_right _ (List.mem_append_right _ (List.mem_append_left _ (List.mem_cons.mpr (Or.inl e)))))))))) (fun h => (List.mem_append.mp h).elim (fun h => (List.mem_cons_of_mem _ (List.mem_append_left _ (List.mem_append_right _ (List.mem_append_right _ (List.mem_append_right _ (List.mem_append_right _ (List.mem_append_left _ (List.mem_cons_of_mem _ h))))))))) (fun h => List.mem_cons_of_mem _ (List.mem_append_right _ h)))) w_y_X7_mode__P_good
theorem g_y_X5_call_X7_mode__P_V338 : GoodIn w_f_X5_call (wsV RX5 338 RX7 yX7_mode w_y_X7_mode__P) := goodIn_app (nb_g4 (List.mem_cons_of_mem _ (List.mem_append_left _ (List.mem_append_left _ (List.mem_of_getElem? (i := 14) rfl)))) (List.mem_cons_of_mem _ (List.mem_append_left _ (List.mem_append_left _ (List.mem_of_getElem? (i := 15) rfl)))) (List.mem_cons_of_mem _ (List.mem_append_left _ (List.mem_append_left _ (List.mem_of_getElem? (i := 16) rfl)))) (List.mem_cons_of_mem _ (List.mem_append_left _ (List.mem_append_left _ (List.mem_of_getElem? (i := 4) rfl)))) (by decide +kernel)) gg_f_X5_call_X7_mode__P
set_option maxHeartbeats 40000000 in
set_option maxRecDepth 100000 in
theorem c_f_X5_call (l : Launch) (hl0 : l.stackTraces = false) (dC : Nat → ClassId) (dI : Nat → Nat → Nat) (cy : Nat → ClassId) (ek a : Nat → Nat) (k0 : Nat) (L0 : LV) (σ0 : CS) (r0 : RS) (h0 : f_X5_call k0 0 L0 σ0 = some r0) (z : Nat → Nat) (sz : Nat) : vx_Met l yX5_call w_f_X5_call ({ frames := 410, cells := r0.2.2.1, slots := r0.2.2.2, locals := 13400 }) (va_Pc [.ref (a 40), .int (L0.1 1), .int (L0.1 2)] (nInF (dC, dI) cy ek sz (vC cy a z σ0))) (xV dC dI cy a (va_A (vC cy a z σ0) sz) [41, 42, 43, 51] z r0) (xX dC dI cy a (va_A (vC cy a z σ0) sz) [41, 42, 43, 51] z r0) r0.2.2.1 r0.2.2.2 (va_A (vC cy a z σ0) sz) := by
  refine vx_ofW (cc := cX5_call) (maxL := 10) (ret := none) (by decide) rfl ?_
  intro p e s m args below meth c s₁ B hml hno hv
  obtain ⟨rfl, ⟨⟨hsz, hP, hK, hD0, hG⟩, hE⟩, hT⟩ := hv
  have hx := B.exec
  have hb := B.bytes
  have hr := B.returns
  have hts := atoms_spec (ws := w_f_X5_call) B.pre
  have hown : s.vm.findClass RX5 = some m.cls := findClass_of_methodNamed B.named
  have hlocks := B.notSynchronized
  subst hsz
  have hD := hD0.self (sz := s.heap.size)
  generalize hAe : va_A (vC cy a z σ0) s.heap.size = A at hD hE hT ⊢
  have hA : ∀ q : Nat, s.heap.size ≤ q → A q := fun q h => by rw [← hAe]; exact Or.inr h
  have hS : va_S A s.heap s.heap [] := va_S.rf
  have hl := lv_entry ([.ref (a 40), .int (L0.1 1), .int (L0.1 2)]) (n := 10) (Nat.le_of_ble_eq_true rfl)
  rw [lg_entry_eq]
  generalize (lg_sl ([.ref (a 40), .int (L0.1 1), .int (L0.1 2)]) ++ List.replicate (10 - (lg_sl ([.ref (a 40), .int (L0.1 1), .int (L0.1 2)])).length) Slot.unset).toArray = ls at hl ⊢
  have hl : lv_has ls 10 [(0, .ref (a 40)), (1, .int (L0.1 1)), (2, .int (L0.1 2))] := hl
  generalize hmc : r0.2.2.1 = mc
  generalize hms : r0.2.2.2 = ms
  have blk : ∀ k : Nat, (bX p l e (headSpec w_f_X5_call ({ frames := 410, cells := mc, slots := ms, locals := 13400 })).room s m #[.ref (a 40), .int (L0.1 1), .int (L0.1 2)] below meth c dC dI cy a A (fun r => vx_MQ below (xV dC dI cy a A [41, 42, 43, 51] z r) (xX dC dI cy a A [41, 42, 43, 51] z r) #[.ref (a 40), .int (L0.1 1), .int (L0.1 2)] s mc ms A) [41, 42, 43, 51] z mc ms 10 (f_X5_call k 0) (fun z L => [(0, .ref (a 40)), (1, .int (L.1 1)), (2, .int (L.1 2))]) 0 (fun z L => [])) ∧ (bX p l e (headSpec w_f_X5_call ({ frames := 410, cells := mc, slots := ms, locals := 13400 })).room s m #[.ref (a 40), .int (L0.1 1), .int (L0.1 2)] below meth c dC dI cy a A (fun r => vx_MQ below (xV dC dI cy a A [41, 42, 43, 51] z r) (xX dC dI cy a A [41, 42, 43, 51] z r) #[.ref (a 40), .int (L0.1 1), .int (L0.1 2)] s mc ms A) [41, 42, 43, 51] z mc ms 10 (f_X5_call k 1) (fun z L => [(0, .ref (a 40)), (1, .int (L.1 1)), (2, .int (L.1 2)), (3, .int (L.1 3)), (4, .int (L.1 4))]) 44 (fun z L => [])) ∧ (bX p l e (headSpec w_f_X5_call ({ frames := 410, cells := mc, slots := ms, locals := 13400 })).room s m #[.ref (a 40), .int (L0.1 1), .int (L0.1 2)] below meth c dC dI cy a A (fun r => vx_MQ below (xV dC dI cy a A [41, 42, 43, 51] z r) (xX dC dI cy a A [41, 42, 43, 51] z r) #[.ref (a 40), .int (L0.1 1), .int (L0.1 2)] s mc ms A) [41, 42, 43, 51] z mc ms 10 (f_X5_call k 2) (fun z L => [(0, .ref (a 40)), (1, .int (L.1 1)), (2, .int (L.1 2)), (3, .int (L.1 3)), (4, .int (L.1 4))]) 45 (fun z L => [.int (L.1 100)])) ∧ (bX p l e (headSpec w_f_X5_call ({ frames := 410, cells := mc, slots := ms, locals := 13400 })).room s m #[.ref (a 40), .int (L0.1 1), .int (L0.1 2)] below meth c dC dI cy a A (fun r => vx_MQ below (xV dC dI cy a A [41, 42, 43, 51] z r) (xX dC dI cy a A [41, 42, 43, 51] z r) #[.ref (a 40), .int (L0.1 1), .int (L0.1 2)] s mc ms A) [41, 42, 43, 51] z mc ms 10 (f_X5_call k 3) (fun z L => [(0, .ref (a 40)), (1, .int (L.1 1)), (2, .int (L.1 2)), (3, .int (L.1 3)), (4, .int (L.1 4)), (5, .int (L.1 5)), (6, .int (L.1 6))]) 50 (fun z L => [])) ∧ (bX p l e (headSpec w_f_X5_call ({ frames := 410, cells := mc, slots := ms, locals := 13400 })).room s m #[.ref (a 40), .int (L0.1 1), .int (L0.1 2)] below meth c dC dI cy a A (fun r => vx_MQ below (xV dC dI cy a A [41, 42, 43, 51] z r) (xX dC dI cy a A [41, 42, 43, 51] z r) #[.ref (a 40), .int (L0.1 1), .int (L0.1 2)] s mc ms A) [41, 42, 43, 51] z mc ms 10 (f_X5_call k 4) (fun z L => [(0, .ref (a 40)), (1, .int (L.1 1)), (2, .int (L.1 2)), (3, .int (L.1 3)), (4, .int (L.1 4))]) 214 (fun z L => [])) ∧ (bX p l e (headSpec w_f_X5_call ({ frames := 410, cells := mc, slots := ms, locals := 13400 })).room s m #[.ref (a 40), .int (L0.1 1), .int (L0.1 2)] below meth c dC dI cy a A (fun r => vx_MQ below (xV dC dI cy a A [41, 42, 43, 51] z r) (xX dC dI cy a A [41, 42, 43, 51] z r) #[.ref (a 40), .int (L0.1 1), .int (L0.1 2)] s mc ms A) [41, 42, 43, 51] z mc ms 10 (f_X5_call k 5) (fun z L => [(0, .ref (a 40)), (1, .int (L.1 1)), (2, .int (L.1 2)), (3, .int (L.1 3)), (4, .int (L.1 4)), (6, .int (L.1 6)), (7, .int (L.1 7)), (8, .int (L.1 8))]) 104 (fun z L => [])) ∧ (bX p l e (headSpec w_f_X5_call ({ frames := 410, cells := mc, slots := ms, locals := 13400 })).room s m #[.ref (a 40), .int (L0.1 1), .int (L0.1 2)] below meth c dC dI cy a A (fun r => vx_MQ below (xV dC dI cy a A [41, 42, 43, 51] z r) (xX dC dI cy a A [41, 42, 43, 51] z r) #[.ref (a 40), .int (L0.1 1), .int (L0.1 2)] s mc ms A) [41, 42, 43, 51] z mc ms 10 (f_X5_call k 6) (fun z L => [(0, .ref (a 40)), (1, .int (L.1 1)), (2, .int (L.1 2)), (3, .int (L.1 3)), (4, .int (L.1 4)), (6, .int (L.1 6)), (7, .int (L.1 7)), (8, .int (L.1 8))]) 105 (fun z L => [.int (L.1 100)])) ∧ (bX p l e (headSpec w_f_X5_call ({ frames := 410, cells := mc, slots := ms, locals := 13400 })).room s m #[.ref (a 40), .int (L0.1 1), .int (L0.1 2)] below meth c dC dI cy a A (fun r => vx_MQ below (xV dC dI cy a A [41, 42, 43, 51] z r) (xX dC dI cy a A [41, 42, 43, 51] z r) #[.ref (a 40), .int (L0.1 1), .int (L0.1 2)] s mc ms A) [41, 42, 43, 51] z mc ms 10 (f_X5_call k 7) (fun z L => [(0, .ref (a 40)), (1, .int (L.1 1)), (2, .int (L.1 2))]) 239 (fun z L => [])) ∧ (bX p l e (headSpec w_f_X5_call ({ frames := 410, cells := mc, slots := ms, locals := 13400 })).room s m #[.ref (a 40), .int (L0.1 1), .int (L0.1 2)] below meth c dC dI cy a A (fun r => vx_MQ below (xV dC dI cy a A [41, 42, 43, 51] z r) (xX dC dI cy a A [41, 42, 43, 51] z r) #[.ref (a 40), .int (L0.1 1), .int (L0.1 2)] s mc ms A) [41, 42, 43, 51] z mc ms 10 (f_X5_call k 8) (fun z L => [(0, .ref (a 40)), (1, .int (L.1 1)), (2, .int (L.1 2)), (3, .int (L.1 3)), (4, .int (L.1 4)), (6, .int (L.1 6)), (8, .int (L.1 8)), (9, .int (L.1 9))]) 153 (fun z L => [])) ∧ (bX p l e (headSpec w_f_X5_call ({ frames := 410, cells := mc, slots := ms, locals := 13400 })).room s m #[.ref (a 40), .int (L0.1 1), .int (L0.1 2)] below meth c dC dI cy a A (fun r => vx_MQ below (xV dC dI cy a A [41, 42, 43, 51] z r) (xX dC dI cy a A [41, 42, 43, 51] z r) #[.ref (a 40), .int (L0.1 1), .int (L0.1 2)] s mc ms A) [41, 42, 43, 51] z mc ms 10 (f_X5_call k 9) (fun z L => [(0, .ref (a 40)), (1, .int (L.1 1)), (2, .int (L.1 2)), (3, .int (L.1 3)), (4, .int (L.1 4)), (6, .int (L.1 6)), (7, .int (L.1 7)), (8, .int (L.1 8)), (9, .int (L.1 9))]) 135 (fun z L => [])) ∧ (bX p l e (headSpec w_f_X5_call ({ frames := 410, cells := mc, slots := ms, locals := 13400 })).room s m #[.ref (a 40), .int (L0.1 1), .int (L0.1 2)] below meth c dC dI cy a A (fun r => vx_MQ below (xV dC dI cy a A [41, 42, 43, 51] z r) (xX dC dI cy a A [41, 42, 43, 51] z r) #[.ref (a 40), .int (L0.1 1), .int (L0.1 2)] s mc ms A) [41, 42, 43, 51] z mc ms 10 (f_X5_call k 10) (fun z L => [(0, .ref (a 40)), (1, .int (L.1 1)), (2, .int (L.1 2)), (3, .int (L.1 3)), (4, .int (L.1 4)), (6, .int (L.1 6)), (8, .int (L.1 8)), (9, .int (L.1 9))]) 143 (fun z L => [])) ∧ (bX p l e (headSpec w_f_X5_call ({ frames := 410, cells := mc, slots := ms, locals := 13400 })).room s m #[.ref (a 40), .int (L0.1 1), .int (L0.1 2)] below meth c dC dI cy a A (fun r => vx_MQ below (xV dC dI cy a A [41, 42, 43, 51] z r) (xX dC dI cy a A [41, 42, 43, 51] z r) #[.ref (a 40), .int (L0.1 1), .int (L0.1 2)] s mc ms A) [41, 42, 43, 51] z mc ms 10 (f_X5_call k 11) (fun z L => [(0, .ref (a 40)), (1, .int (L.1 1)), (2, .int (L.1 2)), (3, .int (L.1 3)), (4, .int (L.1 4)), (6, .int (L.1 6))]) 174 (fun z L => [])) ∧ (bX p l e (headSpec w_f_X5_call ({ frames := 410, cells := mc, slots := ms, locals := 13400 })).room s m #[.ref (a 40), .int (L0.1 1), .int (L0.1 2)] below meth c dC dI cy a A (fun r => vx_MQ below (xV dC dI cy a A [41, 42, 43, 51] z r) (xX dC dI cy a A [41, 42, 43, 51] z r) #[.ref (a 40), .int (L0.1 1), .int (L0.1 2)] s mc ms A) [41, 42, 43, 51] z mc ms 10 (f_X5_call k 12) (fun z L => [(0, .ref (a 40)), (1, .int (L.1 1)), (2, .int (L.1 2)), (3, .int (L.1 3)), (4, .int (L.1 4)), (6, .int (L.1 6))]) 193 (fun z L => [])) ∧ (bX p l e (headSpec w_f_X5_call ({ frames := 410, cells := mc, slots := ms, locals := 13400 })).room s m #[.ref (a 40), .int (L0.1 1), .int (L0.1 2)] below meth c dC dI cy a A (fun r => vx_MQ below (xV dC dI cy a A [41, 42, 43, 51] z r) (xX dC dI cy a A [41, 42, 43, 51] z r) #[.ref (a 40), .int (L0.1 1), .int (L0.1 2)] s mc ms A) [41, 42, 43, 51] z mc ms 10 (f_X5_call k 13) (fun z L => [(0, .ref (a 40)), (1, .int (L.1 1)), (2, .int (L.1 2)), (3, .int (L.1 3)), (4, .int (L.1 4)), (6, .int (L.1 6))]) 194 (fun z L => [.int (L.1 100)])) ∧ (bX p l e (headSpec w_f_X5_call ({ frames := 410, cells := mc, slots := ms, locals := 13400 })).room s m #[.ref (a 40), .int (L0.1 1), .int (L0.1 2)] below meth c dC dI cy a A (fun r => vx_MQ below (xV dC dI cy a A [41, 42, 43, 51] z r) (xX dC dI cy a A [41, 42, 43, 51] z r) #[.ref (a 40), .int (L0.1 1), .int (L0.1 2)] s mc ms A) [41, 42, 43, 51] z mc ms 10 (f_X5_call k 14) (fun z L => [(0, .ref (a 40)), (1, .int (L.1 1)), (2, .int (L.1 2)), (3, .int (L.1 3)), (4, .int (L.1 4)), (5, .int (L.1 5)), (6, .int (L.1 6))]) 208 (fun z L => [])) := by
    intro k
    induction k with
    | zero => exact ⟨fun z c1 c2 L σ r h => (by cases h), fun z c1 c2 L σ r h => (by cases h), fun z c1 c2 L σ r h => (by cases h), fun z c1 c2 L σ r h => (by cases h), fun z c1 c2 L σ r h => (by cases h), fun z c1 c2 L σ r h => (by cases h), fun z c1 c2 L σ r h => (by cases h), fun z c1 c2 L σ r h => (by cases h), fun z c1 c2 L σ r h => (by cases h), fun z c1 c2 L σ r h => (by cases h), fun z c1 c2 L σ r h => (by cases h), fun z c1 c2 L σ r h => (by cases h), fun z c1 c2 L σ r h => (by cases h), fun z c1 c2 L σ r h => (by cases h), fun z c1 c2 L σ r h => (by cases h)⟩
    | succ k ih =>
      refine ⟨?_, ?_, ?_, ?_, ?_, ?_, ?_, ?_, ?_, ?_, ?_, ?_, ?_, ?_, ?_⟩
      · intro z cells slots L σ r h hzk hc hs H locs ls hP hD hS hl
        rw [f_X5_call] at h
        refine lv_aload_n hx hb dX5_call_0 rfl (lv_at hl 0 rfl) ?_
        obtain ⟨b1, hb1, h⟩ := oP_ex h
        refine hgq_40_2 hx hb hts in_f_X5_call_X5 hown hK hP (hts _ (List.mem_cons_of_mem _ (List.mem_append_left _ (List.mem_append_left _ (List.mem_of_getElem? (i := 0) rfl))))) hb1 dX5_call_1 ?_
        refine hg_P_14n b1 hx hb hts in_f_X5_call_X7 hown hK hP (va_Nw.use rfl (hG.1 _ (List.mem_of_getElem? (i := 85) rfl))) dX5_call_4 ?_
        refine lv_iload_n hx hb dX5_call_7 rfl (lv_at hl 1 rfl) ?_
        obtain ⟨q2, h⟩ := kr_ite1 h
        refine hl_P14 b1 hx hb hK hP q2 dX5_call_8 ?_
        refine lv_istore_n (lv' := [(3, .int (σ.2.2.1 (pR14 b1) ((L.1 1)).toNatClampNeg)), (0, .ref (a 40)), (1, .int (L.1 1)), (2, .int (L.1 2))]) hx hb dX5_call_9 rfl hl (by decide) rfl (fun ls hl => ?_)
        refine lv_iconst (v := 0) hx hb dX5_call_10 (by decide) ?_
        refine lv_istore (lv' := [(4, .int 0), (3, .int (σ.2.2.1 (pR14 b1) ((L.1 1)).toNatClampNeg)), (0, .ref (a 40)), (1, .int (L.1 1)), (2, .int (L.1 2))]) hx hb dX5_call_11 hl (by decide) rfl (fun ls hl => ?_)
        refine lv_aload_n hx hb dX5_call_13 rfl (lv_at hl 2 rfl) ?_
        obtain ⟨b3, hb3, h⟩ := oP_ex h
        refine hgq_40_2 hx hb hts in_f_X5_call_X5 hown hK hP (hts _ (List.mem_cons_of_mem _ (List.mem_append_left _ (List.mem_append_left _ (List.mem_of_getElem? (i := 0) rfl))))) hb3 dX5_call_14 ?_
        refine lv_bipush (v := 16) hx hb dX5_call_17 (by decide) ?_
        refine lv_iconst (v := 0) hx hb dX5_call_19 (by decide) ?_
        obtain ⟨r4, hc4, hle4, h9⟩ := ox_ex h
        clear h
        refine kx_i (vx_runV (As := [.int 16, .int 0]) (rest := []) ⟨hx, hb, hml, hown, hts⟩ (c_f_X7_emit__P l hl0 dC dI cy ek a k (lI (lI (lB lZ 0 b3) 1 16) 2 0) σ r4 hc4 z H.size) (cwV 2 hts g_f_X5_call_X7_emit__P_V66 rfl rfl rfl hd_f_X7_emit__P ⟨Nat.le_of_ble_eq_true rfl, Nat.le_of_ble_eq_true rfl⟩) ⟨nb_blindF, recvP b3 hK hP, (kx_pre hK hG hE hT hA hP hD hS)⟩ rfl rfl hl.1 rfl (lv_room (Nat.le_of_ble_eq_true rfl)) dX5_call_20 ⟨Nat.le_trans (Nat.add_le_add_left hle4.1 _) (Nat.le_of_eq hc), Nat.le_trans (Nat.add_le_add_left hle4.2 _) (Nat.le_of_eq hs)⟩) hK hA hzk hP hD hS (by decide) hno hlocks ?_
        rcases h9 with ⟨h00, y4, hny4, hy⟩ | ⟨h00, hy⟩
        · subst hy
          have h := hny4
          refine Or.inl ⟨h00, fun z H locs hz4 hzk hP hD hS => ?_⟩
          replace hc := (Nat.add_assoc _ _ _).trans hc
          replace hs := (Nat.add_assoc _ _ _).trans hs
          refine lv_pop hx hb dX5_call_23 rfl ?_
          refine lv_aload_n hx hb dX5_call_24 rfl (lv_at hl 2 rfl) ?_
          obtain ⟨r5, hc5, hle5, h9⟩ := ox_ex h
          clear h
          refine kx_v (r := y4) (vx_runV (As := []) (rest := []) ⟨hx, hb, hml, hown, hts⟩ (c_f_X5_opens l hl0 dC dI cy ek a k lZ r4.2.1 r5 hc5 z H.size) (cwV 0 hts g_f_X5_call_X5_opens_V173 rfl rfl rfl hd_f_X5_opens ⟨Nat.le_of_ble_eq_true rfl, Nat.le_of_ble_eq_true rfl⟩) ⟨nb_blindF, va_recv hK hP (ci := 4) (q0 := 40) rfl rfl, (kx_pre hK hG hE hT hA hP hD hS)⟩ rfl rfl hl.1 rfl (lv_room (Nat.le_of_ble_eq_true rfl)) dX5_call_25 ⟨Nat.le_trans (Nat.add_le_add_left hle5.1 _) (Nat.le_of_eq hc), Nat.le_trans (Nat.add_le_add_left hle5.2 _) (Nat.le_of_eq hs)⟩) hK hA hzk hP hD hS (by decide) hno hlocks ?_
          rcases h9 with ⟨h00, y5, hny5, hy⟩ | ⟨h00, hy⟩
          · subst hy
            have h := hny5
            refine Or.inl ⟨h00, fun u H locs hz5 hzk hP hD hS => ?_⟩
            obtain rfl := (zk_nil hz5).symm
            replace hc := (Nat.add_assoc _ _ _).trans hc
            replace hs := (Nat.add_assoc _ _ _).trans hs
            refine lv_aload_n hx hb dX5_call_28 rfl (lv_at hl 2 rfl) ?_
            refine hg_40_0 hx hb hts in_f_X5_call_X5 hown hK hP (hts _ (List.mem_cons_of_mem _ (List.mem_append_left _ (List.mem_append_left _ (List.mem_of_getElem? (i := 9) rfl))))) dX5_call_29 ?_
            refine hg_37_2n hx hb hts in_f_X5_call_X2 hown hK hP (va_Nw.use rfl (hG.1 _ (List.mem_of_getElem? (i := 52) rfl))) dX5_call_32 ?_
            refine lv_bipush (v := 11) hx hb dX5_call_35 (by decide) ?_
            refine lv_icmp_eq (tgt := 44) hx hb dX5_call_37 (by decide) (fun c6 => ?_) (fun c6 => ?_)
            · rw [if_pos c6] at h
              exact ih.2.1 z _ _ (lI (lI L 3 ((σ.2.2.1 (pR14 b1) ((L.1 1)).toNatClampNeg))) 4 0) r5.2.1 _ h hzk hc hs H locs ls hP hD hS (lv_sub hl [2, 3, 4, 1, 0] rfl)
            · rw [if_neg c6] at h
              refine lv_iconst (v := 1) hx hb dX5_call_40 (by decide) ?_
              refine lv_goto (tgt := 45) hx hb dX5_call_41 (by decide) ?_
              exact ih.2.2.1 z _ _ (lI (lI (lI L 3 ((σ.2.2.1 (pR14 b1) ((L.1 1)).toNatClampNeg))) 4 0) 100 1) r5.2.1 _ h hzk hc hs H locs ls hP hD hS (lv_sub hl [2, 3, 4, 1, 0] rfl)
          · subst hy
            exact Or.inr ⟨h00, rfl, hc, hs⟩
        · subst hy
          exact Or.inr ⟨h00, rfl, hc, hs⟩
      · intro z cells slots L σ r h hzk hc hs H locs ls hP hD hS hl
        rw [f_X5_call] at h
        refine lv_iconst (v := 0) hx hb dX5_call_44 (by decide) ?_
        exact ih.2.2.1 z _ _ (lI L 100 0) σ _ h hzk hc hs H locs ls hP hD hS (lv_sub hl [0, 1, 2, 3, 4] rfl)
      · intro z cells slots L σ r h hzk hc hs H locs ls hP hD hS hl
        rw [f_X5_call] at h
        refine lv_istore (lv' := [(5, .int (L.1 100)), (0, .ref (a 40)), (1, .int (L.1 1)), (2, .int (L.1 2)), (3, .int (L.1 3)), (4, .int (L.1 4))]) hx hb dX5_call_45 hl (by decide) rfl (fun ls hl => ?_)
        refine lv_iconst (v := 0) hx hb dX5_call_47 (by decide) ?_
        refine lv_istore (lv' := [(6, .int 0), (5, .int (L.1 100)), (0, .ref (a 40)), (1, .int (L.1 1)), (2, .int (L.1 2)), (3, .int (L.1 3)), (4, .int (L.1 4))]) hx hb dX5_call_48 hl (by decide) rfl (fun ls hl => ?_)
        exact ih.2.2.2.1 z _ _ (lI (lI L 5 ((L.1 100))) 6 0) σ _ h hzk hc hs H locs ls hP hD hS (lv_sub hl [2, 3, 4, 5, 6, 1, 0] rfl)
      · intro z cells slots L σ r h hzk hc hs H locs ls hP hD hS hl
        rw [f_X5_call] at h
        refine lv_iload hx hb dX5_call_50 (lv_at hl 6 rfl) ?_
        refine lv_ldc (v := 32768) hx hb hown (hts _ (List.mem_cons_of_mem _ (List.mem_append_left _ (List.mem_append_left _ (List.mem_of_getElem? (i := 10) rfl))))) dX5_call_52 ?_
        refine lv_icmp_gt (tgt := 214) hx hb dX5_call_54 (by decide) (fun c1 => ?_) (fun c1 => ?_)
        · rw [if_pos c1] at h
          exact ih.2.2.2.2.1 z _ _ L σ _ h hzk hc hs H locs ls hP hD hS (lv_sub hl [0, 1, 2, 3, 4] rfl)
        · rw [if_neg c1] at h
          refine lv_iload hx hb dX5_call_57 (lv_at hl 5 rfl) ?_
          refine lv_if_eq (tgt := 214) hx hb dX5_call_59 (by decide) (fun c2 => ?_) (fun c2 => ?_)
          · rw [if_pos c2] at h
            exact ih.2.2.2.2.1 z _ _ L σ _ h hzk hc hs H locs ls hP hD hS (lv_sub hl [0, 1, 2, 3, 4] rfl)
          · rw [if_neg c2] at h
            refine lv_aload_n hx hb dX5_call_62 rfl (lv_at hl 0 rfl) ?_
            refine hg_40_0 hx hb hts in_f_X5_call_X5 hown hK hP (hts _ (List.mem_cons_of_mem _ (List.mem_append_left _ (List.mem_append_left _ (List.mem_of_getElem? (i := 9) rfl))))) dX5_call_63 ?_
            refine hg_37_3n hx hb hts in_f_X5_call_X2 hown hK hP (va_Nw.use rfl (hG.1 _ (List.mem_of_getElem? (i := 54) rfl))) dX5_call_66 ?_
            refine lv_istore (lv' := [(7, .int (σ.1 3703)), (0, .ref (a 40)), (1, .int (L.1 1)), (2, .int (L.1 2)), (3, .int (L.1 3)), (4, .int (L.1 4)), (5, .int (L.1 5)), (6, .int (L.1 6))]) hx hb dX5_call_69 hl (by decide) rfl (fun ls hl => ?_)
            refine lv_aload_n hx hb dX5_call_71 rfl (lv_at hl 1 rfl) ?_
            obtain ⟨b3, hb3, h⟩ := oP_ex h
            refine hgq_40_2 hx hb hts in_f_X5_call_X5 hown hK hP (hts _ (List.mem_cons_of_mem _ (List.mem_append_left _ (List.mem_append_left _ (List.mem_of_getElem? (i := 0) rfl))))) hb3 dX5_call_72 ?_
            refine hg_P_1n b3 hx hb hts in_f_X5_call_X7 hown hK hP (va_Nw.use rfl (hG.1 _ (List.mem_of_getElem? (i := 68) rfl))) dX5_call_75 ?_
            refine lv_istore (lv' := [(8, .int (σ.1 (fP b3 1))), (7, .int (σ.1 3703)), (0, .ref (a 40)), (1, .int (L.1 1)), (2, .int (L.1 2)), (3, .int (L.1 3)), (4, .int (L.1 4)), (5, .int (L.1 5)), (6, .int (L.1 6))]) hx hb dX5_call_78 hl (by decide) rfl (fun ls hl => ?_)
            refine lv_aload_n hx hb dX5_call_80 rfl (lv_at hl 2 rfl) ?_
            refine lv_iconst (v := 0) hx hb dX5_call_81 (by decide) ?_
            obtain ⟨r4, hc4, hle4, h9⟩ := ox_ex h
            clear h
            refine kx_v (vx_runV (As := [.int 0]) (rest := []) ⟨hx, hb, hml, hown, hts⟩ (c_f_X5_exp l hl0 dC dI cy ek a k (lI lZ 1 0) σ r4 hc4 z H.size) (cwV 1 hts g_f_X5_call_X5_exp_V90 rfl rfl rfl hd_f_X5_exp ⟨Nat.le_of_ble_eq_true rfl, Nat.le_of_ble_eq_true rfl⟩) ⟨nb_blindF, va_recv hK hP (ci := 4) (q0 := 40) rfl rfl, (kx_pre hK hG hE hT hA hP hD hS)⟩ rfl rfl hl.1 rfl (lv_room (Nat.le_of_ble_eq_true rfl)) dX5_call_82 ⟨Nat.le_trans (Nat.add_le_add_left hle4.1 _) (Nat.le_of_eq hc), Nat.le_trans (Nat.add_le_add_left hle4.2 _) (Nat.le_of_eq hs)⟩) hK hA hzk hP hD hS (by decide) hno hlocks ?_
            rcases h9 with ⟨h00, y4, hny4, hy⟩ | ⟨h00, hy⟩
            · subst hy
              have h := hny4
              refine Or.inl ⟨h00, fun z H locs hz4 hzk hP hD hS => ?_⟩
              replace hc := (Nat.add_assoc _ _ _).trans hc
              replace hs := (Nat.add_assoc _ _ _).trans hs
              refine lv_iload hx hb dX5_call_85 (lv_at hl 6 rfl) ?_
              refine lv_iload_n hx hb dX5_call_87 rfl (lv_at hl 5 rfl) ?_
              refine lv_icmp_ge (tgt := 104) hx hb dX5_call_88 (by decide) (fun c5 => ?_) (fun c5 => ?_)
              · rw [if_pos c5] at h
                exact ih.2.2.2.2.2.1 z _ _ (lI (lI L 7 ((σ.1 3703))) 8 ((σ.1 (fP b3 1)))) r4.2.1 _ h hzk hc hs H locs ls hP hD hS (lv_sub hl [2, 3, 4, 5, 6, 8, 1, 0] rfl)
              · rw [if_neg c5] at h
                refine lv_aload_n hx hb dX5_call_91 rfl (lv_at hl 2 rfl) ?_
                obtain ⟨b6, hb6, h⟩ := oP_ex h
                refine hgq_40_2 hx hb hts in_f_X5_call_X5 hown hK hP (hts _ (List.mem_cons_of_mem _ (List.mem_append_left _ (List.mem_append_left _ (List.mem_of_getElem? (i := 0) rfl))))) hb6 dX5_call_92 ?_
                refine lv_iload_n hx hb dX5_call_95 rfl (lv_at hl 3 rfl) ?_
                refine lv_iload hx hb dX5_call_96 (lv_at hl 6 rfl) ?_
                obtain ⟨r7, hc7, h⟩ := op_ex h
                refine kc_i (va_runV (As := [.int (L.1 1), .int (L.1 4)]) (rest := []) ⟨hx, hb, hml, hown, hts⟩ (c_y_X7_mode__P l dC dI cy a z k (lI (lI (lB lZ 0 b6) 1 ((L.1 1))) 2 ((L.1 4))) r4.2.1 r7 hc7 H.size) (cwV 2 hts g_y_X5_call_X7_mode__P_V338 rfl rfl rfl hd_y_X7_mode__P ⟨Nat.le_of_ble_eq_true rfl, Nat.le_of_ble_eq_true rfl⟩) ⟨nb_blind, recvP b6 hK hP, (kb_pre hK hG hP hD)⟩ rfl rfl hl.1 rfl (lv_room (Nat.le_of_ble_eq_true rfl)) dX5_call_98 ⟨(Nat.le_trans (Nat.le_add_right _ _) (Nat.le_of_eq hc)), (Nat.le_trans (Nat.le_add_right _ _) (Nat.le_of_eq hs))⟩) hA hP hD hS (fun H locs hP hD hS => ?_)
                refine lv_goto (tgt := 105) hx hb dX5_call_101 (by decide) ?_
                exact ih.2.2.2.2.2.2.1 z _ _ (lI (lI (lI L 7 ((σ.1 3703))) 8 ((σ.1 (fP b3 1)))) 100 r7.1) r7.2 _ h hzk hc hs H locs ls hP hD hS (lv_sub hl [2, 3, 4, 5, 6, 8, 1, 0] rfl)
            · subst hy
              exact Or.inr ⟨h00, rfl, hc, hs⟩
      · intro z cells slots L σ r h hzk hc hs H locs ls hP hD hS hl
        rw [f_X5_call] at h
        refine lv_aload_n hx hb dX5_call_214 rfl (lv_at hl 0 rfl) ?_
        refine lv_bipush (v := 11) hx hb dX5_call_215 (by decide) ?_
        obtain ⟨r1, hc1, hle1, h9⟩ := ox_ex h
        clear h
        refine kx_v (vx_runV (As := [.int 11]) (rest := []) ⟨hx, hb, hml, hown, hts⟩ (c_f_X5_want l hl0 dC dI cy ek a k (lI lZ 1 11) σ r1 hc1 z H.size) (cwV 1 hts g_f_X5_call_X5_want_V61 rfl rfl rfl hd_f_X5_want ⟨Nat.le_of_ble_eq_true rfl, Nat.le_of_ble_eq_true rfl⟩) ⟨nb_blindF, va_recv hK hP (ci := 4) (q0 := 40) rfl rfl, (kx_pre hK hG hE hT hA hP hD hS)⟩ rfl rfl hl.1 rfl (lv_room (Nat.le_of_ble_eq_true rfl)) dX5_call_217 ⟨Nat.le_trans (Nat.add_le_add_left hle1.1 _) (Nat.le_of_eq hc), Nat.le_trans (Nat.add_le_add_left hle1.2 _) (Nat.le_of_eq hs)⟩) hK hA hzk hP hD hS (by decide) hno hlocks ?_
        rcases h9 with ⟨h00, y1, hny1, hy⟩ | ⟨h00, hy⟩
        · subst hy
          have h := hny1
          refine Or.inl ⟨h00, fun u H locs hz1 hzk hP hD hS => ?_⟩
          obtain rfl := (zk_nil hz1).symm
          replace hc := (Nat.add_assoc _ _ _).trans hc
          replace hs := (Nat.add_assoc _ _ _).trans hs
          refine lv_iload hx hb dX5_call_220 (lv_at hl 4 rfl) ?_
          refine lv_iload_n hx hb dX5_call_222 rfl (lv_at hl 3 rfl) ?_
          refine lv_icmp_eq (tgt := 239) hx hb dX5_call_223 (by decide) (fun c2 => ?_) (fun c2 => ?_)
          · rw [if_pos c2] at h
            exact ih.2.2.2.2.2.2.2.1 z _ _ L r1.2.1 _ h hzk hc hs H locs ls hP hD hS (lv_sub hl [0, 1, 2] rfl)
          · rw [if_neg c2] at h
            refine lv_aload_n hx hb dX5_call_226 rfl (lv_at hl 0 rfl) ?_
            refine lv_bipush (v := 6) hx hb dX5_call_227 (by decide) ?_
            refine lv_aload_n hx hb dX5_call_229 rfl (lv_at hl 0 rfl) ?_
            refine hg_40_0 hx hb hts in_f_X5_call_X5 hown hK hP (hts _ (List.mem_cons_of_mem _ (List.mem_append_left _ (List.mem_append_left _ (List.mem_of_getElem? (i := 9) rfl))))) dX5_call_230 ?_
            refine hg_37_3n hx hb hts in_f_X5_call_X2 hown hK hP (va_Nw.use rfl (hG.1 _ (List.mem_of_getElem? (i := 54) rfl))) dX5_call_233 ?_
            obtain ⟨r3, hc3, hle3, h9⟩ := ox_ex h
            clear h
            refine kx_v (r := y1) (vx_runV (As := [.int 6, .int (r1.2.1.1 3703)]) (rest := []) ⟨hx, hb, hml, hown, hts⟩ (c_f_X5_refuse l hl0 dC dI cy ek a k (lI (lI lZ 1 6) 2 ((r1.2.1.1 3703))) r1.2.1 r3 hc3 z H.size) (cwV 2 hts g_f_X5_call_X5_refuse_V125 rfl rfl rfl hd_f_X5_refuse ⟨Nat.le_of_ble_eq_true rfl, Nat.le_of_ble_eq_true rfl⟩) ⟨nb_blindF, va_recv hK hP (ci := 4) (q0 := 40) rfl rfl, (kx_pre hK hG hE hT hA hP hD hS)⟩ rfl rfl hl.1 rfl (lv_room (Nat.le_of_ble_eq_true rfl)) dX5_call_236 ⟨Nat.le_trans (Nat.add_le_add_left hle3.1 _) (Nat.le_of_eq hc), Nat.le_trans (Nat.add_le_add_left hle3.2 _) (Nat.le_of_eq hs)⟩) hK hA hzk hP hD hS (by decide) hno hlocks ?_
            rcases h9 with ⟨h00, y3, hny3, hy⟩ | ⟨h00, hy⟩
            · subst hy
              have h := hny3
              refine Or.inl ⟨h00, fun u H locs hz3 hzk hP hD hS => ?_⟩
              obtain rfl := (zk_nil hz3).symm
              replace hc := (Nat.add_assoc _ _ _).trans hc
              replace hs := (Nat.add_assoc _ _ _).trans hs
              exact ih.2.2.2.2.2.2.2.1 z _ _ L r3.2.1 _ h hzk hc hs H locs ls hP hD hS (lv_sub hl [0, 1, 2] rfl)
            · subst hy
              exact Or.inr ⟨h00, rfl, hc, hs⟩
        · subst hy
          exact Or.inr ⟨h00, rfl, hc, hs⟩
      · intro z cells slots L σ r h hzk hc hs H locs ls hP hD hS hl
        rw [f_X5_call] at h
        refine lv_iconst (v := 0) hx hb dX5_call_104 (by decide) ?_
        exact ih.2.2.2.2.2.2.1 z _ _ (lI L 100 0) σ _ h hzk hc hs H locs ls hP hD hS (lv_sub hl [0, 1, 2, 3, 4, 5, 6, 7] rfl)
      · intro z cells slots L σ r h hzk hc hs H locs ls hP hD hS hl
        rw [f_X5_call] at h
        refine lv_istore (lv' := [(9, .int (L.1 100)), (0, .ref (a 40)), (1, .int (L.1 1)), (2, .int (L.1 2)), (3, .int (L.1 3)), (4, .int (L.1 4)), (6, .int (L.1 6)), (7, .int (L.1 7)), (8, .int (L.1 8))]) hx hb dX5_call_105 hl (by decide) rfl (fun ls hl => ?_)
        refine lv_iload hx hb dX5_call_107 (lv_at hl 0 rfl) ?_
        refine lv_if_eq (tgt := 153) hx hb dX5_call_109 (by decide) (fun c1 => ?_) (fun c1 => ?_)
        · rw [if_pos c1] at h
          exact ih.2.2.2.2.2.2.2.2.1 z _ _ (lI L 9 ((L.1 100))) σ _ h hzk hc hs H locs ls hP hD hS (lv_sub hl [1, 2, 3, 4, 5, 6, 8, 0] rfl)
        · rw [if_neg c1] at h
          refine lv_aload_n hx hb dX5_call_112 rfl (lv_at hl 1 rfl) ?_
          refine hg_40_16 hx hb hts in_f_X5_call_X5 hown hK hP (hts _ (List.mem_cons_of_mem _ (List.mem_append_left _ (List.mem_append_left _ (List.mem_of_getElem? (i := 23) rfl))))) dX5_call_113 ?_
          refine lv_iload hx hb dX5_call_116 (lv_at hl 7 rfl) ?_
          refine lv_icmp_ne (tgt := 135) hx hb dX5_call_118 (by decide) (fun c2 => ?_) (fun c2 => ?_)
          · rw [if_neg c2] at h
            exact ih.2.2.2.2.2.2.2.2.2.1 z _ _ (lI L 9 ((L.1 100))) σ _ h hzk hc hs H locs ls hP hD hS (lv_sub hl [1, 2, 3, 4, 5, 6, 7, 8, 0] rfl)
          · rw [if_pos c2] at h
            refine lv_aload_n hx hb dX5_call_121 rfl (lv_at hl 1 rfl) ?_
            refine hg_40_17 hx hb hts in_f_X5_call_X5 hown hK hP (hts _ (List.mem_cons_of_mem _ (List.mem_append_left _ (List.mem_append_left _ (List.mem_of_getElem? (i := 24) rfl))))) dX5_call_122 ?_
            refine lv_aload_n hx hb dX5_call_125 rfl (lv_at hl 1 rfl) ?_
            obtain ⟨b3, hb3, h⟩ := oP_ex h
            refine hgq_40_2 hx hb hts in_f_X5_call_X5 hown hK hP (hts _ (List.mem_cons_of_mem _ (List.mem_append_left _ (List.mem_append_left _ (List.mem_of_getElem? (i := 0) rfl))))) hb3 dX5_call_126 ?_
            refine hg_P_1n b3 hx hb hts in_f_X5_call_X7 hown hK hP (va_Nw.use rfl (hG.1 _ (List.mem_of_getElem? (i := 68) rfl))) dX5_call_129 ?_
            refine lv_icmp_eq (tgt := 143) hx hb dX5_call_132 (by decide) (fun c4 => ?_) (fun c4 => ?_)
            · rw [if_pos c4] at h
              exact ih.2.2.2.2.2.2.2.2.2.2.1 z _ _ (lI L 9 ((L.1 100))) σ _ h hzk hc hs H locs ls hP hD hS (lv_sub hl [1, 2, 3, 4, 5, 6, 8, 0] rfl)
            · rw [if_neg c4] at h
              exact ih.2.2.2.2.2.2.2.2.2.1 z _ _ (lI L 9 ((L.1 100))) σ _ h hzk hc hs H locs ls hP hD hS (lv_sub hl [1, 2, 3, 4, 5, 6, 7, 8, 0] rfl)
      · intro z cells slots L σ r h hzk hc hs H locs ls hP hD hS hl
        rw [f_X5_call] at h
        refine lv_aload_n hx hb dX5_call_239 rfl (lv_at hl 0 rfl) ?_
        refine lv_bipush (v := 11) hx hb dX5_call_240 (by decide) ?_
        obtain ⟨r1, hc1, hle1, h9⟩ := ox_ex h
        clear h
        refine kx_v (vx_runV (As := [.int 11]) (rest := []) ⟨hx, hb, hml, hown, hts⟩ (c_f_X5_closes l hl0 dC dI cy ek a k (lI lZ 1 11) σ r1 hc1 z H.size) (cwV 1 hts g_f_X5_call_X5_closes_V186 rfl rfl rfl hd_f_X5_closes ⟨Nat.le_of_ble_eq_true rfl, Nat.le_of_ble_eq_true rfl⟩) ⟨nb_blindF, va_recv hK hP (ci := 4) (q0 := 40) rfl rfl, (kx_pre hK hG hE hT hA hP hD hS)⟩ rfl rfl hl.1 rfl (lv_room (Nat.le_of_ble_eq_true rfl)) dX5_call_242 ⟨Nat.le_trans (Nat.add_le_add_left hle1.1 _) (Nat.le_of_eq hc), Nat.le_trans (Nat.add_le_add_left hle1.2 _) (Nat.le_of_eq hs)⟩) hK hA hzk hP hD hS (by decide) hno hlocks ?_
        rcases h9 with ⟨h00, y1, hny1, hy⟩ | ⟨h00, hy⟩
        · subst hy
          have h := hny1
          refine Or.inl ⟨h00, fun u H locs hz1 hzk hP hD hS => ?_⟩
          obtain rfl := (zk_nil hz1).symm
          replace hc := (Nat.add_assoc _ _ _).trans hc
          replace hs := (Nat.add_assoc _ _ _).trans hs
          refine lv_aload_n hx hb dX5_call_245 rfl (lv_at hl 0 rfl) ?_
          obtain ⟨b2, hb2, h⟩ := oP_ex h
          refine hgq_40_2 hx hb hts in_f_X5_call_X5 hown hK hP (hts _ (List.mem_cons_of_mem _ (List.mem_append_left _ (List.mem_append_left _ (List.mem_of_getElem? (i := 0) rfl))))) hb2 dX5_call_246 ?_
          refine lv_bipush (v := 19) hx hb dX5_call_249 (by decide) ?_
          refine lv_iload_n hx hb dX5_call_251 rfl (lv_at hl 1 rfl) ?_
          obtain ⟨r3, hc3, hle3, h9⟩ := ox_ex h
          clear h
          refine kx_i (r := y1) (vx_runV (As := [.int 19, .int (L.1 1)]) (rest := []) ⟨hx, hb, hml, hown, hts⟩ (c_f_X7_emit__P l hl0 dC dI cy ek a k (lI (lI (lB lZ 0 b2) 1 19) 2 ((L.1 1))) r1.2.1 r3 hc3 z H.size) (cwV 2 hts g_f_X5_call_X7_emit__P_V66 rfl rfl rfl hd_f_X7_emit__P ⟨Nat.le_of_ble_eq_true rfl, Nat.le_of_ble_eq_true rfl⟩) ⟨nb_blindF, recvP b2 hK hP, (kx_pre hK hG hE hT hA hP hD hS)⟩ rfl rfl hl.1 rfl (lv_room (Nat.le_of_ble_eq_true rfl)) dX5_call_252 ⟨Nat.le_trans (Nat.add_le_add_left hle3.1 _) (Nat.le_of_eq hc), Nat.le_trans (Nat.add_le_add_left hle3.2 _) (Nat.le_of_eq hs)⟩) hK hA hzk hP hD hS (by decide) hno hlocks ?_
          rcases h9 with ⟨h00, y3, hny3, hy⟩ | ⟨h00, hy⟩
          · subst hy
            have h := hny3
            refine Or.inl ⟨h00, fun z H locs hz3 hzk hP hD hS => ?_⟩
            replace hc := (Nat.add_assoc _ _ _).trans hc
            replace hs := (Nat.add_assoc _ _ _).trans hs
            refine lv_pop hx hb dX5_call_255 rfl ?_
            refine lv_aload_n hx hb dX5_call_256 rfl (lv_at hl 0 rfl) ?_
            obtain ⟨b4, hb4, h⟩ := oP_ex h
            refine hgq_40_2 hx hb hts in_f_X5_call_X5 hown hK hP (hts _ (List.mem_cons_of_mem _ (List.mem_append_left _ (List.mem_append_left _ (List.mem_of_getElem? (i := 0) rfl))))) hb4 dX5_call_257 ?_
            refine lv_aload_n hx hb dX5_call_260 rfl (lv_at hl 0 rfl) ?_
            refine hg_40_12 hx hb hts in_f_X5_call_X5 hown hK hP (hts _ (List.mem_cons_of_mem _ (List.mem_append_left _ (List.mem_append_left _ (List.mem_of_getElem? (i := 28) rfl))))) dX5_call_261 ?_
            refine lv_iload_n hx hb dX5_call_264 rfl (lv_at hl 2 rfl) ?_
            refine lv_aload_n hx hb dX5_call_265 rfl (lv_at hl 0 rfl) ?_
            refine hg_40_13 hx hb hts in_f_X5_call_X5 hown hK hP (hts _ (List.mem_cons_of_mem _ (List.mem_append_left _ (List.mem_append_left _ (List.mem_of_getElem? (i := 29) rfl))))) dX5_call_266 ?_
            refine lv_iload_n hx hb dX5_call_269 rfl (lv_at hl 2 rfl) ?_
            refine lv_isub hx hb dX5_call_270 ?_
            obtain ⟨r5, hc5, hle5, h9⟩ := ox_ex h
            clear h
            refine kx_v (r := y3) (vx_runV (As := [.ref (z 42), .int (L.1 2), .int (((r3.2.1.1 4013)) - ((L.1 2)))]) (rest := []) ⟨hx, hb, hml, hown, hts⟩ (c_f_X7_words__P__z42 l hl0 dC dI cy ek a k (lI (lI (lB lZ 0 b4) 2 ((L.1 2))) 3 ((((r3.2.1.1 4013)) - ((L.1 2))))) r3.2.1 r5 hc5 z H.size) (cwV 3 hts g_f_X5_call_X7_words__P__z42_V312 rfl rfl rfl hd_f_X7_words__P__z42 ⟨Nat.le_of_ble_eq_true rfl, Nat.le_of_ble_eq_true rfl⟩) ⟨nb_blindF, recvP b4 hK hP, (kx_pre hK hG hE hT hA hP hD hS)⟩ rfl rfl hl.1 rfl (lv_room (Nat.le_of_ble_eq_true rfl)) dX5_call_271 ⟨Nat.le_trans (Nat.add_le_add_left hle5.1 _) (Nat.le_of_eq hc), Nat.le_trans (Nat.add_le_add_left hle5.2 _) (Nat.le_of_eq hs)⟩) hK hA hzk hP hD hS (by decide) hno hlocks ?_
            rcases h9 with ⟨h00, y5, hny5, hy⟩ | ⟨h00, hy⟩
            · subst hy
              have h := hny5
              refine Or.inl ⟨h00, fun z H locs hz5 hzk hP hD hS => ?_⟩
              replace hc := (Nat.add_assoc _ _ _).trans hc
              replace hs := (Nat.add_assoc _ _ _).trans hs
              refine lv_aload_n hx hb dX5_call_274 rfl (lv_at hl 0 rfl) ?_
              obtain ⟨b6, hb6, h⟩ := oP_ex h
              refine hgq_40_2 hx hb hts in_f_X5_call_X5 hown hK hP (hts _ (List.mem_cons_of_mem _ (List.mem_append_left _ (List.mem_append_left _ (List.mem_of_getElem? (i := 0) rfl))))) hb6 dX5_call_275 ?_
              refine lv_aload_n hx hb dX5_call_278 rfl (lv_at hl 0 rfl) ?_
              refine hg_40_12 hx hb hts in_f_X5_call_X5 hown hK hP (hts _ (List.mem_cons_of_mem _ (List.mem_append_left _ (List.mem_append_left _ (List.mem_of_getElem? (i := 28) rfl))))) dX5_call_279 ?_
              refine lv_iconst (v := 0) hx hb dX5_call_282 (by decide) ?_
              refine lv_iload_n hx hb dX5_call_283 rfl (lv_at hl 2 rfl) ?_
              obtain ⟨r7, hc7, hle7, h9⟩ := ox_ex h
              clear h
              refine kx_v (r := y5) (vx_runV (As := [.ref (z 42), .int 0, .int (L.1 2)]) (rest := []) ⟨hx, hb, hml, hown, hts⟩ (c_f_X7_words__P__z42 l hl0 dC dI cy ek a k (lI (lI (lB lZ 0 b6) 2 0) 3 ((L.1 2))) r5.2.1 r7 hc7 z H.size) (cwV 3 hts g_f_X5_call_X7_words__P__z42_V312 rfl rfl rfl hd_f_X7_words__P__z42 ⟨Nat.le_of_ble_eq_true rfl, Nat.le_of_ble_eq_true rfl⟩) ⟨nb_blindF, recvP b6 hK hP, (kx_pre hK hG hE hT hA hP hD hS)⟩ rfl rfl hl.1 rfl (lv_room (Nat.le_of_ble_eq_true rfl)) dX5_call_284 ⟨Nat.le_trans (Nat.add_le_add_left hle7.1 _) (Nat.le_of_eq hc), Nat.le_trans (Nat.add_le_add_left hle7.2 _) (Nat.le_of_eq hs)⟩) hK hA hzk hP hD hS (by decide) hno hlocks ?_
              rcases h9 with ⟨h00, y7, hny7, hy⟩ | ⟨h00, hy⟩
              · subst hy
                have h := hny7
                refine Or.inl ⟨h00, fun z H locs hz7 hzk hP hD hS => ?_⟩
                replace hc := (Nat.add_assoc _ _ _).trans hc
                replace hs := (Nat.add_assoc _ _ _).trans hs
                obtain rfl := Option.some.inj h
                subst hc
                subst hs
                exact xr_v hx hb hr hK hzk hP hD hS hlocks dX5_call_287
              · subst hy
                exact Or.inr ⟨h00, rfl, hc, hs⟩
            · subst hy
              exact Or.inr ⟨h00, rfl, hc, hs⟩
          · subst hy
            exact Or.inr ⟨h00, rfl, hc, hs⟩
        · subst hy
          exact Or.inr ⟨h00, rfl, hc, hs⟩
      · intro z cells slots L σ r h hzk hc hs H locs ls hP hD hS hl
        rw [f_X5_call] at h
        refine lv_iload hx hb dX5_call_153 (lv_at hl 7 rfl) ?_
        refine lv_iconst (v := 1) hx hb dX5_call_155 (by decide) ?_
        refine lv_icmp_ne (tgt := 174) hx hb dX5_call_156 (by decide) (fun c1 => ?_) (fun c1 => ?_)
        · rw [if_neg c1] at h
          exact ih.2.2.2.2.2.2.2.2.2.2.2.1 z _ _ L σ _ h hzk hc hs H locs ls hP hD hS (lv_sub hl [0, 1, 2, 3, 4, 5] rfl)
        · rw [if_pos c1] at h
          refine lv_aload_n hx hb dX5_call_159 rfl (lv_at hl 0 rfl) ?_
          obtain ⟨b2, hb2, h⟩ := oP_ex h
          refine hgq_40_2 hx hb hts in_f_X5_call_X5 hown hK hP (hts _ (List.mem_cons_of_mem _ (List.mem_append_left _ (List.mem_append_left _ (List.mem_of_getElem? (i := 0) rfl))))) hb2 dX5_call_160 ?_
          refine lv_iload hx hb dX5_call_163 (lv_at hl 6 rfl) ?_
          refine hp_P_1n b2 hx hb hts in_f_X5_call_X7 hown hK hP hD hS (va_Nw.use rfl (hG.1 _ (List.mem_of_getElem? (i := 68) rfl))) dX5_call_165 (fun H locs hP hD hS => ?_)
          refine lv_aload_n hx hb dX5_call_168 rfl (lv_at hl 0 rfl) ?_
          refine lv_ldc (v := (-2147483648)) hx hb hown (hts _ (List.mem_cons_of_mem _ (List.mem_append_left _ (List.mem_append_left _ (List.mem_of_getElem? (i := 33) rfl))))) dX5_call_169 ?_
          obtain ⟨r3, hc3, hle3, h9⟩ := ox_ex h
          clear h
          refine kx_v (vx_runV (As := [.int (-2147483648)]) (rest := []) ⟨hx, hb, hml, hown, hts⟩ (c_f_X5_push l hl0 dC dI cy ek a k (lI lZ 1 ((-2147483648))) (uI σ (fP b2 1) ((L.1 8))) r3 hc3 z H.size) (cwV 1 hts g_f_X5_call_X5_push_V199 rfl rfl rfl hd_f_X5_push ⟨Nat.le_of_ble_eq_true rfl, Nat.le_of_ble_eq_true rfl⟩) ⟨nb_blindF, va_recv hK hP (ci := 4) (q0 := 40) rfl rfl, (kx_pre hK hG hE hT hA hP hD hS)⟩ rfl rfl hl.1 rfl (lv_room (Nat.le_of_ble_eq_true rfl)) dX5_call_171 ⟨Nat.le_trans (Nat.add_le_add_left hle3.1 _) (Nat.le_of_eq hc), Nat.le_trans (Nat.add_le_add_left hle3.2 _) (Nat.le_of_eq hs)⟩) hK hA hzk hP hD hS (by decide) hno hlocks ?_
          rcases h9 with ⟨h00, y3, hny3, hy⟩ | ⟨h00, hy⟩
          · subst hy
            have h := hny3
            refine Or.inl ⟨h00, fun z H locs hz3 hzk hP hD hS => ?_⟩
            replace hc := (Nat.add_assoc _ _ _).trans hc
            replace hs := (Nat.add_assoc _ _ _).trans hs
            exact ih.2.2.2.2.2.2.2.2.2.2.2.1 z _ _ L r3.2.1 _ h hzk hc hs H locs ls hP hD hS (lv_sub hl [0, 1, 2, 3, 4, 5] rfl)
          · subst hy
            exact Or.inr ⟨h00, rfl, hc, hs⟩
      · intro z cells slots L σ r h hzk hc hs H locs ls hP hD hS hl
        rw [f_X5_call] at h
        refine lv_aload_n hx hb dX5_call_135 rfl (lv_at hl 0 rfl) ?_
        refine lv_bipush (v := 6) hx hb dX5_call_136 (by decide) ?_
        refine lv_iload hx hb dX5_call_138 (lv_at hl 6 rfl) ?_
        obtain ⟨r1, hc1, hle1, h9⟩ := ox_ex h
        clear h
        refine kx_v (vx_runV (As := [.int 6, .int (L.1 7)]) (rest := []) ⟨hx, hb, hml, hown, hts⟩ (c_f_X5_refuse l hl0 dC dI cy ek a k (lI (lI lZ 1 6) 2 ((L.1 7))) σ r1 hc1 z H.size) (cwV 2 hts g_f_X5_call_X5_refuse_V125 rfl rfl rfl hd_f_X5_refuse ⟨Nat.le_of_ble_eq_true rfl, Nat.le_of_ble_eq_true rfl⟩) ⟨nb_blindF, va_recv hK hP (ci := 4) (q0 := 40) rfl rfl, (kx_pre hK hG hE hT hA hP hD hS)⟩ rfl rfl hl.1 rfl (lv_room (Nat.le_of_ble_eq_true rfl)) dX5_call_140 ⟨Nat.le_trans (Nat.add_le_add_left hle1.1 _) (Nat.le_of_eq hc), Nat.le_trans (Nat.add_le_add_left hle1.2 _) (Nat.le_of_eq hs)⟩) hK hA hzk hP hD hS (by decide) hno hlocks ?_
        rcases h9 with ⟨h00, y1, hny1, hy⟩ | ⟨h00, hy⟩
        · subst hy
          have h := hny1
          refine Or.inl ⟨h00, fun u H locs hz1 hzk hP hD hS => ?_⟩
          obtain rfl := (zk_nil hz1).symm
          replace hc := (Nat.add_assoc _ _ _).trans hc
          replace hs := (Nat.add_assoc _ _ _).trans hs
          exact ih.2.2.2.2.2.2.2.2.2.2.1 z _ _ L r1.2.1 _ h hzk hc hs H locs ls hP hD hS (lv_sub hl [0, 1, 2, 3, 4, 5, 7, 8] rfl)
        · subst hy
          exact Or.inr ⟨h00, rfl, hc, hs⟩
      · intro z cells slots L σ r h hzk hc hs H locs ls hP hD hS hl
        rw [f_X5_call] at h
        refine lv_aload_n hx hb dX5_call_143 rfl (lv_at hl 0 rfl) ?_
        refine lv_iload_n hx hb dX5_call_144 rfl (lv_at hl 3 rfl) ?_
        refine lv_iconst (v := 1) hx hb dX5_call_145 (by decide) ?_
        refine lv_isub hx hb dX5_call_146 ?_
        refine lv_iload hx hb dX5_call_147 (lv_at hl 4 rfl) ?_
        refine lv_isub hx hb dX5_call_149 ?_
        obtain ⟨r1, hc1, hle1, h9⟩ := ox_ex h
        clear h
        refine kx_v (vx_runV (As := [.int (((((L.1 3)) - 1)) - ((L.1 4)))]) (rest := []) ⟨hx, hb, hml, hown, hts⟩ (c_f_X5_keepTarget l hl0 dC dI cy ek a k (lI lZ 1 ((((((L.1 3)) - 1)) - ((L.1 4))))) σ r1 hc1 z H.size) (cwV 1 hts g_f_X5_call_X5_keepTarget_V344 rfl rfl rfl hd_f_X5_keepTarget ⟨Nat.le_of_ble_eq_true rfl, Nat.le_of_ble_eq_true rfl⟩) ⟨nb_blindF, va_recv hK hP (ci := 4) (q0 := 40) rfl rfl, (kx_pre hK hG hE hT hA hP hD hS)⟩ rfl rfl hl.1 rfl (lv_room (Nat.le_of_ble_eq_true rfl)) dX5_call_150 ⟨Nat.le_trans (Nat.add_le_add_left hle1.1 _) (Nat.le_of_eq hc), Nat.le_trans (Nat.add_le_add_left hle1.2 _) (Nat.le_of_eq hs)⟩) hK hA hzk hP hD hS (by decide) hno hlocks ?_
        rcases h9 with ⟨h00, y1, hny1, hy⟩ | ⟨h00, hy⟩
        · subst hy
          have h := hny1
          refine Or.inl ⟨h00, fun z H locs hz1 hzk hP hD hS => ?_⟩
          replace hc := (Nat.add_assoc _ _ _).trans hc
          replace hs := (Nat.add_assoc _ _ _).trans hs
          exact ih.2.2.2.2.2.2.2.2.1 z _ _ L r1.2.1 _ h hzk hc hs H locs ls hP hD hS (lv_sub hl [0, 1, 2, 3, 4, 5, 6, 7] rfl)
        · subst hy
          exact Or.inr ⟨h00, rfl, hc, hs⟩
      · intro z cells slots L σ r h hzk hc hs H locs ls hP hD hS hl
        rw [f_X5_call] at h
        refine lv_iinc (v := ((L.1 4)) + 1) (lv' := [(4, .int (((L.1 4)) + 1)), (0, .ref (a 40)), (1, .int (L.1 1)), (2, .int (L.1 2)), (3, .int (L.1 3)), (6, .int (L.1 6))]) hx hb dX5_call_174 hl (k := 4) rfl rfl (by decide) rfl (fun ls hl => ?_)
        refine lv_aload_n hx hb dX5_call_177 rfl (lv_at hl 1 rfl) ?_
        refine hg_40_0 hx hb hts in_f_X5_call_X5 hown hK hP (hts _ (List.mem_cons_of_mem _ (List.mem_append_left _ (List.mem_append_left _ (List.mem_of_getElem? (i := 9) rfl))))) dX5_call_178 ?_
        refine hg_37_2n hx hb hts in_f_X5_call_X2 hown hK hP (va_Nw.use rfl (hG.1 _ (List.mem_of_getElem? (i := 52) rfl))) dX5_call_181 ?_
        refine lv_bipush (v := 16) hx hb dX5_call_184 (by decide) ?_
        refine lv_icmp_ne (tgt := 193) hx hb dX5_call_186 (by decide) (fun c1 => ?_) (fun c1 => ?_)
        · rw [if_neg c1] at h
          exact ih.2.2.2.2.2.2.2.2.2.2.2.2.1 z _ _ (lI L 4 ((((L.1 4)) + 1))) σ _ h hzk hc hs H locs ls hP hD hS (lv_sub hl [1, 2, 3, 4, 0, 5] rfl)
        · rw [if_pos c1] at h
          refine lv_iconst (v := 1) hx hb dX5_call_189 (by decide) ?_
          refine lv_goto (tgt := 194) hx hb dX5_call_190 (by decide) ?_
          exact ih.2.2.2.2.2.2.2.2.2.2.2.2.2.1 z _ _ (lI (lI L 4 ((((L.1 4)) + 1))) 100 1) σ _ h hzk hc hs H locs ls hP hD hS (lv_sub hl [1, 2, 3, 4, 0, 5] rfl)
      · intro z cells slots L σ r h hzk hc hs H locs ls hP hD hS hl
        rw [f_X5_call] at h
        refine lv_iconst (v := 0) hx hb dX5_call_193 (by decide) ?_
        exact ih.2.2.2.2.2.2.2.2.2.2.2.2.2.1 z _ _ (lI L 100 0) σ _ h hzk hc hs H locs ls hP hD hS (lv_sub hl [0, 1, 2, 3, 4, 5] rfl)
      · intro z cells slots L σ r h hzk hc hs H locs ls hP hD hS hl
        rw [f_X5_call] at h
        refine lv_istore (lv' := [(5, .int (L.1 100)), (0, .ref (a 40)), (1, .int (L.1 1)), (2, .int (L.1 2)), (3, .int (L.1 3)), (4, .int (L.1 4)), (6, .int (L.1 6))]) hx hb dX5_call_194 hl (by decide) rfl (fun ls hl => ?_)
        refine lv_iload hx hb dX5_call_196 (lv_at hl 0 rfl) ?_
        refine lv_if_eq (tgt := 208) hx hb dX5_call_198 (by decide) (fun c1 => ?_) (fun c1 => ?_)
        · rw [if_pos c1] at h
          exact ih.2.2.2.2.2.2.2.2.2.2.2.2.2.2 z _ _ (lI L 5 ((L.1 100))) σ _ h hzk hc hs H locs ls hP hD hS (lv_sub hl [1, 2, 3, 4, 5, 0, 6] rfl)
        · rw [if_neg c1] at h
          refine lv_aload_n hx hb dX5_call_201 rfl (lv_at hl 1 rfl) ?_
          refine hg_40_0 hx hb hts in_f_X5_call_X5 hown hK hP (hts _ (List.mem_cons_of_mem _ (List.mem_append_left _ (List.mem_append_left _ (List.mem_of_getElem? (i := 9) rfl))))) dX5_call_202 ?_
          obtain ⟨r2, hc2, hle2, h9⟩ := ox_ex h
          clear h
          refine kx_v (vx_runV (As := []) (rest := []) ⟨hx, hb, hml, hown, hts⟩ (c_f_X2_advance l hl0 dC dI cy ek a k lZ σ r2 hc2 z H.size) (cwV 0 hts g_f_X5_call_X2_advance_V30 rfl rfl rfl hd_f_X2_advance ⟨Nat.le_of_ble_eq_true rfl, Nat.le_of_ble_eq_true rfl⟩) ⟨nb_blindF, va_recv hK hP (ci := 2) (q0 := 37) rfl rfl, (kx_pre hK hG hE hT hA hP hD hS)⟩ rfl rfl hl.1 rfl (lv_room (Nat.le_of_ble_eq_true rfl)) dX5_call_205 ⟨Nat.le_trans (Nat.add_le_add_left hle2.1 _) (Nat.le_of_eq hc), Nat.le_trans (Nat.add_le_add_left hle2.2 _) (Nat.le_of_eq hs)⟩) hK hA hzk hP hD hS (by decide) hno hlocks ?_
          rcases h9 with ⟨h00, y2, hny2, hy⟩ | ⟨h00, hy⟩
          · subst hy
            have h := hny2
            refine Or.inl ⟨h00, fun u H locs hz2 hzk hP hD hS => ?_⟩
            obtain rfl := (zk_nil hz2).symm
            replace hc := (Nat.add_assoc _ _ _).trans hc
            replace hs := (Nat.add_assoc _ _ _).trans hs
            exact ih.2.2.2.2.2.2.2.2.2.2.2.2.2.2 z _ _ (lI L 5 ((L.1 100))) r2.2.1 _ h hzk hc hs H locs ls hP hD hS (lv_sub hl [1, 2, 3, 4, 5, 0, 6] rfl)
          · subst hy
            exact Or.inr ⟨h00, rfl, hc, hs⟩
      · intro z cells slots L σ r h hzk hc hs H locs ls hP hD hS hl
        rw [f_X5_call] at h
        refine lv_iinc (v := ((L.1 6)) + 1) (lv' := [(6, .int (((L.1 6)) + 1)), (0, .ref (a 40)), (1, .int (L.1 1)), (2, .int (L.1 2)), (3, .int (L.1 3)), (4, .int (L.1 4)), (5, .int (L.1 5))]) hx hb dX5_call_208 hl (k := 6) rfl rfl (by decide) rfl (fun ls hl => ?_)
        refine lv_goto (tgt := 50) hx hb dX5_call_211 (by decide) ?_
        exact ih.2.2.2.1 z _ _ (lI L 6 ((((L.1 6)) + 1))) σ _ h hzk hc hs H locs ls hP hD hS (lv_sub hl [1, 2, 3, 4, 5, 6, 0] rfl)
  exact (blk k0).1 z 0 0 L0 σ0 r0 h0 (zk_rf _ _) ((Nat.zero_add _).trans hmc) ((Nat.zero_add _).trans hms) s.heap [] ls hP hD hS hl

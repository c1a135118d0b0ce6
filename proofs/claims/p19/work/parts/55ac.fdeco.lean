/-! X1_widen -/
def f_X1_widen : Nat → Nat → LV → CS → Option RS
  | 0, _, _, _ => none
  | k + 1, 0, L, σ => if (2 : Int32) = 0 then none else (if ((σ.1 1)) ≤ ((((Int32.ofNat (sN σ 3))) / 2)) then (f_X1_widen k 1 L σ) else (if ¬ (160000 : Int32) < 0 ∧ (160000 : Int32).toNatClampNeg < 134217728 ∧ (sN σ 3) < 2147483648 then (if nI (sN σ 3) < (160000 : Int32) ∧ (sN σ 3) < (160000 : Int32).toNatClampNeg then (adR (1, (160000 : Int32).toNatClampNeg) (f_X1_widen k 2 L (uZ σ 3 (160000 : Int32).toNatClampNeg))) else (f_X1_widen k 2 L σ)) else none))
  | k + 1, 1, L, σ => some ((0, 0), σ, (0, 0))
  | k + 1, 2, L, σ => if ¬ (5000 : Int32) < 0 ∧ (5000 : Int32).toNatClampNeg < 134217728 ∧ (sN σ 1) < 2147483648 then (if nI (sN σ 1) < (5000 : Int32) ∧ (sN σ 1) < (5000 : Int32).toNatClampNeg then (adR (1, (5000 : Int32).toNatClampNeg) (f_X1_widen k 3 L (uZ σ 1 (5000 : Int32).toNatClampNeg))) else (f_X1_widen k 3 L σ)) else none
  | k + 1, 3, L, σ => if ¬ (5000 : Int32) < 0 ∧ (5000 : Int32).toNatClampNeg < 134217728 ∧ (sN σ 2) < 2147483648 then (if nI (sN σ 2) < (5000 : Int32) ∧ (sN σ 2) < (5000 : Int32).toNatClampNeg then (adR (1, (5000 : Int32).toNatClampNeg) (f_X1_widen k 1 L (uZ σ 2 (5000 : Int32).toNatClampNeg))) else (f_X1_widen k 1 L σ)) else none
  | _ + 1, _ + 4, _, _ => none
def o_f_X1_widen : List Cond := [.fieldLink RX1 15 "SetHouse$Heap" "top" "I", .fieldLink RX1 11 "SetHouse$Heap" "mem" "[I", .constant RX1 74 (160000), .initialized RX11, .static yX11_widened, .fieldLink RX1 19 "SetHouse$Heap" "used" "[I", .fieldLink RX1 22 "SetHouse$Heap" "before" "[I"]
theorem o_f_X1_widen_good : o_f_X1_widen.all goodWord = true := by decide +kernel
def p_f_X1_widen : List Cond := o_f_X1_widen ++ ((.code yX11_widened cX11_widened 3 (some (.array .int)) :: p_f_X11_widened) ++ [])
theorem p_f_X1_widen_good : p_f_X1_widen.all goodWord = true := nb_all2 o_f_X1_widen_good (nb_all2 (nb_allc (by decide +kernel) p_f_X11_widened_good) rfl)
def w_f_X1_widen : List Cond := .code yX1_widen cX1_widen 1 none :: (p_f_X1_widen ++ fC)
theorem w_f_X1_widen_good : w_f_X1_widen.all goodWord = true := nb_allc (by decide +kernel) (nb_all2 p_f_X1_widen_good fC_good)
theorem in_f_X1_widen_X1 : ∀ w ∈ wsX10, w ∈ w_f_X1_widen := fun _ h => List.mem_cons_of_mem _ (List.mem_append_right _ (List.mem_append_right _ (List.mem_append_left _ h)))
theorem hd_f_X1_widen : yX1_widen.cls = RX1 ∧ yX1_widen.cls ≠ "java/lang/invoke/MethodHandle" ∧ yX1_widen.cls ≠ "java/lang/invoke/VarHandle" ∧ (parseMethodDescriptor yX1_widen.desc).map (fun d => d.parameters.length) = some 0 := by decide +kernel
theorem gg_f_X1_widen_X11_widened : GoodIn w_f_X1_widen w_f_X11_widened := goodIn_sub (fun w h => (List.mem_cons.mp h).elim (fun e => (List.mem_cons_of_mem _ (List.mem_append_left _ (List.mem_append_right _ (List.mem_append_left _ (List.mem_cons.mpr (Or.inl e))))))) (fun h => (List.mem_append.mp h).elim (fun h => (List.mem_cons_of_mem _ (List.mem_append_left _ (List.mem_append_right _ (List.mem_append_left _ (List.mem_cons_of_mem _ h)))))) (fun h => List.mem_cons_of_mem _ (List.mem_append_right _ h)))) w_f_X11_widened_good
theorem g_f_X1_widen_X11_widened_SN75 : GoodIn w_f_X1_widen w_f_X11_widened := gg_f_X1_widen_X11_widened
set_option maxHeartbeats 40000000 in
set_option maxRecDepth 100000 in
theorem c_f_X1_widen (l : Launch) (hl0 : l.stackTraces = false) (dC : Nat → ClassId) (dI : Nat → Nat → Nat) (cy : Nat → ClassId) (ek a : Nat → Nat) (k0 : Nat) (L0 : LV) (σ0 : CS) (r0 : RS) (h0 : f_X1_widen k0 0 L0 σ0 = some r0) (z : Nat → Nat) (sz : Nat) : vx_Met l yX1_widen w_f_X1_widen ({ frames := 3, cells := r0.2.2.1, slots := r0.2.2.2, locals := 114 }) (va_Pc [.ref (a 0)] (nInF (dC, dI) cy ek sz (vC cy a z σ0))) (xV dC dI cy a (va_A (vC cy a z σ0) sz) [1, 2, 3] z r0) (xX dC dI cy a (va_A (vC cy a z σ0) sz) [1, 2, 3] z r0) r0.2.2.1 r0.2.2.2 (va_A (vC cy a z σ0) sz) := by
  refine vx_ofW (cc := cX1_widen) (maxL := 1) (ret := none) (by decide) rfl ?_
  intro p e s m args below meth c s₁ B hml hno hv
  obtain ⟨rfl, ⟨⟨hsz, hP, hK, hD0, hG⟩, hE⟩, hT⟩ := hv
  have hx := B.exec
  have hb := B.bytes
  have hr := B.returns
  have hts := atoms_spec (ws := w_f_X1_widen) B.pre
  have hown : s.vm.findClass RX1 = some m.cls := findClass_of_methodNamed B.named
  have hlocks := B.notSynchronized
  subst hsz
  have hD := hD0.self (sz := s.heap.size)
  generalize hAe : va_A (vC cy a z σ0) s.heap.size = A at hD hE hT ⊢
  have hA : ∀ q : Nat, s.heap.size ≤ q → A q := fun q h => by rw [← hAe]; exact Or.inr h
  have hS : va_S A s.heap s.heap [] := va_S.rf
  have hl := lv_entry ([.ref (a 0)]) (n := 1) (Nat.le_of_ble_eq_true rfl)
  rw [lg_entry_eq]
  generalize (lg_sl ([.ref (a 0)]) ++ List.replicate (1 - (lg_sl ([.ref (a 0)])).length) Slot.unset).toArray = ls at hl ⊢
  have hl : lv_has ls 1 [(0, .ref (a 0))] := hl
  generalize hmc : r0.2.2.1 = mc
  generalize hms : r0.2.2.2 = ms
  have blk : ∀ k : Nat, (bX p l e (headSpec w_f_X1_widen ({ frames := 3, cells := mc, slots := ms, locals := 114 })).room s m #[.ref (a 0)] below meth c dC dI cy a A (fun r => vx_MQ below (xV dC dI cy a A [1, 2, 3] z r) (xX dC dI cy a A [1, 2, 3] z r) #[.ref (a 0)] s mc ms A) [1, 2, 3] z mc ms 1 (f_X1_widen k 0) (fun z L => [(0, .ref (a 0))]) 0 (fun z L => [])) ∧ (bX p l e (headSpec w_f_X1_widen ({ frames := 3, cells := mc, slots := ms, locals := 114 })).room s m #[.ref (a 0)] below meth c dC dI cy a A (fun r => vx_MQ below (xV dC dI cy a A [1, 2, 3] z r) (xX dC dI cy a A [1, 2, 3] z r) #[.ref (a 0)] s mc ms A) [1, 2, 3] z mc ms 1 (f_X1_widen k 1) (fun z L => []) 63 (fun z L => [])) ∧ (bX p l e (headSpec w_f_X1_widen ({ frames := 3, cells := mc, slots := ms, locals := 114 })).room s m #[.ref (a 0)] below meth c dC dI cy a A (fun r => vx_MQ below (xV dC dI cy a A [1, 2, 3] z r) (xX dC dI cy a A [1, 2, 3] z r) #[.ref (a 0)] s mc ms A) [1, 2, 3] z mc ms 1 (f_X1_widen k 2) (fun z L => [(0, .ref (a 0))]) 29 (fun z L => [])) ∧ (bX p l e (headSpec w_f_X1_widen ({ frames := 3, cells := mc, slots := ms, locals := 114 })).room s m #[.ref (a 0)] below meth c dC dI cy a A (fun r => vx_MQ below (xV dC dI cy a A [1, 2, 3] z r) (xX dC dI cy a A [1, 2, 3] z r) #[.ref (a 0)] s mc ms A) [1, 2, 3] z mc ms 1 (f_X1_widen k 3) (fun z L => [(0, .ref (a 0))]) 46 (fun z L => [])) := by
    intro k
    induction k with
    | zero => exact ⟨fun z c1 c2 L σ r h => (by cases h), fun z c1 c2 L σ r h => (by cases h), fun z c1 c2 L σ r h => (by cases h), fun z c1 c2 L σ r h => (by cases h)⟩
    | succ k ih =>
      refine ⟨?_, ?_, ?_, ?_⟩
      · intro z cells slots L σ r h hzk hc hs H locs ls hP hD hS hl
        rw [f_X1_widen] at h
        refine lv_aload_n hx hb dX1_widen_0 rfl (lv_at hl 0 rfl) ?_
        refine hg_0_1 hx hb hts in_f_X1_widen_X1 hown hK hP (hts _ (List.mem_cons_of_mem _ (List.mem_append_left _ (List.mem_append_left _ (List.mem_of_getElem? (i := 0) rfl))))) dX1_widen_1 ?_
        refine lv_aload_n hx hb dX1_widen_4 rfl (lv_at hl 0 rfl) ?_
        refine hg_0_0 hx hb hts in_f_X1_widen_X1 hown hK hP (hts _ (List.mem_cons_of_mem _ (List.mem_append_left _ (List.mem_append_left _ (List.mem_of_getElem? (i := 1) rfl))))) dX1_widen_5 ?_
        refine hn_3 hx hb hK hP dX1_widen_8 ?_
        refine lv_iconst (v := 2) hx hb dX1_widen_9 (by decide) ?_
        obtain ⟨q1, h⟩ := kr_ite0 h
        refine lv_idiv hx hb dX1_widen_10 q1 ?_
        refine lv_icmp_le (tgt := 63) hx hb dX1_widen_11 (by decide) (fun c2 => ?_) (fun c2 => ?_)
        · rw [if_pos c2] at h
          exact ih.2.1 z _ _ L σ _ h hzk hc hs H locs ls hP hD hS (lv_sub hl [] rfl)
        · rw [if_neg c2] at h
          refine lv_aload_n hx hb dX1_widen_14 rfl (lv_at hl 0 rfl) ?_
          refine lv_aload_n hx hb dX1_widen_15 rfl (lv_at hl 0 rfl) ?_
          refine hg_0_0 hx hb hts in_f_X1_widen_X1 hown hK hP (hts _ (List.mem_cons_of_mem _ (List.mem_append_left _ (List.mem_append_left _ (List.mem_of_getElem? (i := 1) rfl))))) dX1_widen_16 ?_
          refine lv_ldc (v := 160000) hx hb hown (hts _ (List.mem_cons_of_mem _ (List.mem_append_left _ (List.mem_append_left _ (List.mem_of_getElem? (i := 2) rfl))))) dX1_widen_19 ?_
          refine lv_ldc (v := 160000) hx hb hown (hts _ (List.mem_cons_of_mem _ (List.mem_append_left _ (List.mem_append_left _ (List.mem_of_getElem? (i := 2) rfl))))) dX1_widen_21 ?_
          obtain ⟨q3, h⟩ := kr_ite1 h
          by_cases q4 : nI (sN σ 3) < (160000 : Int32) ∧ (sN σ 3) < (160000 : Int32).toNatClampNeg
          · rw [if_pos q4] at h
            obtain ⟨y5, hny5, hy⟩ := adR_ex h
            subst hy
            have h := hny5
            refine hw_3_new ⟨hx, hb, hml, hown, hts⟩ ⟨va_cnB 3 hts g_f_X1_widen_X11_widened_SN75 rfl rfl rfl (hG.1 _ (List.mem_of_getElem? (i := 99) rfl)) (hts _ (List.mem_cons_of_mem _ (List.mem_append_left _ (List.mem_append_left _ (List.mem_of_getElem? (i := 3) rfl))))) (by decide +kernel) ⟨Nat.le_of_ble_eq_true rfl, Nat.le_of_ble_eq_true rfl⟩, (hts _ (List.mem_cons_of_mem _ (List.mem_append_left _ (List.mem_append_left _ (List.mem_of_getElem? (i := 4) rfl))))), trivial⟩ in_f_X1_widen_X1 hK hG hA hP hD hS q3 q4 hl.1 (Nat.le_of_ble_eq_true rfl) dX1_widen_23 (hts _ (List.mem_cons_of_mem _ (List.mem_append_left _ (List.mem_append_left _ (List.mem_of_getElem? (i := 1) rfl))))) dX1_widen_26 (Nat.le_trans (Nat.add_le_add_left (Nat.le_add_right _ _) _) (Nat.le_of_eq hc)) (Nat.le_trans (Nat.add_le_add_left (Nat.le_add_right _ _) _) (Nat.le_of_eq hs)) (fun z H locs hz5 hP hD hS => ?_)
            have hzk := zk_tr hzk hz5 (by decide)
            replace hc := (Nat.add_assoc _ _ _).trans hc
            replace hs := (Nat.add_assoc _ _ _).trans hs
            exact ih.2.2.1 z _ _ L (uZ σ 3 (160000 : Int32).toNatClampNeg) _ h hzk hc hs H locs ls hP hD hS (lv_sub hl [0] rfl)
          · rw [if_neg q4] at h
            refine hw_3_same ⟨hx, hb, hml, hown, hts⟩ ⟨va_cnB 3 hts g_f_X1_widen_X11_widened_SN75 rfl rfl rfl (hG.1 _ (List.mem_of_getElem? (i := 99) rfl)) (hts _ (List.mem_cons_of_mem _ (List.mem_append_left _ (List.mem_append_left _ (List.mem_of_getElem? (i := 3) rfl))))) (by decide +kernel) ⟨Nat.le_of_ble_eq_true rfl, Nat.le_of_ble_eq_true rfl⟩, (hts _ (List.mem_cons_of_mem _ (List.mem_append_left _ (List.mem_append_left _ (List.mem_of_getElem? (i := 4) rfl))))), trivial⟩ in_f_X1_widen_X1 hK hG hA hP hD hS q3 q4 hl.1 (Nat.le_of_ble_eq_true rfl) dX1_widen_23 (hts _ (List.mem_cons_of_mem _ (List.mem_append_left _ (List.mem_append_left _ (List.mem_of_getElem? (i := 1) rfl))))) dX1_widen_26 (Nat.le_trans (Nat.le_add_right _ _) (Nat.le_of_eq hc)) (Nat.le_trans (Nat.le_add_right _ _) (Nat.le_of_eq hs)) (fun H locs hP hD hS => ?_)
            exact ih.2.2.1 z _ _ L σ _ h hzk hc hs H locs ls hP hD hS (lv_sub hl [0] rfl)
      · intro z cells slots L σ r h hzk hc hs H locs ls hP hD hS hl
        rw [f_X1_widen] at h
        obtain rfl := Option.some.inj h
        subst hc
        subst hs
        exact xr_v hx hb hr hK hzk hP hD hS hlocks dX1_widen_63
      · intro z cells slots L σ r h hzk hc hs H locs ls hP hD hS hl
        rw [f_X1_widen] at h
        refine lv_aload_n hx hb dX1_widen_29 rfl (lv_at hl 0 rfl) ?_
        refine lv_aload_n hx hb dX1_widen_30 rfl (lv_at hl 0 rfl) ?_
        refine hg_0_2 hx hb hts in_f_X1_widen_X1 hown hK hP (hts _ (List.mem_cons_of_mem _ (List.mem_append_left _ (List.mem_append_left _ (List.mem_of_getElem? (i := 5) rfl))))) dX1_widen_31 ?_
        refine lv_sipush (v := 5000) hx hb dX1_widen_34 (by decide) ?_
        refine lv_sipush (v := 5000) hx hb dX1_widen_37 (by decide) ?_
        obtain ⟨q1, h⟩ := kr_ite1 h
        by_cases q2 : nI (sN σ 1) < (5000 : Int32) ∧ (sN σ 1) < (5000 : Int32).toNatClampNeg
        · rw [if_pos q2] at h
          obtain ⟨y3, hny3, hy⟩ := adR_ex h
          subst hy
          have h := hny3
          refine hw_1_new ⟨hx, hb, hml, hown, hts⟩ ⟨va_cnB 3 hts g_f_X1_widen_X11_widened_SN75 rfl rfl rfl (hG.1 _ (List.mem_of_getElem? (i := 99) rfl)) (hts _ (List.mem_cons_of_mem _ (List.mem_append_left _ (List.mem_append_left _ (List.mem_of_getElem? (i := 3) rfl))))) (by decide +kernel) ⟨Nat.le_of_ble_eq_true rfl, Nat.le_of_ble_eq_true rfl⟩, (hts _ (List.mem_cons_of_mem _ (List.mem_append_left _ (List.mem_append_left _ (List.mem_of_getElem? (i := 4) rfl))))), trivial⟩ in_f_X1_widen_X1 hK hG hA hP hD hS q1 q2 hl.1 (Nat.le_of_ble_eq_true rfl) dX1_widen_40 (hts _ (List.mem_cons_of_mem _ (List.mem_append_left _ (List.mem_append_left _ (List.mem_of_getElem? (i := 5) rfl))))) dX1_widen_43 (Nat.le_trans (Nat.add_le_add_left (Nat.le_add_right _ _) _) (Nat.le_of_eq hc)) (Nat.le_trans (Nat.add_le_add_left (Nat.le_add_right _ _) _) (Nat.le_of_eq hs)) (fun z H locs hz3 hP hD hS => ?_)
          have hzk := zk_tr hzk hz3 (by decide)
          replace hc := (Nat.add_assoc _ _ _).trans hc
          replace hs := (Nat.add_assoc _ _ _).trans hs
          exact ih.2.2.2 z _ _ L (uZ σ 1 (5000 : Int32).toNatClampNeg) _ h hzk hc hs H locs ls hP hD hS (lv_sub hl [0] rfl)
        · rw [if_neg q2] at h
          refine hw_1_same ⟨hx, hb, hml, hown, hts⟩ ⟨va_cnB 3 hts g_f_X1_widen_X11_widened_SN75 rfl rfl rfl (hG.1 _ (List.mem_of_getElem? (i := 99) rfl)) (hts _ (List.mem_cons_of_mem _ (List.mem_append_left _ (List.mem_append_left _ (List.mem_of_getElem? (i := 3) rfl))))) (by decide +kernel) ⟨Nat.le_of_ble_eq_true rfl, Nat.le_of_ble_eq_true rfl⟩, (hts _ (List.mem_cons_of_mem _ (List.mem_append_left _ (List.mem_append_left _ (List.mem_of_getElem? (i := 4) rfl))))), trivial⟩ in_f_X1_widen_X1 hK hG hA hP hD hS q1 q2 hl.1 (Nat.le_of_ble_eq_true rfl) dX1_widen_40 (hts _ (List.mem_cons_of_mem _ (List.mem_append_left _ (List.mem_append_left _ (List.mem_of_getElem? (i := 5) rfl))))) dX1_widen_43 (Nat.le_trans (Nat.le_add_right _ _) (Nat.le_of_eq hc)) (Nat.le_trans (Nat.le_add_right _ _) (Nat.le_of_eq hs)) (fun H locs hP hD hS => ?_)
          exact ih.2.2.2 z _ _ L σ _ h hzk hc hs H locs ls hP hD hS (lv_sub hl [0] rfl)
      · intro z cells slots L σ r h hzk hc hs H locs ls hP hD hS hl
        rw [f_X1_widen] at h
        refine lv_aload_n hx hb dX1_widen_46 rfl (lv_at hl 0 rfl) ?_
        refine lv_aload_n hx hb dX1_widen_47 rfl (lv_at hl 0 rfl) ?_
        refine hg_0_3 hx hb hts in_f_X1_widen_X1 hown hK hP (hts _ (List.mem_cons_of_mem _ (List.mem_append_left _ (List.mem_append_left _ (List.mem_of_getElem? (i := 6) rfl))))) dX1_widen_48 ?_
        refine lv_sipush (v := 5000) hx hb dX1_widen_51 (by decide) ?_
        refine lv_sipush (v := 5000) hx hb dX1_widen_54 (by decide) ?_
        obtain ⟨q1, h⟩ := kr_ite1 h
        by_cases q2 : nI (sN σ 2) < (5000 : Int32) ∧ (sN σ 2) < (5000 : Int32).toNatClampNeg
        · rw [if_pos q2] at h
          obtain ⟨y3, hny3, hy⟩ := adR_ex h
          subst hy
          have h := hny3
          refine hw_2_new ⟨hx, hb, hml, hown, hts⟩ ⟨va_cnB 3 hts g_f_X1_widen_X11_widened_SN75 rfl rfl rfl (hG.1 _ (List.mem_of_getElem? (i := 99) rfl)) (hts _ (List.mem_cons_of_mem _ (List.mem_append_left _ (List.mem_append_left _ (List.mem_of_getElem? (i := 3) rfl))))) (by decide +kernel) ⟨Nat.le_of_ble_eq_true rfl, Nat.le_of_ble_eq_true rfl⟩, (hts _ (List.mem_cons_of_mem _ (List.mem_append_left _ (List.mem_append_left _ (List.mem_of_getElem? (i := 4) rfl))))), trivial⟩ in_f_X1_widen_X1 hK hG hA hP hD hS q1 q2 hl.1 (Nat.le_of_ble_eq_true rfl) dX1_widen_57 (hts _ (List.mem_cons_of_mem _ (List.mem_append_left _ (List.mem_append_left _ (List.mem_of_getElem? (i := 6) rfl))))) dX1_widen_60 (Nat.le_trans (Nat.add_le_add_left (Nat.le_add_right _ _) _) (Nat.le_of_eq hc)) (Nat.le_trans (Nat.add_le_add_left (Nat.le_add_right _ _) _) (Nat.le_of_eq hs)) (fun z H locs hz3 hP hD hS => ?_)
          have hzk := zk_tr hzk hz3 (by decide)
          replace hc := (Nat.add_assoc _ _ _).trans hc
          replace hs := (Nat.add_assoc _ _ _).trans hs
          exact ih.2.1 z _ _ L (uZ σ 2 (5000 : Int32).toNatClampNeg) _ h hzk hc hs H locs ls hP hD hS (lv_sub hl [] rfl)
        · rw [if_neg q2] at h
          refine hw_2_same ⟨hx, hb, hml, hown, hts⟩ ⟨va_cnB 3 hts g_f_X1_widen_X11_widened_SN75 rfl rfl rfl (hG.1 _ (List.mem_of_getElem? (i := 99) rfl)) (hts _ (List.mem_cons_of_mem _ (List.mem_append_left _ (List.mem_append_left _ (List.mem_of_getElem? (i := 3) rfl))))) (by decide +kernel) ⟨Nat.le_of_ble_eq_true rfl, Nat.le_of_ble_eq_true rfl⟩, (hts _ (List.mem_cons_of_mem _ (List.mem_append_left _ (List.mem_append_left _ (List.mem_of_getElem? (i := 4) rfl))))), trivial⟩ in_f_X1_widen_X1 hK hG hA hP hD hS q1 q2 hl.1 (Nat.le_of_ble_eq_true rfl) dX1_widen_57 (hts _ (List.mem_cons_of_mem _ (List.mem_append_left _ (List.mem_append_left _ (List.mem_of_getElem? (i := 6) rfl))))) dX1_widen_60 (Nat.le_trans (Nat.le_add_right _ _) (Nat.le_of_eq hc)) (Nat.le_trans (Nat.le_add_right _ _) (Nat.le_of_eq hs)) (fun H locs hP hD hS => ?_)
          exact ih.2.1 z _ _ L σ _ h hzk hc hs H locs ls hP hD hS (lv_sub hl [] rfl)
  exact (blk k0).1 z 0 0 L0 σ0 r0 h0 (zk_rf _ _) ((Nat.zero_add _).trans hmc) ((Nat.zero_add _).trans hms) s.heap [] ls hP hD hS hl
/-! X11_wantRun -/
def f_X11_wantRun : Nat → Nat → LV → CS → Option RS
  | 0, _, _, _ => none
  | k + 1, 0, L, σ => if ((σ.1 7511)) = 0 then (some ((2, 0), σ, (1, 6))) else (f_X11_wantRun k 1 L σ)
  | k + 1, 1, L, σ => some ((0, 0), σ, (0, 0))
  | _ + 1, _ + 2, _, _ => none
def o_f_X11_wantRun : List Cond := [.fieldLink RX11 156 "SetHouse" "hasRun" "Z", .classLink RX11 165 "java/lang/IllegalStateException", .initialized "java/lang/IllegalStateException"]
theorem o_f_X11_wantRun_good : o_f_X11_wantRun.all goodWord = true := by decide +kernel
def p_f_X11_wantRun : List Cond := o_f_X11_wantRun ++ (((vx_at0 RX11 167 "java/lang/IllegalStateException" ["java/lang/RuntimeException", "java/lang/Exception"]).filter goodWord) ++ [])
theorem p_f_X11_wantRun_good : p_f_X11_wantRun.all goodWord = true := nb_all2 o_f_X11_wantRun_good (nb_all2 (nb_fg _) rfl)
def w_f_X11_wantRun : List Cond := .code yX11_wantRun cX11_wantRun 1 none :: (p_f_X11_wantRun ++ fC)
theorem w_f_X11_wantRun_good : w_f_X11_wantRun.all goodWord = true := nb_allc (by decide +kernel) (nb_all2 p_f_X11_wantRun_good fC_good)
theorem in_f_X11_wantRun_X11 : ∀ w ∈ wsX110, w ∈ w_f_X11_wantRun := fun _ h => List.mem_cons_of_mem _ (List.mem_append_right _ (List.mem_append_right _ (List.mem_append_right _ (List.mem_append_right _ (List.mem_append_right _ (List.mem_append_right _ (List.mem_append_right _ (List.mem_append_right _ (List.mem_append_right _ (List.mem_append_right _ (List.mem_append_right _ h)))))))))))
theorem hd_f_X11_wantRun : yX11_wantRun.cls = RX11 ∧ yX11_wantRun.cls ≠ "java/lang/invoke/MethodHandle" ∧ yX11_wantRun.cls ≠ "java/lang/invoke/VarHandle" ∧ (parseMethodDescriptor yX11_wantRun.desc).map (fun d => d.parameters.length) = some 0 := by decide +kernel
set_option maxHeartbeats 40000000 in
set_option maxRecDepth 100000 in
theorem c_f_X11_wantRun (l : Launch) (hl0 : l.stackTraces = false) (dC : Nat → ClassId) (dI : Nat → Nat → Nat) (cy : Nat → ClassId) (ek a : Nat → Nat) (k0 : Nat) (L0 : LV) (σ0 : CS) (r0 : RS) (h0 : f_X11_wantRun k0 0 L0 σ0 = some r0) (z : Nat → Nat) (sz : Nat) : vx_Met l yX11_wantRun w_f_X11_wantRun ({ frames := 6, cells := r0.2.2.1, slots := r0.2.2.2, locals := 100 }) (va_Pc [.ref (a 75)] (nInF (dC, dI) cy ek sz (vC cy a z σ0))) (xV dC dI cy a (va_A (vC cy a z σ0) sz) [] z r0) (xX dC dI cy a (va_A (vC cy a z σ0) sz) [] z r0) r0.2.2.1 r0.2.2.2 (va_A (vC cy a z σ0) sz) := by
  refine vx_ofW (cc := cX11_wantRun) (maxL := 1) (ret := none) (by decide) rfl ?_
  intro p e s m args below meth c s₁ B hml hno hv
  obtain ⟨rfl, ⟨⟨hsz, hP, hK, hD0, hG⟩, hE⟩, hT⟩ := hv
  have hx := B.exec
  have hb := B.bytes
  have hr := B.returns
  have hts := atoms_spec (ws := w_f_X11_wantRun) B.pre
  have hown : s.vm.findClass RX11 = some m.cls := findClass_of_methodNamed B.named
  have hlocks := B.notSynchronized
  subst hsz
  have hD := hD0.self (sz := s.heap.size)
  generalize hAe : va_A (vC cy a z σ0) s.heap.size = A at hD hE hT ⊢
  have hA : ∀ q : Nat, s.heap.size ≤ q → A q := fun q h => by rw [← hAe]; exact Or.inr h
  have hS : va_S A s.heap s.heap [] := va_S.rf
  have hl := lv_entry ([.ref (a 75)]) (n := 1) (Nat.le_of_ble_eq_true rfl)
  rw [lg_entry_eq]
  generalize (lg_sl ([.ref (a 75)]) ++ List.replicate (1 - (lg_sl ([.ref (a 75)])).length) Slot.unset).toArray = ls at hl ⊢
  have hl : lv_has ls 1 [(0, .ref (a 75))] := hl
  generalize hmc : r0.2.2.1 = mc
  generalize hms : r0.2.2.2 = ms
  have blk : ∀ k : Nat, (bX p l e (headSpec w_f_X11_wantRun ({ frames := 6, cells := mc, slots := ms, locals := 100 })).room s m #[.ref (a 75)] below meth c dC dI cy a A (fun r => vx_MQ below (xV dC dI cy a A [] z r) (xX dC dI cy a A [] z r) #[.ref (a 75)] s mc ms A) [] z mc ms 1 (f_X11_wantRun k 0) (fun z L => [(0, .ref (a 75))]) 0 (fun z L => [])) ∧ (bX p l e (headSpec w_f_X11_wantRun ({ frames := 6, cells := mc, slots := ms, locals := 100 })).room s m #[.ref (a 75)] below meth c dC dI cy a A (fun r => vx_MQ below (xV dC dI cy a A [] z r) (xX dC dI cy a A [] z r) #[.ref (a 75)] s mc ms A) [] z mc ms 1 (f_X11_wantRun k 1) (fun z L => []) 15 (fun z L => [])) := by
    intro k
    induction k with
    | zero => exact ⟨fun z c1 c2 L σ r h => (by cases h), fun z c1 c2 L σ r h => (by cases h)⟩
    | succ k ih =>
      refine ⟨?_, ?_⟩
      · intro z cells slots L σ r h hzk hc hs H locs ls hP hD hS hl
        rw [f_X11_wantRun] at h
        refine lv_aload_n hx hb dX11_wantRun_0 rfl (lv_at hl 0 rfl) ?_
        refine hg_75_11 hx hb hts in_f_X11_wantRun_X11 hown hK hP (hts _ (List.mem_cons_of_mem _ (List.mem_append_left _ (List.mem_append_left _ (List.mem_of_getElem? (i := 0) rfl))))) dX11_wantRun_1 ?_
        refine lv_if_ne (tgt := 15) hx hb dX11_wantRun_4 (by decide) (fun c1 => ?_) (fun c1 => ?_)
        · rw [if_neg c1] at h
          exact ih.2 z _ _ L σ _ h hzk hc hs H locs ls hP hD hS (lv_sub hl [] rfl)
        · rw [if_pos c1] at h
          obtain rfl := Option.some.inj h
          exact vx_throw0 (cls := "java/lang/IllegalStateException") (names := ["java/lang/RuntimeException", "java/lang/Exception"]) hx hb hl0 hown (by decide) (by decide) (hts _ (List.mem_cons_of_mem _ (List.mem_append_left _ (List.mem_append_left _ (List.mem_of_getElem? (i := 1) rfl))))) (hts _ (List.mem_cons_of_mem _ (List.mem_append_left _ (List.mem_append_left _ (List.mem_of_getElem? (i := 2) rfl))))) (vx_hat (B := [.castable "java/lang/IllegalStateException" "java/lang/IllegalStateException", .declares (Bundle.init0 "java/lang/RuntimeException"), .declares (Bundle.init0 "java/lang/Exception"), .declares (Bundle.init0 Bundle.tN)]) (fun w h => hts w (List.mem_cons_of_mem _ (List.mem_append_left _ (List.mem_append_right _ (List.mem_append_left _ h))))) (by decide +kernel) (vx_c (va_Nw.use (by decide +kernel) (hT.2.2.1 _ (List.mem_of_getElem? (i := 0) rfl))) (vx_c (va_Nw.use (by decide +kernel) (hT.2.2.1 _ (List.mem_of_getElem? (i := 4) rfl))) (vx_c (va_Nw.use (by decide +kernel) (hT.2.2.1 _ (List.mem_of_getElem? (i := 5) rfl))) (vx_c (va_Nw.use (by decide +kernel) (hT.2.2.1 _ (List.mem_of_getElem? (i := 6) rfl))) vx_n))))) (fun w h => List.all_eq_true.mp (by decide +kernel : (Cond.classLink RX11 165 "java/lang/IllegalStateException" :: Cond.initialized "java/lang/IllegalStateException" :: (vx_at0 RX11 167 "java/lang/IllegalStateException" ["java/lang/RuntimeException", "java/lang/Exception"])).all vx_ot = true) w h) hT.1 hT.2.1 hS (hl.1.trans hml.symm) dX11_wantRun_7 dX11_wantRun_10 dX11_wantRun_11 dX11_wantRun_14 (fun x h => (hno x h).elim) (Nat.le_of_ble_eq_true rfl) (Nat.le_of_ble_eq_true rfl) (Nat.le_of_eq hc) (Nat.le_of_eq hs) hlocks (xt_x (n := 2) (by decide) hK hzk hP hD hS) hS.2.2 (Nat.le_of_eq hc) (Nat.le_of_eq hs)
      · intro z cells slots L σ r h hzk hc hs H locs ls hP hD hS hl
        rw [f_X11_wantRun] at h
        obtain rfl := Option.some.inj h
        subst hc
        subst hs
        exact xr_v hx hb hr hK hzk hP hD hS hlocks dX11_wantRun_15
  exact (blk k0).1 z 0 0 L0 σ0 r0 h0 (zk_rf _ _) ((Nat.zero_add _).trans hmc) ((Nat.zero_add _).trans hms) s.heap [] ls hP hD hS hl
/-! X3_isRoomFor -/
def f_X3_isRoomFor : Nat → Nat → LV → CS → Option RS
  | 0, _, _, _ => none
  | k + 1, 0, L, σ => if ¬ (91000 : Int32) < 0 ∧ (91000 : Int32).toNatClampNeg < 134217728 ∧ (sN σ 20) < 2147483648 then (if nI (sN σ 20) < ((((σ.1 1902)) + ((L.1 1)))) ∧ (sN σ 20) < (91000 : Int32).toNatClampNeg then (adR (1, (91000 : Int32).toNatClampNeg) (f_X3_isRoomFor k 1 L (uZ σ 20 (91000 : Int32).toNatClampNeg))) else (f_X3_isRoomFor k 1 L σ)) else none
  | k + 1, 1, L, σ => if ((((σ.1 1902)) + ((L.1 1)))) ≤ ((Int32.ofNat (sN σ 20))) then (f_X3_isRoomFor k 2 L σ) else (f_X3_isRoomFor k 3 L (uI σ 1813 6))
  | k + 1, 2, L, σ => some ((0, 1), σ, (0, 0))
  | k + 1, 3, L, σ => some ((0, 0), (uI σ 1812 1), (0, 0))
  | _ + 1, _ + 4, _, _ => none
def o_f_X3_isRoomFor : List Cond := [.fieldLink RX3 18 "SetHouse$Machine" "stack" "[I", .fieldLink RX3 14 "SetHouse$Machine" "run" "LSetHouse$Run;", .constant RX3 305 (91000), .initialized RX11, .static yX11_widened, .fieldLink RX3 149 "SetHouse$Machine" "trouble" "I", .fieldLink RX3 225 "SetHouse$Machine" "halted" "Z"]
theorem o_f_X3_isRoomFor_good : o_f_X3_isRoomFor.all goodWord = true := by decide +kernel
def p_f_X3_isRoomFor : List Cond := o_f_X3_isRoomFor ++ ((.code yX11_widened cX11_widened 3 (some (.array .int)) :: p_f_X11_widened) ++ [])
theorem p_f_X3_isRoomFor_good : p_f_X3_isRoomFor.all goodWord = true := nb_all2 o_f_X3_isRoomFor_good (nb_all2 (nb_allc (by decide +kernel) p_f_X11_widened_good) rfl)
def w_f_X3_isRoomFor : List Cond := .code yX3_isRoomFor cX3_isRoomFor 2 (some .boolean) :: (p_f_X3_isRoomFor ++ fC)
theorem w_f_X3_isRoomFor_good : w_f_X3_isRoomFor.all goodWord = true := nb_allc (by decide +kernel) (nb_all2 p_f_X3_isRoomFor_good fC_good)
theorem in_f_X3_isRoomFor_X3 : ∀ w ∈ wsX30, w ∈ w_f_X3_isRoomFor := fun _ h => List.mem_cons_of_mem _ (List.mem_append_right _ (List.mem_append_right _ (List.mem_append_right _ (List.mem_append_right _ (List.mem_append_left _ h)))))
theorem in_f_X3_isRoomFor_X8 : ∀ w ∈ wsX80, w ∈ w_f_X3_isRoomFor := fun _ h => List.mem_cons_of_mem _ (List.mem_append_right _ (List.mem_append_right _ (List.mem_append_right _ (List.mem_append_right _ (List.mem_append_right _ (List.mem_append_right _ (List.mem_append_right _ (List.mem_append_right _ (List.mem_append_left _ h)))))))))
theorem hd_f_X3_isRoomFor : yX3_isRoomFor.cls = RX3 ∧ yX3_isRoomFor.cls ≠ "java/lang/invoke/MethodHandle" ∧ yX3_isRoomFor.cls ≠ "java/lang/invoke/VarHandle" ∧ (parseMethodDescriptor yX3_isRoomFor.desc).map (fun d => d.parameters.length) = some 1 := by decide +kernel
theorem gg_f_X3_isRoomFor_X11_widened : GoodIn w_f_X3_isRoomFor w_f_X11_widened := goodIn_sub (fun w h => (List.mem_cons.mp h).elim (fun e => (List.mem_cons_of_mem _ (List.mem_append_left _ (List.mem_append_right _ (List.mem_append_left _ (List.mem_cons.mpr (Or.inl e))))))) (fun h => (List.mem_append.mp h).elim (fun h => (List.mem_cons_of_mem _ (List.mem_append_left _ (List.mem_append_right _ (List.mem_append_left _ (List.mem_cons_of_mem _ h)))))) (fun h => List.mem_cons_of_mem _ (List.mem_append_right _ h)))) w_f_X11_widened_good
theorem g_f_X3_isRoomFor_X11_widened_SN306 : GoodIn w_f_X3_isRoomFor w_f_X11_widened := gg_f_X3_isRoomFor_X11_widened
set_option maxHeartbeats 40000000 in
set_option maxRecDepth 100000 in
theorem c_f_X3_isRoomFor (l : Launch) (hl0 : l.stackTraces = false) (dC : Nat → ClassId) (dI : Nat → Nat → Nat) (cy : Nat → ClassId) (ek a : Nat → Nat) (k0 : Nat) (L0 : LV) (σ0 : CS) (r0 : RS) (h0 : f_X3_isRoomFor k0 0 L0 σ0 = some r0) (z : Nat → Nat) (sz : Nat) : vx_Met l yX3_isRoomFor w_f_X3_isRoomFor ({ frames := 3, cells := r0.2.2.1, slots := r0.2.2.2, locals := 114 }) (va_Pc [.ref (a 18), .int (L0.1 1)] (nInF (dC, dI) cy ek sz (vC cy a z σ0))) (xI dC dI cy a (va_A (vC cy a z σ0) sz) [20] z r0) (xX dC dI cy a (va_A (vC cy a z σ0) sz) [20] z r0) r0.2.2.1 r0.2.2.2 (va_A (vC cy a z σ0) sz) := by
  refine vx_ofW (cc := cX3_isRoomFor) (maxL := 2) (ret := (some .boolean)) (by decide) rfl ?_
  intro p e s m args below meth c s₁ B hml hno hv
  obtain ⟨rfl, ⟨⟨hsz, hP, hK, hD0, hG⟩, hE⟩, hT⟩ := hv
  have hx := B.exec
  have hb := B.bytes
  have hr := B.returns
  have hts := atoms_spec (ws := w_f_X3_isRoomFor) B.pre
  have hown : s.vm.findClass RX3 = some m.cls := findClass_of_methodNamed B.named
  have hlocks := B.notSynchronized
  subst hsz
  have hD := hD0.self (sz := s.heap.size)
  generalize hAe : va_A (vC cy a z σ0) s.heap.size = A at hD hE hT ⊢
  have hA : ∀ q : Nat, s.heap.size ≤ q → A q := fun q h => by rw [← hAe]; exact Or.inr h
  have hS : va_S A s.heap s.heap [] := va_S.rf
  have hl := lv_entry ([.ref (a 18), .int (L0.1 1)]) (n := 2) (Nat.le_of_ble_eq_true rfl)
  rw [lg_entry_eq]
  generalize (lg_sl ([.ref (a 18), .int (L0.1 1)]) ++ List.replicate (2 - (lg_sl ([.ref (a 18), .int (L0.1 1)])).length) Slot.unset).toArray = ls at hl ⊢
  have hl : lv_has ls 2 [(0, .ref (a 18)), (1, .int (L0.1 1))] := hl
  generalize hmc : r0.2.2.1 = mc
  generalize hms : r0.2.2.2 = ms
  have blk : ∀ k : Nat, (bX p l e (headSpec w_f_X3_isRoomFor ({ frames := 3, cells := mc, slots := ms, locals := 114 })).room s m #[.ref (a 18), .int (L0.1 1)] below meth c dC dI cy a A (fun r => vx_MQ below (xI dC dI cy a A [20] z r) (xX dC dI cy a A [20] z r) #[.ref (a 18), .int (L0.1 1)] s mc ms A) [20] z mc ms 2 (f_X3_isRoomFor k 0) (fun z L => [(0, .ref (a 18)), (1, .int (L.1 1))]) 0 (fun z L => [])) ∧ (bX p l e (headSpec w_f_X3_isRoomFor ({ frames := 3, cells := mc, slots := ms, locals := 114 })).room s m #[.ref (a 18), .int (L0.1 1)] below meth c dC dI cy a A (fun r => vx_MQ below (xI dC dI cy a A [20] z r) (xX dC dI cy a A [20] z r) #[.ref (a 18), .int (L0.1 1)] s mc ms A) [20] z mc ms 2 (f_X3_isRoomFor k 1) (fun z L => [(0, .ref (a 18)), (1, .int (L.1 1))]) 23 (fun z L => [])) ∧ (bX p l e (headSpec w_f_X3_isRoomFor ({ frames := 3, cells := mc, slots := ms, locals := 114 })).room s m #[.ref (a 18), .int (L0.1 1)] below meth c dC dI cy a A (fun r => vx_MQ below (xI dC dI cy a A [20] z r) (xX dC dI cy a A [20] z r) #[.ref (a 18), .int (L0.1 1)] s mc ms A) [20] z mc ms 2 (f_X3_isRoomFor k 2) (fun z L => []) 53 (fun z L => [])) ∧ (bX p l e (headSpec w_f_X3_isRoomFor ({ frames := 3, cells := mc, slots := ms, locals := 114 })).room s m #[.ref (a 18), .int (L0.1 1)] below meth c dC dI cy a A (fun r => vx_MQ below (xI dC dI cy a A [20] z r) (xX dC dI cy a A [20] z r) #[.ref (a 18), .int (L0.1 1)] s mc ms A) [20] z mc ms 2 (f_X3_isRoomFor k 3) (fun z L => [(0, .ref (a 18))]) 46 (fun z L => [])) := by
    intro k
    induction k with
    | zero => exact ⟨fun z c1 c2 L σ r h => (by cases h), fun z c1 c2 L σ r h => (by cases h), fun z c1 c2 L σ r h => (by cases h), fun z c1 c2 L σ r h => (by cases h)⟩
    | succ k ih =>
      refine ⟨?_, ?_, ?_, ?_⟩
      · intro z cells slots L σ r h hzk hc hs H locs ls hP hD hS hl
        rw [f_X3_isRoomFor] at h
        refine lv_aload_n hx hb dX3_isRoomFor_0 rfl (lv_at hl 0 rfl) ?_
        refine lv_aload_n hx hb dX3_isRoomFor_1 rfl (lv_at hl 0 rfl) ?_
        refine hg_18_7 hx hb hts in_f_X3_isRoomFor_X3 hown hK hP (hts _ (List.mem_cons_of_mem _ (List.mem_append_left _ (List.mem_append_left _ (List.mem_of_getElem? (i := 0) rfl))))) dX3_isRoomFor_2 ?_
        refine lv_aload_n hx hb dX3_isRoomFor_5 rfl (lv_at hl 0 rfl) ?_
        refine hg_18_5 hx hb hts in_f_X3_isRoomFor_X3 hown hK hP (hts _ (List.mem_cons_of_mem _ (List.mem_append_left _ (List.mem_append_left _ (List.mem_of_getElem? (i := 1) rfl))))) dX3_isRoomFor_6 ?_
        refine hg_19_2n hx hb hts in_f_X3_isRoomFor_X8 hown hK hP (va_Nw.use rfl (hG.1 _ (List.mem_of_getElem? (i := 10) rfl))) dX3_isRoomFor_9 ?_
        refine lv_iload_n hx hb dX3_isRoomFor_12 rfl (lv_at hl 1 rfl) ?_
        refine lv_iadd hx hb dX3_isRoomFor_13 ?_
        refine lv_ldcw (v := 91000) hx hb hown (hts _ (List.mem_cons_of_mem _ (List.mem_append_left _ (List.mem_append_left _ (List.mem_of_getElem? (i := 2) rfl))))) dX3_isRoomFor_14 ?_
        obtain ⟨q1, h⟩ := kr_ite1 h
        by_cases q2 : nI (sN σ 20) < ((((σ.1 1902)) + ((L.1 1)))) ∧ (sN σ 20) < (91000 : Int32).toNatClampNeg
        · rw [if_pos q2] at h
          obtain ⟨y3, hny3, hy⟩ := adR_ex h
          subst hy
          have h := hny3
          refine hw_20_new ⟨hx, hb, hml, hown, hts⟩ ⟨va_cnB 3 hts g_f_X3_isRoomFor_X11_widened_SN306 rfl rfl rfl (hG.1 _ (List.mem_of_getElem? (i := 98) rfl)) (hts _ (List.mem_cons_of_mem _ (List.mem_append_left _ (List.mem_append_left _ (List.mem_of_getElem? (i := 3) rfl))))) (by decide +kernel) ⟨Nat.le_of_ble_eq_true rfl, Nat.le_of_ble_eq_true rfl⟩, (hts _ (List.mem_cons_of_mem _ (List.mem_append_left _ (List.mem_append_left _ (List.mem_of_getElem? (i := 4) rfl))))), trivial⟩ in_f_X3_isRoomFor_X3 hK hG hA hP hD hS q1 q2 hl.1 (Nat.le_of_ble_eq_true rfl) dX3_isRoomFor_17 (hts _ (List.mem_cons_of_mem _ (List.mem_append_left _ (List.mem_append_left _ (List.mem_of_getElem? (i := 0) rfl))))) dX3_isRoomFor_20 (Nat.le_trans (Nat.add_le_add_left (Nat.le_add_right _ _) _) (Nat.le_of_eq hc)) (Nat.le_trans (Nat.add_le_add_left (Nat.le_add_right _ _) _) (Nat.le_of_eq hs)) (fun z H locs hz3 hP hD hS => ?_)
          have hzk := zk_tr hzk hz3 (by decide)
          replace hc := (Nat.add_assoc _ _ _).trans hc
          replace hs := (Nat.add_assoc _ _ _).trans hs
          exact ih.2.1 z _ _ L (uZ σ 20 (91000 : Int32).toNatClampNeg) _ h hzk hc hs H locs ls hP hD hS (lv_sub hl [0, 1] rfl)
        · rw [if_neg q2] at h
          refine hw_20_same ⟨hx, hb, hml, hown, hts⟩ ⟨va_cnB 3 hts g_f_X3_isRoomFor_X11_widened_SN306 rfl rfl rfl (hG.1 _ (List.mem_of_getElem? (i := 98) rfl)) (hts _ (List.mem_cons_of_mem _ (List.mem_append_left _ (List.mem_append_left _ (List.mem_of_getElem? (i := 3) rfl))))) (by decide +kernel) ⟨Nat.le_of_ble_eq_true rfl, Nat.le_of_ble_eq_true rfl⟩, (hts _ (List.mem_cons_of_mem _ (List.mem_append_left _ (List.mem_append_left _ (List.mem_of_getElem? (i := 4) rfl))))), trivial⟩ in_f_X3_isRoomFor_X3 hK hG hA hP hD hS q1 q2 hl.1 (Nat.le_of_ble_eq_true rfl) dX3_isRoomFor_17 (hts _ (List.mem_cons_of_mem _ (List.mem_append_left _ (List.mem_append_left _ (List.mem_of_getElem? (i := 0) rfl))))) dX3_isRoomFor_20 (Nat.le_trans (Nat.le_add_right _ _) (Nat.le_of_eq hc)) (Nat.le_trans (Nat.le_add_right _ _) (Nat.le_of_eq hs)) (fun H locs hP hD hS => ?_)
          exact ih.2.1 z _ _ L σ _ h hzk hc hs H locs ls hP hD hS (lv_sub hl [0, 1] rfl)
      · intro z cells slots L σ r h hzk hc hs H locs ls hP hD hS hl
        rw [f_X3_isRoomFor] at h
        refine lv_aload_n hx hb dX3_isRoomFor_23 rfl (lv_at hl 0 rfl) ?_
        refine hg_18_5 hx hb hts in_f_X3_isRoomFor_X3 hown hK hP (hts _ (List.mem_cons_of_mem _ (List.mem_append_left _ (List.mem_append_left _ (List.mem_of_getElem? (i := 1) rfl))))) dX3_isRoomFor_24 ?_
        refine hg_19_2n hx hb hts in_f_X3_isRoomFor_X8 hown hK hP (va_Nw.use rfl (hG.1 _ (List.mem_of_getElem? (i := 10) rfl))) dX3_isRoomFor_27 ?_
        refine lv_iload_n hx hb dX3_isRoomFor_30 rfl (lv_at hl 1 rfl) ?_
        refine lv_iadd hx hb dX3_isRoomFor_31 ?_
        refine lv_aload_n hx hb dX3_isRoomFor_32 rfl (lv_at hl 0 rfl) ?_
        refine hg_18_7 hx hb hts in_f_X3_isRoomFor_X3 hown hK hP (hts _ (List.mem_cons_of_mem _ (List.mem_append_left _ (List.mem_append_left _ (List.mem_of_getElem? (i := 0) rfl))))) dX3_isRoomFor_33 ?_
        refine hn_20 hx hb hK hP dX3_isRoomFor_36 ?_
        refine lv_icmp_le (tgt := 53) hx hb dX3_isRoomFor_37 (by decide) (fun c1 => ?_) (fun c1 => ?_)
        · rw [if_pos c1] at h
          exact ih.2.2.1 z _ _ L σ _ h hzk hc hs H locs ls hP hD hS (lv_sub hl [] rfl)
        · rw [if_neg c1] at h
          refine lv_aload_n hx hb dX3_isRoomFor_40 rfl (lv_at hl 0 rfl) ?_
          refine lv_bipush (v := 6) hx hb dX3_isRoomFor_41 (by decide) ?_
          refine hp_18_13 hx hb hts in_f_X3_isRoomFor_X3 hown hK hP hD hS (hts _ (List.mem_cons_of_mem _ (List.mem_append_left _ (List.mem_append_left _ (List.mem_of_getElem? (i := 5) rfl))))) dX3_isRoomFor_43 (fun H locs hP hD hS => ?_)
          exact ih.2.2.2 z _ _ L (uI σ 1813 6) _ h hzk hc hs H locs ls hP hD hS (lv_sub hl [0] rfl)
      · intro z cells slots L σ r h hzk hc hs H locs ls hP hD hS hl
        rw [f_X3_isRoomFor] at h
        refine lv_iconst (v := 1) hx hb dX3_isRoomFor_53 (by decide) ?_
        obtain rfl := Option.some.inj h
        subst hc
        subst hs
        exact xr_z (Or.inr rfl) hx hb hr hK hzk hP hD hS hlocks dX3_isRoomFor_54
      · intro z cells slots L σ r h hzk hc hs H locs ls hP hD hS hl
        rw [f_X3_isRoomFor] at h
        refine lv_aload_n hx hb dX3_isRoomFor_46 rfl (lv_at hl 0 rfl) ?_
        refine lv_iconst (v := 1) hx hb dX3_isRoomFor_47 (by decide) ?_
        refine hp_18_12 hx hb hts in_f_X3_isRoomFor_X3 hown hK hP hD hS (hts _ (List.mem_cons_of_mem _ (List.mem_append_left _ (List.mem_append_left _ (List.mem_of_getElem? (i := 6) rfl))))) (Or.inr rfl) dX3_isRoomFor_48 (fun H locs hP hD hS => ?_)
        refine lv_iconst (v := 0) hx hb dX3_isRoomFor_51 (by decide) ?_
        obtain rfl := Option.some.inj h
        subst hc
        subst hs
        exact xr_z (Or.inl rfl) hx hb hr hK hzk hP hD hS hlocks dX3_isRoomFor_52
  exact (blk k0).1 z 0 0 L0 σ0 r0 h0 (zk_rf _ _) ((Nat.zero_add _).trans hmc) ((Nat.zero_add _).trans hms) s.heap [] ls hP hD hS hl
/-! X3_pushAll -/
def f_X3_pushAll : Nat → Nat → LV → CS → Option RS
  | 0, _, _, _ => none
  | k + 1, 0, L, σ => ox (f_X3_isRoomFor k 0 (lI lZ 1 ((L.1 2))) σ) (fun r1 => if r1.1.2 = 0 then (f_X3_pushAll k 1 L r1.2.1) else (f_X3_pushAll k 2 (lI L 3 0) r1.2.1))
  | k + 1, 1, L, σ => some ((0, 0), σ, (0, 0))
  | k + 1, 2, L, σ => if ((L.1 2)) ≤ ((L.1 3)) then (f_X3_pushAll k 3 L σ) else (if ¬ (((((σ.1 1902)) + ((L.1 3)))) < 0 ∨ (sN σ 20) ≤ ((((σ.1 1902)) + ((L.1 3)))).toNatClampNeg) then (f_X3_pushAll k 2 (lI L 3 ((((L.1 3)) + 1))) (uA σ 20 ((((σ.1 1902)) + ((L.1 3)))).toNatClampNeg ((L.1 1)))) else none)
  | k + 1, 3, L, σ => f_X3_pushAll k 1 L (uI σ 1902 ((((σ.1 1902)) + ((L.1 2)))))
  | _ + 1, _ + 4, _, _ => none
def o_f_X3_pushAll : List Cond := [.methodLink RX3 301 yX3_isRoomFor, .instanceMethod yX3_isRoomFor, .selects RX3 yX3_isRoomFor yX3_isRoomFor, .initialized RX3, .fieldLink RX3 18 "SetHouse$Machine" "stack" "[I", .fieldLink RX3 14 "SetHouse$Machine" "run" "LSetHouse$Run;"]
theorem o_f_X3_pushAll_good : o_f_X3_pushAll.all goodWord = true := by decide +kernel
def p_f_X3_pushAll : List Cond := o_f_X3_pushAll ++ ((.code yX3_isRoomFor cX3_isRoomFor 2 (some .boolean) :: p_f_X3_isRoomFor) ++ [])
theorem p_f_X3_pushAll_good : p_f_X3_pushAll.all goodWord = true := nb_all2 o_f_X3_pushAll_good (nb_all2 (nb_allc (by decide +kernel) p_f_X3_isRoomFor_good) rfl)
def w_f_X3_pushAll : List Cond := .code yX3_pushAll cX3_pushAll 4 none :: (p_f_X3_pushAll ++ fC)
theorem w_f_X3_pushAll_good : w_f_X3_pushAll.all goodWord = true := nb_allc (by decide +kernel) (nb_all2 p_f_X3_pushAll_good fC_good)
theorem in_f_X3_pushAll_X3 : ∀ w ∈ wsX30, w ∈ w_f_X3_pushAll := fun _ h => List.mem_cons_of_mem _ (List.mem_append_right _ (List.mem_append_right _ (List.mem_append_right _ (List.mem_append_right _ (List.mem_append_left _ h)))))
theorem in_f_X3_pushAll_X8 : ∀ w ∈ wsX80, w ∈ w_f_X3_pushAll := fun _ h => List.mem_cons_of_mem _ (List.mem_append_right _ (List.mem_append_right _ (List.mem_append_right _ (List.mem_append_right _ (List.mem_append_right _ (List.mem_append_right _ (List.mem_append_right _ (List.mem_append_right _ (List.mem_append_left _ h)))))))))
theorem hd_f_X3_pushAll : yX3_pushAll.cls = RX3 ∧ yX3_pushAll.cls ≠ "java/lang/invoke/MethodHandle" ∧ yX3_pushAll.cls ≠ "java/lang/invoke/VarHandle" ∧ (parseMethodDescriptor yX3_pushAll.desc).map (fun d => d.parameters.length) = some 2 := by decide +kernel
theorem gg_f_X3_pushAll_X3_isRoomFor : GoodIn w_f_X3_pushAll w_f_X3_isRoomFor := goodIn_sub (fun w h => (List.mem_cons.mp h).elim (fun e => (List.mem_cons_of_mem _ (List.mem_append_left _ (List.mem_append_right _ (List.mem_append_left _ (List.mem_cons.mpr (Or.inl e))))))) (fun h => (List.mem_append.mp h).elim (fun h => (List.mem_cons_of_mem _ (List.mem_append_left _ (List.mem_append_right _ (List.mem_append_left _ (List.mem_cons_of_mem _ h)))))) (fun h => List.mem_cons_of_mem _ (List.mem_append_right _ h)))) w_f_X3_isRoomFor_good
theorem g_f_X3_pushAll_X3_isRoomFor_V301 : GoodIn w_f_X3_pushAll (wsV RX3 301 RX3 yX3_isRoomFor w_f_X3_isRoomFor) := goodIn_app (nb_g4 (List.mem_cons_of_mem _ (List.mem_append_left _ (List.mem_append_left _ (List.mem_of_getElem? (i := 0) rfl)))) (List.mem_cons_of_mem _ (List.mem_append_left _ (List.mem_append_left _ (List.mem_of_getElem? (i := 1) rfl)))) (List.mem_cons_of_mem _ (List.mem_append_left _ (List.mem_append_left _ (List.mem_of_getElem? (i := 2) rfl)))) (List.mem_cons_of_mem _ (List.mem_append_left _ (List.mem_append_left _ (List.mem_of_getElem? (i := 3) rfl)))) (by decide +kernel)) gg_f_X3_pushAll_X3_isRoomFor
set_option maxHeartbeats 40000000 in
set_option maxRecDepth 100000 in
theorem c_f_X3_pushAll (l : Launch) (hl0 : l.stackTraces = false) (dC : Nat → ClassId) (dI : Nat → Nat → Nat) (cy : Nat → ClassId) (ek a : Nat → Nat) (k0 : Nat) (L0 : LV) (σ0 : CS) (r0 : RS) (h0 : f_X3_pushAll k0 0 L0 σ0 = some r0) (z : Nat → Nat) (sz : Nat) : vx_Met l yX3_pushAll w_f_X3_pushAll ({ frames := 4, cells := r0.2.2.1, slots := r0.2.2.2, locals := 135 }) (va_Pc [.ref (a 18), .int (L0.1 1), .int (L0.1 2)] (nInF (dC, dI) cy ek sz (vC cy a z σ0))) (xV dC dI cy a (va_A (vC cy a z σ0) sz) [20] z r0) (xX dC dI cy a (va_A (vC cy a z σ0) sz) [20] z r0) r0.2.2.1 r0.2.2.2 (va_A (vC cy a z σ0) sz) := by
  refine vx_ofW (cc := cX3_pushAll) (maxL := 4) (ret := none) (by decide) rfl ?_
  intro p e s m args below meth c s₁ B hml hno hv
  obtain ⟨rfl, ⟨⟨hsz, hP, hK, hD0, hG⟩, hE⟩, hT⟩ := hv
  have hx := B.exec
  have hb := B.bytes
  have hr := B.returns
  have hts := atoms_spec (ws := w_f_X3_pushAll) B.pre
  have hown : s.vm.findClass RX3 = some m.cls := findClass_of_methodNamed B.named
  have hlocks := B.notSynchronized
  subst hsz
  have hD := hD0.self (sz := s.heap.size)
  generalize hAe : va_A (vC cy a z σ0) s.heap.size = A at hD hE hT ⊢
  have hA : ∀ q : Nat, s.heap.size ≤ q → A q := fun q h => by rw [← hAe]; exact Or.inr h
  have hS : va_S A s.heap s.heap [] := va_S.rf
  have hl := lv_entry ([.ref (a 18), .int (L0.1 1), .int (L0.1 2)]) (n := 4) (Nat.le_of_ble_eq_true rfl)
  rw [lg_entry_eq]
  generalize (lg_sl ([.ref (a 18), .int (L0.1 1), .int (L0.1 2)]) ++ List.replicate (4 - (lg_sl ([.ref (a 18), .int (L0.1 1), .int (L0.1 2)])).length) Slot.unset).toArray = ls at hl ⊢
  have hl : lv_has ls 4 [(0, .ref (a 18)), (1, .int (L0.1 1)), (2, .int (L0.1 2))] := hl
  generalize hmc : r0.2.2.1 = mc
  generalize hms : r0.2.2.2 = ms
  have blk : ∀ k : Nat, (bX p l e (headSpec w_f_X3_pushAll ({ frames := 4, cells := mc, slots := ms, locals := 135 })).room s m #[.ref (a 18), .int (L0.1 1), .int (L0.1 2)] below meth c dC dI cy a A (fun r => vx_MQ below (xV dC dI cy a A [20] z r) (xX dC dI cy a A [20] z r) #[.ref (a 18), .int (L0.1 1), .int (L0.1 2)] s mc ms A) [20] z mc ms 4 (f_X3_pushAll k 0) (fun z L => [(0, .ref (a 18)), (1, .int (L.1 1)), (2, .int (L.1 2))]) 0 (fun z L => [])) ∧ (bX p l e (headSpec w_f_X3_pushAll ({ frames := 4, cells := mc, slots := ms, locals := 135 })).room s m #[.ref (a 18), .int (L0.1 1), .int (L0.1 2)] below meth c dC dI cy a A (fun r => vx_MQ below (xV dC dI cy a A [20] z r) (xX dC dI cy a A [20] z r) #[.ref (a 18), .int (L0.1 1), .int (L0.1 2)] s mc ms A) [20] z mc ms 4 (f_X3_pushAll k 1) (fun z L => []) 52 (fun z L => [])) ∧ (bX p l e (headSpec w_f_X3_pushAll ({ frames := 4, cells := mc, slots := ms, locals := 135 })).room s m #[.ref (a 18), .int (L0.1 1), .int (L0.1 2)] below meth c dC dI cy a A (fun r => vx_MQ below (xV dC dI cy a A [20] z r) (xX dC dI cy a A [20] z r) #[.ref (a 18), .int (L0.1 1), .int (L0.1 2)] s mc ms A) [20] z mc ms 4 (f_X3_pushAll k 2) (fun z L => [(0, .ref (a 18)), (1, .int (L.1 1)), (2, .int (L.1 2)), (3, .int (L.1 3))]) 10 (fun z L => [])) ∧ (bX p l e (headSpec w_f_X3_pushAll ({ frames := 4, cells := mc, slots := ms, locals := 135 })).room s m #[.ref (a 18), .int (L0.1 1), .int (L0.1 2)] below meth c dC dI cy a A (fun r => vx_MQ below (xV dC dI cy a A [20] z r) (xX dC dI cy a A [20] z r) #[.ref (a 18), .int (L0.1 1), .int (L0.1 2)] s mc ms A) [20] z mc ms 4 (f_X3_pushAll k 3) (fun z L => [(0, .ref (a 18)), (2, .int (L.1 2))]) 36 (fun z L => [])) := by
    intro k
    induction k with
    | zero => exact ⟨fun z c1 c2 L σ r h => (by cases h), fun z c1 c2 L σ r h => (by cases h), fun z c1 c2 L σ r h => (by cases h), fun z c1 c2 L σ r h => (by cases h)⟩
    | succ k ih =>
      refine ⟨?_, ?_, ?_, ?_⟩
      · intro z cells slots L σ r h hzk hc hs H locs ls hP hD hS hl
        rw [f_X3_pushAll] at h
        refine lv_aload_n hx hb dX3_pushAll_0 rfl (lv_at hl 0 rfl) ?_
        refine lv_iload_n hx hb dX3_pushAll_1 rfl (lv_at hl 2 rfl) ?_
        obtain ⟨r1, hc1, hle1, h9⟩ := ox_ex h
        clear h
        refine kx_i (vx_runV (As := [.int (L.1 2)]) (rest := []) ⟨hx, hb, hml, hown, hts⟩ (c_f_X3_isRoomFor l hl0 dC dI cy ek a k (lI lZ 1 ((L.1 2))) σ r1 hc1 z H.size) (cwV 1 hts g_f_X3_pushAll_X3_isRoomFor_V301 rfl rfl rfl hd_f_X3_isRoomFor ⟨Nat.le_of_ble_eq_true rfl, Nat.le_of_ble_eq_true rfl⟩) ⟨nb_blindF, va_recv hK hP (ci := 3) (q0 := 18) rfl rfl, (kx_pre hK hG hE hT hA hP hD hS)⟩ rfl rfl hl.1 rfl (lv_room (Nat.le_of_ble_eq_true rfl)) dX3_pushAll_2 ⟨Nat.le_trans (Nat.add_le_add_left hle1.1 _) (Nat.le_of_eq hc), Nat.le_trans (Nat.add_le_add_left hle1.2 _) (Nat.le_of_eq hs)⟩) hK hA hzk hP hD hS (by decide) hno hlocks ?_
        rcases h9 with ⟨h00, y1, hny1, hy⟩ | ⟨h00, hy⟩
        · subst hy
          have h := hny1
          refine Or.inl ⟨h00, fun z H locs hz1 hzk hP hD hS => ?_⟩
          replace hc := (Nat.add_assoc _ _ _).trans hc
          replace hs := (Nat.add_assoc _ _ _).trans hs
          refine lv_if_eq (tgt := 52) hx hb dX3_pushAll_5 (by decide) (fun c2 => ?_) (fun c2 => ?_)
          · rw [if_pos c2] at h
            exact ih.2.1 z _ _ L r1.2.1 _ h hzk hc hs H locs ls hP hD hS (lv_sub hl [] rfl)
          · rw [if_neg c2] at h
            refine lv_iconst (v := 0) hx hb dX3_pushAll_8 (by decide) ?_
            refine lv_istore_n (lv' := [(3, .int 0), (0, .ref (a 18)), (1, .int (L.1 1)), (2, .int (L.1 2))]) hx hb dX3_pushAll_9 rfl hl (by decide) rfl (fun ls hl => ?_)
            exact ih.2.2.1 z _ _ (lI L 3 0) r1.2.1 _ h hzk hc hs H locs ls hP hD hS (lv_sub hl [1, 2, 3, 0] rfl)
        · subst hy
          exact Or.inr ⟨h00, rfl, hc, hs⟩
      · intro z cells slots L σ r h hzk hc hs H locs ls hP hD hS hl
        rw [f_X3_pushAll] at h
        obtain rfl := Option.some.inj h
        subst hc
        subst hs
        exact xr_v hx hb hr hK hzk hP hD hS hlocks dX3_pushAll_52
      · intro z cells slots L σ r h hzk hc hs H locs ls hP hD hS hl
        rw [f_X3_pushAll] at h
        refine lv_iload_n hx hb dX3_pushAll_10 rfl (lv_at hl 3 rfl) ?_
        refine lv_iload_n hx hb dX3_pushAll_11 rfl (lv_at hl 2 rfl) ?_
        refine lv_icmp_ge (tgt := 36) hx hb dX3_pushAll_12 (by decide) (fun c1 => ?_) (fun c1 => ?_)
        · rw [if_pos c1] at h
          exact ih.2.2.2 z _ _ L σ _ h hzk hc hs H locs ls hP hD hS (lv_sub hl [0, 2] rfl)
        · rw [if_neg c1] at h
          refine lv_aload_n hx hb dX3_pushAll_15 rfl (lv_at hl 0 rfl) ?_
          refine hg_18_7 hx hb hts in_f_X3_pushAll_X3 hown hK hP (hts _ (List.mem_cons_of_mem _ (List.mem_append_left _ (List.mem_append_left _ (List.mem_of_getElem? (i := 4) rfl))))) dX3_pushAll_16 ?_
          refine lv_aload_n hx hb dX3_pushAll_19 rfl (lv_at hl 0 rfl) ?_
          refine hg_18_5 hx hb hts in_f_X3_pushAll_X3 hown hK hP (hts _ (List.mem_cons_of_mem _ (List.mem_append_left _ (List.mem_append_left _ (List.mem_of_getElem? (i := 5) rfl))))) dX3_pushAll_20 ?_
          refine hg_19_2n hx hb hts in_f_X3_pushAll_X8 hown hK hP (va_Nw.use rfl (hG.1 _ (List.mem_of_getElem? (i := 10) rfl))) dX3_pushAll_23 ?_
          refine lv_iload_n hx hb dX3_pushAll_26 rfl (lv_at hl 3 rfl) ?_
          refine lv_iadd hx hb dX3_pushAll_27 ?_
          refine lv_iload_n hx hb dX3_pushAll_28 rfl (lv_at hl 1 rfl) ?_
          obtain ⟨q2, h⟩ := kr_ite1 h
          refine hs_20 hx hb hK hP hD hS q2 dX3_pushAll_29 (fun H locs hP hD hS => ?_)
          refine lv_iinc (v := ((L.1 3)) + 1) (lv' := [(3, .int (((L.1 3)) + 1)), (0, .ref (a 18)), (1, .int (L.1 1)), (2, .int (L.1 2))]) hx hb dX3_pushAll_30 hl (k := 3) rfl rfl (by decide) rfl (fun ls hl => ?_)
          refine lv_goto (tgt := 10) hx hb dX3_pushAll_33 (by decide) ?_
          exact ih.2.2.1 z _ _ (lI L 3 ((((L.1 3)) + 1))) (uA σ 20 ((((σ.1 1902)) + ((L.1 3)))).toNatClampNeg ((L.1 1))) _ h hzk hc hs H locs ls hP hD hS (lv_sub hl [1, 2, 3, 0] rfl)
      · intro z cells slots L σ r h hzk hc hs H locs ls hP hD hS hl
        rw [f_X3_pushAll] at h
        refine lv_aload_n hx hb dX3_pushAll_36 rfl (lv_at hl 0 rfl) ?_
        refine hg_18_5 hx hb hts in_f_X3_pushAll_X3 hown hK hP (hts _ (List.mem_cons_of_mem _ (List.mem_append_left _ (List.mem_append_left _ (List.mem_of_getElem? (i := 5) rfl))))) dX3_pushAll_37 ?_
        refine lv_aload_n hx hb dX3_pushAll_40 rfl (lv_at hl 0 rfl) ?_
        refine hg_18_5 hx hb hts in_f_X3_pushAll_X3 hown hK hP (hts _ (List.mem_cons_of_mem _ (List.mem_append_left _ (List.mem_append_left _ (List.mem_of_getElem? (i := 5) rfl))))) dX3_pushAll_41 ?_
        refine hg_19_2n hx hb hts in_f_X3_pushAll_X8 hown hK hP (va_Nw.use rfl (hG.1 _ (List.mem_of_getElem? (i := 10) rfl))) dX3_pushAll_44 ?_
        refine lv_iload_n hx hb dX3_pushAll_47 rfl (lv_at hl 1 rfl) ?_
        refine lv_iadd hx hb dX3_pushAll_48 ?_
        refine hp_19_2n hx hb hts in_f_X3_pushAll_X8 hown hK hP hD hS (va_Nw.use rfl (hG.1 _ (List.mem_of_getElem? (i := 10) rfl))) dX3_pushAll_49 (fun H locs hP hD hS => ?_)
        exact ih.2.1 z _ _ L (uI σ 1902 ((((σ.1 1902)) + ((L.1 2))))) _ h hzk hc hs H locs ls hP hD hS (lv_sub hl [] rfl)
  exact (blk k0).1 z 0 0 L0 σ0 r0 h0 (zk_rf _ _) ((Nat.zero_add _).trans hmc) ((Nat.zero_add _).trans hms) s.heap [] ls hP hD hS hl
/-! X3_restart -/
def f_X3_restart : Nat → Nat → LV → CS → Option RS
  | 0, _, _, _ => none
  | k + 1, 0, L, σ => oP (sPr σ) (fun b1 => f_X3_restart k 1 L (uI (uI (uI σ 1900 ((σ.1 (fP b1 2)))) 1901 0) 1902 0))
  | k + 1, 1, L, σ => f_X3_restart k 2 L (uI (uI (uI σ 1903 0) 1904 ((-1))) 1905 0)
  | k + 1, 2, L, σ => f_X3_restart k 3 L (uI (uI (uI σ 1906 0) 1907 0) 1908 0)
  | k + 1, 3, L, σ => oP (sPr σ) (fun b1 => if ¬ ((0 : Int32) < 0 ∨ 42 ≤ (0 : Int32).toNatClampNeg) then (f_X3_restart k 4 L (uI (uI (uI σ 1909 ((σ.2.2.1 (pR17 b1) (0 : Int32).toNatClampNeg))) 1910 0) 1911 0)) else none)
  | k + 1, 4, L, σ => f_X3_restart k 5 L (uI (uI (uI σ 1912 0) 1913 0) 1914 0)
  | k + 1, 5, L, σ => ox (f_X3_pushAll k 0 (lI (lI lZ 1 ((-268435456))) 2 4) (uL (uI σ 1915 0) 1916 (((uI σ 1915 0).2.1 1817)))) (fun r1 => oP (sPr r1.2.1) (fun b2 => if ¬ ((0 : Int32) < 0 ∨ 42 ≤ (0 : Int32).toNatClampNeg) then (ox (f_X3_pushAll k 0 (lI (lI lZ 1 ((-2147483648))) 2 ((r1.2.1.2.2.1 (pR18 b2) (0 : Int32).toNatClampNeg))) r1.2.1) (fun r4 => some ((0, 0), r4.2.1, (0, 0)))) else none))
  | _ + 1, _ + 6, _, _ => none
def o_f_X3_restart : List Cond := [.fieldLink RX3 14 "SetHouse$Machine" "run" "LSetHouse$Run;", .fieldLink RX3 58 "SetHouse$Machine" "program" "LSetHouse$Program;", .fieldLink RX3 62 "SetHouse$Machine" "firstSeed" "J", .constant RX3 131 (-268435456), .methodLink RX3 132 yX3_pushAll, .instanceMethod yX3_pushAll, .selects RX3 yX3_pushAll yX3_pushAll, .initialized RX3, .constant RX3 136 (-2147483648)]
theorem o_f_X3_restart_good : o_f_X3_restart.all goodWord = true := by decide +kernel
def p_f_X3_restart : List Cond := o_f_X3_restart ++ ((.code yX3_pushAll cX3_pushAll 4 none :: p_f_X3_pushAll) ++ [])
theorem p_f_X3_restart_good : p_f_X3_restart.all goodWord = true := nb_all2 o_f_X3_restart_good (nb_all2 (nb_allc (by decide +kernel) p_f_X3_pushAll_good) rfl)
def w_f_X3_restart : List Cond := .code yX3_restart cX3_restart 1 none :: (p_f_X3_restart ++ fC)
theorem w_f_X3_restart_good : w_f_X3_restart.all goodWord = true := nb_allc (by decide +kernel) (nb_all2 p_f_X3_restart_good fC_good)
theorem in_f_X3_restart_X3 : ∀ w ∈ wsX30, w ∈ w_f_X3_restart := fun _ h => List.mem_cons_of_mem _ (List.mem_append_right _ (List.mem_append_right _ (List.mem_append_right _ (List.mem_append_right _ (List.mem_append_left _ h)))))
theorem in_f_X3_restart_X7 : ∀ w ∈ wsX70, w ∈ w_f_X3_restart := fun _ h => List.mem_cons_of_mem _ (List.mem_append_right _ (List.mem_append_right _ (List.mem_append_right _ (List.mem_append_right _ (List.mem_append_right _ (List.mem_append_right _ (List.mem_append_right _ (List.mem_append_left _ h))))))))
theorem in_f_X3_restart_X8 : ∀ w ∈ wsX80, w ∈ w_f_X3_restart := fun _ h => List.mem_cons_of_mem _ (List.mem_append_right _ (List.mem_append_right _ (List.mem_append_right _ (List.mem_append_right _ (List.mem_append_right _ (List.mem_append_right _ (List.mem_append_right _ (List.mem_append_right _ (List.mem_append_left _ h)))))))))
theorem hd_f_X3_restart : yX3_restart.cls = RX3 ∧ yX3_restart.cls ≠ "java/lang/invoke/MethodHandle" ∧ yX3_restart.cls ≠ "java/lang/invoke/VarHandle" ∧ (parseMethodDescriptor yX3_restart.desc).map (fun d => d.parameters.length) = some 0 := by decide +kernel
theorem gg_f_X3_restart_X3_pushAll : GoodIn w_f_X3_restart w_f_X3_pushAll := goodIn_sub (fun w h => (List.mem_cons.mp h).elim (fun e => (List.mem_cons_of_mem _ (List.mem_append_left _ (List.mem_append_right _ (List.mem_append_left _ (List.mem_cons.mpr (Or.inl e))))))) (fun h => (List.mem_append.mp h).elim (fun h => (List.mem_cons_of_mem _ (List.mem_append_left _ (List.mem_append_right _ (List.mem_append_left _ (List.mem_cons_of_mem _ h)))))) (fun h => List.mem_cons_of_mem _ (List.mem_append_right _ h)))) w_f_X3_pushAll_good
theorem g_f_X3_restart_X3_pushAll_V132 : GoodIn w_f_X3_restart (wsV RX3 132 RX3 yX3_pushAll w_f_X3_pushAll) := goodIn_app (nb_g4 (List.mem_cons_of_mem _ (List.mem_append_left _ (List.mem_append_left _ (List.mem_of_getElem? (i := 4) rfl)))) (List.mem_cons_of_mem _ (List.mem_append_left _ (List.mem_append_left _ (List.mem_of_getElem? (i := 5) rfl)))) (List.mem_cons_of_mem _ (List.mem_append_left _ (List.mem_append_left _ (List.mem_of_getElem? (i := 6) rfl)))) (List.mem_cons_of_mem _ (List.mem_append_left _ (List.mem_append_left _ (List.mem_of_getElem? (i := 7) rfl)))) (by decide +kernel)) gg_f_X3_restart_X3_pushAll
set_option maxHeartbeats 40000000 in
set_option maxRecDepth 100000 in
theorem c_f_X3_restart (l : Launch) (hl0 : l.stackTraces = false) (dC : Nat → ClassId) (dI : Nat → Nat → Nat) (cy : Nat → ClassId) (ek a : Nat → Nat) (k0 : Nat) (L0 : LV) (σ0 : CS) (r0 : RS) (h0 : f_X3_restart k0 0 L0 σ0 = some r0) (z : Nat → Nat) (sz : Nat) : vx_Met l yX3_restart w_f_X3_restart ({ frames := 5, cells := r0.2.2.1, slots := r0.2.2.2, locals := 158 }) (va_Pc [.ref (a 18)] (nInF (dC, dI) cy ek sz (vC cy a z σ0))) (xV dC dI cy a (va_A (vC cy a z σ0) sz) [20] z r0) (xX dC dI cy a (va_A (vC cy a z σ0) sz) [20] z r0) r0.2.2.1 r0.2.2.2 (va_A (vC cy a z σ0) sz) := by
  refine vx_ofW (cc := cX3_restart) (maxL := 1) (ret := none) (by decide) rfl ?_
  intro p e s m args below meth c s₁ B hml hno hv
  obtain ⟨rfl, ⟨⟨hsz, hP, hK, hD0, hG⟩, hE⟩, hT⟩ := hv
  have hx := B.exec
  have hb := B.bytes
  have hr := B.returns
  have hts := atoms_spec (ws := w_f_X3_restart) B.pre
  have hown : s.vm.findClass RX3 = some m.cls := findClass_of_methodNamed B.named
  have hlocks := B.notSynchronized
  subst hsz
  have hD := hD0.self (sz := s.heap.size)
  generalize hAe : va_A (vC cy a z σ0) s.heap.size = A at hD hE hT ⊢
  have hA : ∀ q : Nat, s.heap.size ≤ q → A q := fun q h => by rw [← hAe]; exact Or.inr h
  have hS : va_S A s.heap s.heap [] := va_S.rf
  have hl := lv_entry ([.ref (a 18)]) (n := 1) (Nat.le_of_ble_eq_true rfl)
  rw [lg_entry_eq]
  generalize (lg_sl ([.ref (a 18)]) ++ List.replicate (1 - (lg_sl ([.ref (a 18)])).length) Slot.unset).toArray = ls at hl ⊢
  have hl : lv_has ls 1 [(0, .ref (a 18))] := hl
  generalize hmc : r0.2.2.1 = mc
  generalize hms : r0.2.2.2 = ms
  have blk : ∀ k : Nat, (bX p l e (headSpec w_f_X3_restart ({ frames := 5, cells := mc, slots := ms, locals := 158 })).room s m #[.ref (a 18)] below meth c dC dI cy a A (fun r => vx_MQ below (xV dC dI cy a A [20] z r) (xX dC dI cy a A [20] z r) #[.ref (a 18)] s mc ms A) [20] z mc ms 1 (f_X3_restart k 0) (fun z L => [(0, .ref (a 18))]) 0 (fun z L => [])) ∧ (bX p l e (headSpec w_f_X3_restart ({ frames := 5, cells := mc, slots := ms, locals := 158 })).room s m #[.ref (a 18)] below meth c dC dI cy a A (fun r => vx_MQ below (xV dC dI cy a A [20] z r) (xX dC dI cy a A [20] z r) #[.ref (a 18)] s mc ms A) [20] z mc ms 1 (f_X3_restart k 1) (fun z L => [(0, .ref (a 18))]) 30 (fun z L => [])) ∧ (bX p l e (headSpec w_f_X3_restart ({ frames := 5, cells := mc, slots := ms, locals := 158 })).room s m #[.ref (a 18)] below meth c dC dI cy a A (fun r => vx_MQ below (xV dC dI cy a A [20] z r) (xX dC dI cy a A [20] z r) #[.ref (a 18)] s mc ms A) [20] z mc ms 1 (f_X3_restart k 2) (fun z L => [(0, .ref (a 18))]) 54 (fun z L => [])) ∧ (bX p l e (headSpec w_f_X3_restart ({ frames := 5, cells := mc, slots := ms, locals := 158 })).room s m #[.ref (a 18)] below meth c dC dI cy a A (fun r => vx_MQ below (xV dC dI cy a A [20] z r) (xX dC dI cy a A [20] z r) #[.ref (a 18)] s mc ms A) [20] z mc ms 1 (f_X3_restart k 3) (fun z L => [(0, .ref (a 18))]) 78 (fun z L => [])) ∧ (bX p l e (headSpec w_f_X3_restart ({ frames := 5, cells := mc, slots := ms, locals := 158 })).room s m #[.ref (a 18)] below meth c dC dI cy a A (fun r => vx_MQ below (xV dC dI cy a A [20] z r) (xX dC dI cy a A [20] z r) #[.ref (a 18)] s mc ms A) [20] z mc ms 1 (f_X3_restart k 4) (fun z L => [(0, .ref (a 18))]) 110 (fun z L => [])) ∧ (bX p l e (headSpec w_f_X3_restart ({ frames := 5, cells := mc, slots := ms, locals := 158 })).room s m #[.ref (a 18)] below meth c dC dI cy a A (fun r => vx_MQ below (xV dC dI cy a A [20] z r) (xX dC dI cy a A [20] z r) #[.ref (a 18)] s mc ms A) [20] z mc ms 1 (f_X3_restart k 5) (fun z L => [(0, .ref (a 18))]) 134 (fun z L => [])) := by
    intro k
    induction k with
    | zero => exact ⟨fun z c1 c2 L σ r h => (by cases h), fun z c1 c2 L σ r h => (by cases h), fun z c1 c2 L σ r h => (by cases h), fun z c1 c2 L σ r h => (by cases h), fun z c1 c2 L σ r h => (by cases h), fun z c1 c2 L σ r h => (by cases h)⟩
    | succ k ih =>
      refine ⟨?_, ?_, ?_, ?_, ?_, ?_⟩
      · intro z cells slots L σ r h hzk hc hs H locs ls hP hD hS hl
        rw [f_X3_restart] at h
        refine lv_aload_n hx hb dX3_restart_0 rfl (lv_at hl 0 rfl) ?_
        refine hg_18_5 hx hb hts in_f_X3_restart_X3 hown hK hP (hts _ (List.mem_cons_of_mem _ (List.mem_append_left _ (List.mem_append_left _ (List.mem_of_getElem? (i := 0) rfl))))) dX3_restart_1 ?_
        refine lv_aload_n hx hb dX3_restart_4 rfl (lv_at hl 0 rfl) ?_
        obtain ⟨b1, hb1, h⟩ := oP_ex h
        refine hgq_18_6 hx hb hts in_f_X3_restart_X3 hown hK hP (hts _ (List.mem_cons_of_mem _ (List.mem_append_left _ (List.mem_append_left _ (List.mem_of_getElem? (i := 1) rfl))))) hb1 dX3_restart_5 ?_
        refine hg_P_2n b1 hx hb hts in_f_X3_restart_X7 hown hK hP (va_Nw.use rfl (hG.1 _ (List.mem_of_getElem? (i := 71) rfl))) dX3_restart_8 ?_
        refine hp_19_0n hx hb hts in_f_X3_restart_X8 hown hK hP hD hS (va_Nw.use rfl (hG.1 _ (List.mem_of_getElem? (i := 8) rfl))) dX3_restart_11 (fun H locs hP hD hS => ?_)
        refine lv_aload_n hx hb dX3_restart_14 rfl (lv_at hl 0 rfl) ?_
        refine hg_18_5 hx hb hts in_f_X3_restart_X3 hown hK hP (hts _ (List.mem_cons_of_mem _ (List.mem_append_left _ (List.mem_append_left _ (List.mem_of_getElem? (i := 0) rfl))))) dX3_restart_15 ?_
        refine lv_iconst (v := 0) hx hb dX3_restart_18 (by decide) ?_
        refine hp_19_1n hx hb hts in_f_X3_restart_X8 hown hK hP hD hS (va_Nw.use rfl (hG.1 _ (List.mem_of_getElem? (i := 9) rfl))) dX3_restart_19 (fun H locs hP hD hS => ?_)
        refine lv_aload_n hx hb dX3_restart_22 rfl (lv_at hl 0 rfl) ?_
        refine hg_18_5 hx hb hts in_f_X3_restart_X3 hown hK hP (hts _ (List.mem_cons_of_mem _ (List.mem_append_left _ (List.mem_append_left _ (List.mem_of_getElem? (i := 0) rfl))))) dX3_restart_23 ?_
        refine lv_iconst (v := 0) hx hb dX3_restart_26 (by decide) ?_
        refine hp_19_2n hx hb hts in_f_X3_restart_X8 hown hK hP hD hS (va_Nw.use rfl (hG.1 _ (List.mem_of_getElem? (i := 10) rfl))) dX3_restart_27 (fun H locs hP hD hS => ?_)
        exact ih.2.1 z _ _ L (uI (uI (uI σ 1900 ((σ.1 (fP b1 2)))) 1901 0) 1902 0) _ h hzk hc hs H locs ls hP hD hS (lv_sub hl [0] rfl)
      · intro z cells slots L σ r h hzk hc hs H locs ls hP hD hS hl
        rw [f_X3_restart] at h
        refine lv_aload_n hx hb dX3_restart_30 rfl (lv_at hl 0 rfl) ?_
        refine hg_18_5 hx hb hts in_f_X3_restart_X3 hown hK hP (hts _ (List.mem_cons_of_mem _ (List.mem_append_left _ (List.mem_append_left _ (List.mem_of_getElem? (i := 0) rfl))))) dX3_restart_31 ?_
        refine lv_iconst (v := 0) hx hb dX3_restart_34 (by decide) ?_
        refine hp_19_3n hx hb hts in_f_X3_restart_X8 hown hK hP hD hS (va_Nw.use rfl (hG.1 _ (List.mem_of_getElem? (i := 12) rfl))) dX3_restart_35 (fun H locs hP hD hS => ?_)
        refine lv_aload_n hx hb dX3_restart_38 rfl (lv_at hl 0 rfl) ?_
        refine hg_18_5 hx hb hts in_f_X3_restart_X3 hown hK hP (hts _ (List.mem_cons_of_mem _ (List.mem_append_left _ (List.mem_append_left _ (List.mem_of_getElem? (i := 0) rfl))))) dX3_restart_39 ?_
        refine lv_iconst (v := (-1)) hx hb dX3_restart_42 (by decide) ?_
        refine hp_19_4n hx hb hts in_f_X3_restart_X8 hown hK hP hD hS (va_Nw.use rfl (hG.1 _ (List.mem_of_getElem? (i := 15) rfl))) dX3_restart_43 (fun H locs hP hD hS => ?_)
        refine lv_aload_n hx hb dX3_restart_46 rfl (lv_at hl 0 rfl) ?_
        refine hg_18_5 hx hb hts in_f_X3_restart_X3 hown hK hP (hts _ (List.mem_cons_of_mem _ (List.mem_append_left _ (List.mem_append_left _ (List.mem_of_getElem? (i := 0) rfl))))) dX3_restart_47 ?_
        refine lv_iconst (v := 0) hx hb dX3_restart_50 (by decide) ?_
        refine hp_19_5n hx hb hts in_f_X3_restart_X8 hown hK hP hD hS (va_Nw.use rfl (hG.1 _ (List.mem_of_getElem? (i := 17) rfl))) dX3_restart_51 (fun H locs hP hD hS => ?_)
        exact ih.2.2.1 z _ _ L (uI (uI (uI σ 1903 0) 1904 ((-1))) 1905 0) _ h hzk hc hs H locs ls hP hD hS (lv_sub hl [0] rfl)
      · intro z cells slots L σ r h hzk hc hs H locs ls hP hD hS hl
        rw [f_X3_restart] at h
        refine lv_aload_n hx hb dX3_restart_54 rfl (lv_at hl 0 rfl) ?_
        refine hg_18_5 hx hb hts in_f_X3_restart_X3 hown hK hP (hts _ (List.mem_cons_of_mem _ (List.mem_append_left _ (List.mem_append_left _ (List.mem_of_getElem? (i := 0) rfl))))) dX3_restart_55 ?_
        refine lv_iconst (v := 0) hx hb dX3_restart_58 (by decide) ?_
        refine hp_19_6n hx hb hts in_f_X3_restart_X8 hown hK hP hD hS (va_Nw.use rfl (hG.1 _ (List.mem_of_getElem? (i := 19) rfl))) dX3_restart_59 (fun H locs hP hD hS => ?_)
        refine lv_aload_n hx hb dX3_restart_62 rfl (lv_at hl 0 rfl) ?_
        refine hg_18_5 hx hb hts in_f_X3_restart_X3 hown hK hP (hts _ (List.mem_cons_of_mem _ (List.mem_append_left _ (List.mem_append_left _ (List.mem_of_getElem? (i := 0) rfl))))) dX3_restart_63 ?_
        refine lv_iconst (v := 0) hx hb dX3_restart_66 (by decide) ?_
        refine hp_19_7n hx hb hts in_f_X3_restart_X8 hown hK hP hD hS (va_Nw.use rfl (hG.1 _ (List.mem_of_getElem? (i := 21) rfl))) dX3_restart_67 (fun H locs hP hD hS => ?_)
        refine lv_aload_n hx hb dX3_restart_70 rfl (lv_at hl 0 rfl) ?_
        refine hg_18_5 hx hb hts in_f_X3_restart_X3 hown hK hP (hts _ (List.mem_cons_of_mem _ (List.mem_append_left _ (List.mem_append_left _ (List.mem_of_getElem? (i := 0) rfl))))) dX3_restart_71 ?_
        refine lv_iconst (v := 0) hx hb dX3_restart_74 (by decide) ?_
        refine hp_19_8n hx hb hts in_f_X3_restart_X8 hown hK hP hD hS (va_Nw.use rfl (hG.1 _ (List.mem_of_getElem? (i := 23) rfl))) dX3_restart_75 (fun H locs hP hD hS => ?_)
        exact ih.2.2.2.1 z _ _ L (uI (uI (uI σ 1906 0) 1907 0) 1908 0) _ h hzk hc hs H locs ls hP hD hS (lv_sub hl [0] rfl)
      · intro z cells slots L σ r h hzk hc hs H locs ls hP hD hS hl
        rw [f_X3_restart] at h
        refine lv_aload_n hx hb dX3_restart_78 rfl (lv_at hl 0 rfl) ?_
        refine hg_18_5 hx hb hts in_f_X3_restart_X3 hown hK hP (hts _ (List.mem_cons_of_mem _ (List.mem_append_left _ (List.mem_append_left _ (List.mem_of_getElem? (i := 0) rfl))))) dX3_restart_79 ?_
        refine lv_aload_n hx hb dX3_restart_82 rfl (lv_at hl 0 rfl) ?_
        obtain ⟨b1, hb1, h⟩ := oP_ex h
        refine hgq_18_6 hx hb hts in_f_X3_restart_X3 hown hK hP (hts _ (List.mem_cons_of_mem _ (List.mem_append_left _ (List.mem_append_left _ (List.mem_of_getElem? (i := 1) rfl))))) hb1 dX3_restart_83 ?_
        refine hg_P_17n b1 hx hb hts in_f_X3_restart_X7 hown hK hP (va_Nw.use rfl (hG.1 _ (List.mem_of_getElem? (i := 90) rfl))) dX3_restart_86 ?_
        refine lv_iconst (v := 0) hx hb dX3_restart_89 (by decide) ?_
        obtain ⟨q2, h⟩ := kr_ite1 h
        refine hl_P17 b1 hx hb hK hP q2 dX3_restart_90 ?_
        refine hp_19_9n hx hb hts in_f_X3_restart_X8 hown hK hP hD hS (va_Nw.use rfl (hG.1 _ (List.mem_of_getElem? (i := 25) rfl))) dX3_restart_91 (fun H locs hP hD hS => ?_)
        refine lv_aload_n hx hb dX3_restart_94 rfl (lv_at hl 0 rfl) ?_
        refine hg_18_5 hx hb hts in_f_X3_restart_X3 hown hK hP (hts _ (List.mem_cons_of_mem _ (List.mem_append_left _ (List.mem_append_left _ (List.mem_of_getElem? (i := 0) rfl))))) dX3_restart_95 ?_
        refine lv_iconst (v := 0) hx hb dX3_restart_98 (by decide) ?_
        refine hp_19_10n hx hb hts in_f_X3_restart_X8 hown hK hP hD hS (va_Nw.use rfl (hG.1 _ (List.mem_of_getElem? (i := 28) rfl))) dX3_restart_99 (fun H locs hP hD hS => ?_)
        refine lv_aload_n hx hb dX3_restart_102 rfl (lv_at hl 0 rfl) ?_
        refine hg_18_5 hx hb hts in_f_X3_restart_X3 hown hK hP (hts _ (List.mem_cons_of_mem _ (List.mem_append_left _ (List.mem_append_left _ (List.mem_of_getElem? (i := 0) rfl))))) dX3_restart_103 ?_
        refine lv_iconst (v := 0) hx hb dX3_restart_106 (by decide) ?_
        refine hp_19_11n hx hb hts in_f_X3_restart_X8 hown hK hP hD hS (va_Nw.use rfl (hG.1 _ (List.mem_of_getElem? (i := 29) rfl))) dX3_restart_107 (fun H locs hP hD hS => ?_)
        exact ih.2.2.2.2.1 z _ _ L (uI (uI (uI σ 1909 ((σ.2.2.1 (pR17 b1) (0 : Int32).toNatClampNeg))) 1910 0) 1911 0) _ h hzk hc hs H locs ls hP hD hS (lv_sub hl [0] rfl)
      · intro z cells slots L σ r h hzk hc hs H locs ls hP hD hS hl
        rw [f_X3_restart] at h
        refine lv_aload_n hx hb dX3_restart_110 rfl (lv_at hl 0 rfl) ?_
        refine hg_18_5 hx hb hts in_f_X3_restart_X3 hown hK hP (hts _ (List.mem_cons_of_mem _ (List.mem_append_left _ (List.mem_append_left _ (List.mem_of_getElem? (i := 0) rfl))))) dX3_restart_111 ?_
        refine lv_iconst (v := 0) hx hb dX3_restart_114 (by decide) ?_
        refine hp_19_12n hx hb hts in_f_X3_restart_X8 hown hK hP hD hS (va_Nw.use rfl (hG.1 _ (List.mem_of_getElem? (i := 32) rfl))) dX3_restart_115 (fun H locs hP hD hS => ?_)
        refine lv_aload_n hx hb dX3_restart_118 rfl (lv_at hl 0 rfl) ?_
        refine hg_18_5 hx hb hts in_f_X3_restart_X3 hown hK hP (hts _ (List.mem_cons_of_mem _ (List.mem_append_left _ (List.mem_append_left _ (List.mem_of_getElem? (i := 0) rfl))))) dX3_restart_119 ?_
        refine lv_iconst (v := 0) hx hb dX3_restart_122 (by decide) ?_
        refine hp_19_13n hx hb hts in_f_X3_restart_X8 hown hK hP hD hS (va_Nw.use rfl (hG.1 _ (List.mem_of_getElem? (i := 34) rfl))) dX3_restart_123 (fun H locs hP hD hS => ?_)
        refine lv_aload_n hx hb dX3_restart_126 rfl (lv_at hl 0 rfl) ?_
        refine hg_18_5 hx hb hts in_f_X3_restart_X3 hown hK hP (hts _ (List.mem_cons_of_mem _ (List.mem_append_left _ (List.mem_append_left _ (List.mem_of_getElem? (i := 0) rfl))))) dX3_restart_127 ?_
        refine lv_iconst (v := 0) hx hb dX3_restart_130 (by decide) ?_
        refine hp_19_14n hx hb hts in_f_X3_restart_X8 hown hK hP hD hS (va_Nw.use rfl (hG.1 _ (List.mem_of_getElem? (i := 36) rfl))) dX3_restart_131 (fun H locs hP hD hS => ?_)
        exact ih.2.2.2.2.2 z _ _ L (uI (uI (uI σ 1912 0) 1913 0) 1914 0) _ h hzk hc hs H locs ls hP hD hS (lv_sub hl [0] rfl)
      · intro z cells slots L σ r h hzk hc hs H locs ls hP hD hS hl
        rw [f_X3_restart] at h
        refine lv_aload_n hx hb dX3_restart_134 rfl (lv_at hl 0 rfl) ?_
        refine hg_18_5 hx hb hts in_f_X3_restart_X3 hown hK hP (hts _ (List.mem_cons_of_mem _ (List.mem_append_left _ (List.mem_append_left _ (List.mem_of_getElem? (i := 0) rfl))))) dX3_restart_135 ?_
        refine lv_iconst (v := 0) hx hb dX3_restart_138 (by decide) ?_
        refine hp_19_15n hx hb hts in_f_X3_restart_X8 hown hK hP hD hS (va_Nw.use rfl (hG.1 _ (List.mem_of_getElem? (i := 38) rfl))) dX3_restart_139 (fun H locs hP hD hS => ?_)
        refine lv_aload_n hx hb dX3_restart_142 rfl (lv_at hl 0 rfl) ?_
        refine hg_18_5 hx hb hts in_f_X3_restart_X3 hown hK hP (hts _ (List.mem_cons_of_mem _ (List.mem_append_left _ (List.mem_append_left _ (List.mem_of_getElem? (i := 0) rfl))))) dX3_restart_143 ?_
        refine lv_aload_n hx hb dX3_restart_146 rfl (lv_at hl 0 rfl) ?_
        refine hg_18_17 hx hb hts in_f_X3_restart_X3 hown hK hP (hts _ (List.mem_cons_of_mem _ (List.mem_append_left _ (List.mem_append_left _ (List.mem_of_getElem? (i := 2) rfl))))) dX3_restart_147 ?_
        refine hp_19_16n hx hb hts in_f_X3_restart_X8 hown hK hP hD hS (va_Nw.use rfl (hG.1 _ (List.mem_of_getElem? (i := 40) rfl))) dX3_restart_150 (fun H locs hP hD hS => ?_)
        refine lv_aload_n hx hb dX3_restart_153 rfl (lv_at hl 0 rfl) ?_
        refine lv_ldc (v := (-268435456)) hx hb hown (hts _ (List.mem_cons_of_mem _ (List.mem_append_left _ (List.mem_append_left _ (List.mem_of_getElem? (i := 3) rfl))))) dX3_restart_154 ?_
        refine lv_iconst (v := 4) hx hb dX3_restart_156 (by decide) ?_
        obtain ⟨r1, hc1, hle1, h9⟩ := ox_ex h
        clear h
        refine kx_v (vx_runV (As := [.int (-268435456), .int 4]) (rest := []) ⟨hx, hb, hml, hown, hts⟩ (c_f_X3_pushAll l hl0 dC dI cy ek a k (lI (lI lZ 1 ((-268435456))) 2 4) (uL (uI σ 1915 0) 1916 (((uI σ 1915 0).2.1 1817))) r1 hc1 z H.size) (cwV 2 hts g_f_X3_restart_X3_pushAll_V132 rfl rfl rfl hd_f_X3_pushAll ⟨Nat.le_of_ble_eq_true rfl, Nat.le_of_ble_eq_true rfl⟩) ⟨nb_blindF, va_recv hK hP (ci := 3) (q0 := 18) rfl rfl, (kx_pre hK hG hE hT hA hP hD hS)⟩ rfl rfl hl.1 rfl (lv_room (Nat.le_of_ble_eq_true rfl)) dX3_restart_157 ⟨Nat.le_trans (Nat.add_le_add_left hle1.1 _) (Nat.le_of_eq hc), Nat.le_trans (Nat.add_le_add_left hle1.2 _) (Nat.le_of_eq hs)⟩) hK hA hzk hP hD hS (by decide) hno hlocks ?_
        rcases h9 with ⟨h00, y1, hny1, hy⟩ | ⟨h00, hy⟩
        · subst hy
          have h := hny1
          refine Or.inl ⟨h00, fun z H locs hz1 hzk hP hD hS => ?_⟩
          replace hc := (Nat.add_assoc _ _ _).trans hc
          replace hs := (Nat.add_assoc _ _ _).trans hs
          refine lv_aload_n hx hb dX3_restart_160 rfl (lv_at hl 0 rfl) ?_
          refine lv_ldc (v := (-2147483648)) hx hb hown (hts _ (List.mem_cons_of_mem _ (List.mem_append_left _ (List.mem_append_left _ (List.mem_of_getElem? (i := 8) rfl))))) dX3_restart_161 ?_
          refine lv_aload_n hx hb dX3_restart_163 rfl (lv_at hl 0 rfl) ?_
          obtain ⟨b2, hb2, h⟩ := oP_ex h
          refine hgq_18_6 hx hb hts in_f_X3_restart_X3 hown hK hP (hts _ (List.mem_cons_of_mem _ (List.mem_append_left _ (List.mem_append_left _ (List.mem_of_getElem? (i := 1) rfl))))) hb2 dX3_restart_164 ?_
          refine hg_P_18n b2 hx hb hts in_f_X3_restart_X7 hown hK hP (va_Nw.use rfl (hG.1 _ (List.mem_of_getElem? (i := 92) rfl))) dX3_restart_167 ?_
          refine lv_iconst (v := 0) hx hb dX3_restart_170 (by decide) ?_
          obtain ⟨q3, h⟩ := kr_ite1 h
          refine hl_P18 b2 hx hb hK hP q3 dX3_restart_171 ?_
          obtain ⟨r4, hc4, hle4, h9⟩ := ox_ex h
          clear h
          refine kx_v (r := y1) (vx_runV (As := [.int (-2147483648), .int (r1.2.1.2.2.1 (pR18 b2) (0 : Int32).toNatClampNeg)]) (rest := []) ⟨hx, hb, hml, hown, hts⟩ (c_f_X3_pushAll l hl0 dC dI cy ek a k (lI (lI lZ 1 ((-2147483648))) 2 ((r1.2.1.2.2.1 (pR18 b2) (0 : Int32).toNatClampNeg))) r1.2.1 r4 hc4 z H.size) (cwV 2 hts g_f_X3_restart_X3_pushAll_V132 rfl rfl rfl hd_f_X3_pushAll ⟨Nat.le_of_ble_eq_true rfl, Nat.le_of_ble_eq_true rfl⟩) ⟨nb_blindF, va_recv hK hP (ci := 3) (q0 := 18) rfl rfl, (kx_pre hK hG hE hT hA hP hD hS)⟩ rfl rfl hl.1 rfl (lv_room (Nat.le_of_ble_eq_true rfl)) dX3_restart_172 ⟨Nat.le_trans (Nat.add_le_add_left hle4.1 _) (Nat.le_of_eq hc), Nat.le_trans (Nat.add_le_add_left hle4.2 _) (Nat.le_of_eq hs)⟩) hK hA hzk hP hD hS (by decide) hno hlocks ?_
          rcases h9 with ⟨h00, y4, hny4, hy⟩ | ⟨h00, hy⟩
          · subst hy
            have h := hny4
            refine Or.inl ⟨h00, fun z H locs hz4 hzk hP hD hS => ?_⟩
            replace hc := (Nat.add_assoc _ _ _).trans hc
            replace hs := (Nat.add_assoc _ _ _).trans hs
            obtain rfl := Option.some.inj h
            subst hc
            subst hs
            exact xr_v hx hb hr hK hzk hP hD hS hlocks dX3_restart_175
          · subst hy
            exact Or.inr ⟨h00, rfl, hc, hs⟩
        · subst hy
          exact Or.inr ⟨h00, rfl, hc, hs⟩
  exact (blk k0).1 z 0 0 L0 σ0 r0 h0 (zk_rf _ _) ((Nat.zero_add _).trans hmc) ((Nat.zero_add _).trans hms) s.heap [] ls hP hD hS hl
/-! X8_copyFrom__a19__R -/
def y_X8_copyFrom__a19__R : Nat → Nat → LV → CS → Option (Int32 × CS)
  | 0, _, _, _ => none
  | k + 1, 0, L, σ => if ((L.2.2.2 1)) < 9 then (if ((L.2.2.2 1)) < 9 then (if ((L.2.2.2 1)) < 9 then (y_X8_copyFrom__a19__R k 1 L (uI (uI (uI σ 1900 ((σ.1 (100 * (28 + ((L.2.2.2 1))) + 0)))) 1901 (((uI σ 1900 ((σ.1 (100 * (28 + ((L.2.2.2 1))) + 0)))).1 (100 * (28 + ((L.2.2.2 1))) + 1)))) 1902 (((uI (uI σ 1900 ((σ.1 (100 * (28 + ((L.2.2.2 1))) + 0)))) 1901 (((uI σ 1900 ((σ.1 (100 * (28 + ((L.2.2.2 1))) + 0)))).1 (100 * (28 + ((L.2.2.2 1))) + 1)))).1 (100 * (28 + ((L.2.2.2 1))) + 2))))) else none) else none) else none
  | k + 1, 1, L, σ => if ((L.2.2.2 1)) < 9 then (if ((L.2.2.2 1)) < 9 then (if ((L.2.2.2 1)) < 9 then (y_X8_copyFrom__a19__R k 2 L (uI (uI (uI σ 1903 ((σ.1 (100 * (28 + ((L.2.2.2 1))) + 3)))) 1904 (((uI σ 1903 ((σ.1 (100 * (28 + ((L.2.2.2 1))) + 3)))).1 (100 * (28 + ((L.2.2.2 1))) + 4)))) 1905 (((uI (uI σ 1903 ((σ.1 (100 * (28 + ((L.2.2.2 1))) + 3)))) 1904 (((uI σ 1903 ((σ.1 (100 * (28 + ((L.2.2.2 1))) + 3)))).1 (100 * (28 + ((L.2.2.2 1))) + 4)))).1 (100 * (28 + ((L.2.2.2 1))) + 5))))) else none) else none) else none
  | k + 1, 2, L, σ => if ((L.2.2.2 1)) < 9 then (if ((L.2.2.2 1)) < 9 then (if ((L.2.2.2 1)) < 9 then (y_X8_copyFrom__a19__R k 3 L (uI (uI (uI σ 1906 ((σ.1 (100 * (28 + ((L.2.2.2 1))) + 6)))) 1907 (((uI σ 1906 ((σ.1 (100 * (28 + ((L.2.2.2 1))) + 6)))).1 (100 * (28 + ((L.2.2.2 1))) + 7)))) 1908 (((uI (uI σ 1906 ((σ.1 (100 * (28 + ((L.2.2.2 1))) + 6)))) 1907 (((uI σ 1906 ((σ.1 (100 * (28 + ((L.2.2.2 1))) + 6)))).1 (100 * (28 + ((L.2.2.2 1))) + 7)))).1 (100 * (28 + ((L.2.2.2 1))) + 8))))) else none) else none) else none
  | k + 1, 3, L, σ => if ((L.2.2.2 1)) < 9 then (if ((L.2.2.2 1)) < 9 then (if ((L.2.2.2 1)) < 9 then (y_X8_copyFrom__a19__R k 4 L (uI (uI (uI σ 1909 ((σ.1 (100 * (28 + ((L.2.2.2 1))) + 9)))) 1910 (((uI σ 1909 ((σ.1 (100 * (28 + ((L.2.2.2 1))) + 9)))).1 (100 * (28 + ((L.2.2.2 1))) + 10)))) 1911 (((uI (uI σ 1909 ((σ.1 (100 * (28 + ((L.2.2.2 1))) + 9)))) 1910 (((uI σ 1909 ((σ.1 (100 * (28 + ((L.2.2.2 1))) + 9)))).1 (100 * (28 + ((L.2.2.2 1))) + 10)))).1 (100 * (28 + ((L.2.2.2 1))) + 11))))) else none) else none) else none
  | k + 1, 4, L, σ => if ((L.2.2.2 1)) < 9 then (if ((L.2.2.2 1)) < 9 then (if ((L.2.2.2 1)) < 9 then (y_X8_copyFrom__a19__R k 5 L (uI (uI (uI σ 1912 ((σ.1 (100 * (28 + ((L.2.2.2 1))) + 12)))) 1913 (((uI σ 1912 ((σ.1 (100 * (28 + ((L.2.2.2 1))) + 12)))).1 (100 * (28 + ((L.2.2.2 1))) + 13)))) 1914 (((uI (uI σ 1912 ((σ.1 (100 * (28 + ((L.2.2.2 1))) + 12)))) 1913 (((uI σ 1912 ((σ.1 (100 * (28 + ((L.2.2.2 1))) + 12)))).1 (100 * (28 + ((L.2.2.2 1))) + 13)))).1 (100 * (28 + ((L.2.2.2 1))) + 14))))) else none) else none) else none
  | k + 1, 5, L, σ => if ((L.2.2.2 1)) < 9 then (if ((L.2.2.2 1)) < 9 then (some (0, (uL (uI σ 1915 ((σ.1 (100 * (28 + ((L.2.2.2 1))) + 15)))) 1916 (((uI σ 1915 ((σ.1 (100 * (28 + ((L.2.2.2 1))) + 15)))).2.1 (100 * (28 + ((L.2.2.2 1))) + 16)))))) else none) else none
  | _ + 1, _ + 6, _, _ => none
def o_y_X8_copyFrom__a19__R : List Cond := [.fieldLink RX8 7 "SetHouse$Run" "pc" "I", .fieldLink RX8 13 "SetHouse$Run" "fp" "I", .fieldLink RX8 16 "SetHouse$Run" "sp" "I", .fieldLink RX8 19 "SetHouse$Run" "begun" "I", .fieldLink RX8 22 "SetHouse$Run" "place" "I", .fieldLink RX8 25 "SetHouse$Run" "work" "I", .fieldLink RX8 28 "SetHouse$Run" "error" "I", .fieldLink RX8 31 "SetHouse$Run" "ended" "I", .fieldLink RX8 34 "SetHouse$Run" "calls" "I", .fieldLink RX8 37 "SetHouse$Run" "total" "I", .fieldLink RX8 40 "SetHouse$Run" "local" "I", .fieldLink RX8 43 "SetHouse$Run" "pointTotal" "I", .fieldLink RX8 46 "SetHouse$Run" "points" "I", .fieldLink RX8 49 "SetHouse$Run" "pointTop" "I", .fieldLink RX8 52 "SetHouse$Run" "atoms" "I", .fieldLink RX8 55 "SetHouse$Run" "printed" "I", .fieldLink RX8 58 "SetHouse$Run" "seed" "J"]
theorem o_y_X8_copyFrom__a19__R_good : o_y_X8_copyFrom__a19__R.all goodWord = true := by decide +kernel
def p_y_X8_copyFrom__a19__R : List Cond := o_y_X8_copyFrom__a19__R ++ []
theorem p_y_X8_copyFrom__a19__R_good : p_y_X8_copyFrom__a19__R.all goodWord = true := nb_all2 o_y_X8_copyFrom__a19__R_good rfl
def w_y_X8_copyFrom__a19__R : List Cond := .code yX8_copyFrom cX8_copyFrom 2 none :: (p_y_X8_copyFrom__a19__R ++ fC)
theorem w_y_X8_copyFrom__a19__R_good : w_y_X8_copyFrom__a19__R.all goodWord = true := nb_allc (by decide +kernel) (nb_all2 p_y_X8_copyFrom__a19__R_good fC_good)
theorem in_y_X8_copyFrom__a19__R_X8 : ∀ w ∈ wsX80, w ∈ w_y_X8_copyFrom__a19__R := fun _ h => List.mem_cons_of_mem _ (List.mem_append_right _ (List.mem_append_right _ (List.mem_append_right _ (List.mem_append_right _ (List.mem_append_right _ (List.mem_append_right _ (List.mem_append_right _ (List.mem_append_right _ (List.mem_append_left _ h)))))))))
theorem hd_y_X8_copyFrom__a19__R : yX8_copyFrom.cls = RX8 ∧ yX8_copyFrom.cls ≠ "java/lang/invoke/MethodHandle" ∧ yX8_copyFrom.cls ≠ "java/lang/invoke/VarHandle" ∧ (parseMethodDescriptor yX8_copyFrom.desc).map (fun d => d.parameters.length) = some 1 := by decide +kernel
set_option maxHeartbeats 40000000 in
set_option maxRecDepth 100000 in
theorem c_y_X8_copyFrom__a19__R (l : Launch) (dC : Nat → ClassId) (dI : Nat → Nat → Nat) (cy : Nat → ClassId) (a z : Nat → Nat) (k0 : Nat) (L0 : LV) (σ0 : CS) (r0 : Int32 × CS) (h0 : y_X8_copyFrom__a19__R k0 0 L0 σ0 = some r0) (sz : Nat) : Met l yX8_copyFrom w_y_X8_copyFrom__a19__R ({ frames := 0, cells := 0, slots := 0, locals := 0 }) (va_Pc [.ref (a 19), .ref (a (28 + (L0.2.2.2 1)))] (nIn (dC, dI) cy sz (vC cy a z σ0))) (va_Qv (fun _ : Unit => True) (fun _ t => nOut (dC, dI) cy (va_A (vC cy a z σ0) sz) (vC cy a z r0.2) t) (va_A (vC cy a z σ0) sz)) 0 0 (va_A (vC cy a z σ0) sz) := by
  refine Met.ofW (cc := cX8_copyFrom) (maxL := 2) (ret := none) (by decide) rfl ?_
  intro p e s m args below meth c s₁ B hml hv
  obtain ⟨rfl, hsz, hP, hK, hD0, hG⟩ := hv
  have hx := B.exec
  have hb := B.bytes
  have hr := B.returns
  have hts := atoms_spec (ws := w_y_X8_copyFrom__a19__R) B.pre
  have hown : s.vm.findClass RX8 = some m.cls := findClass_of_methodNamed B.named
  have hlocks := B.notSynchronized
  subst hsz
  have hD := hD0.self (sz := s.heap.size)
  generalize hAe : va_A (vC cy a z σ0) s.heap.size = A at hD ⊢
  have hA : ∀ q : Nat, s.heap.size ≤ q → A q := fun q h => by rw [← hAe]; exact Or.inr h
  have hS : va_S A s.heap s.heap [] := va_S.rf
  have hl := lv_entry ([.ref (a 19), .ref (a (28 + (L0.2.2.2 1)))]) (n := 2) (Nat.le_of_ble_eq_true rfl)
  rw [lg_entry_eq]
  generalize (lg_sl ([.ref (a 19), .ref (a (28 + (L0.2.2.2 1)))]) ++ List.replicate (2 - (lg_sl ([.ref (a 19), .ref (a (28 + (L0.2.2.2 1)))])).length) Slot.unset).toArray = ls at hl ⊢
  have hl : lv_has ls 2 [(0, .ref (a 19)), (1, .ref (a (28 + (L0.2.2.2 1))))] := hl
  have blk : ∀ k : Nat, (bC p l e (headSpec w_y_X8_copyFrom__a19__R ({ frames := 0, cells := 0, slots := 0, locals := 0 })).room s m #[.ref (a 19), .ref (a (28 + (L0.2.2.2 1)))] below meth c dC dI cy a z A (kV dC dI cy a z A below #[.ref (a 19), .ref (a (28 + (L0.2.2.2 1)))] s) 2 (y_X8_copyFrom__a19__R k 0) (fun L => [(0, .ref (a 19)), (1, .ref (a (28 + (L.2.2.2 1))))]) 0 (fun L => [])) ∧ (bC p l e (headSpec w_y_X8_copyFrom__a19__R ({ frames := 0, cells := 0, slots := 0, locals := 0 })).room s m #[.ref (a 19), .ref (a (28 + (L0.2.2.2 1)))] below meth c dC dI cy a z A (kV dC dI cy a z A below #[.ref (a 19), .ref (a (28 + (L0.2.2.2 1)))] s) 2 (y_X8_copyFrom__a19__R k 1) (fun L => [(0, .ref (a 19)), (1, .ref (a (28 + (L.2.2.2 1))))]) 24 (fun L => [])) ∧ (bC p l e (headSpec w_y_X8_copyFrom__a19__R ({ frames := 0, cells := 0, slots := 0, locals := 0 })).room s m #[.ref (a 19), .ref (a (28 + (L0.2.2.2 1)))] below meth c dC dI cy a z A (kV dC dI cy a z A below #[.ref (a 19), .ref (a (28 + (L0.2.2.2 1)))] s) 2 (y_X8_copyFrom__a19__R k 2) (fun L => [(0, .ref (a 19)), (1, .ref (a (28 + (L.2.2.2 1))))]) 48 (fun L => [])) ∧ (bC p l e (headSpec w_y_X8_copyFrom__a19__R ({ frames := 0, cells := 0, slots := 0, locals := 0 })).room s m #[.ref (a 19), .ref (a (28 + (L0.2.2.2 1)))] below meth c dC dI cy a z A (kV dC dI cy a z A below #[.ref (a 19), .ref (a (28 + (L0.2.2.2 1)))] s) 2 (y_X8_copyFrom__a19__R k 3) (fun L => [(0, .ref (a 19)), (1, .ref (a (28 + (L.2.2.2 1))))]) 72 (fun L => [])) ∧ (bC p l e (headSpec w_y_X8_copyFrom__a19__R ({ frames := 0, cells := 0, slots := 0, locals := 0 })).room s m #[.ref (a 19), .ref (a (28 + (L0.2.2.2 1)))] below meth c dC dI cy a z A (kV dC dI cy a z A below #[.ref (a 19), .ref (a (28 + (L0.2.2.2 1)))] s) 2 (y_X8_copyFrom__a19__R k 4) (fun L => [(0, .ref (a 19)), (1, .ref (a (28 + (L.2.2.2 1))))]) 96 (fun L => [])) ∧ (bC p l e (headSpec w_y_X8_copyFrom__a19__R ({ frames := 0, cells := 0, slots := 0, locals := 0 })).room s m #[.ref (a 19), .ref (a (28 + (L0.2.2.2 1)))] below meth c dC dI cy a z A (kV dC dI cy a z A below #[.ref (a 19), .ref (a (28 + (L0.2.2.2 1)))] s) 2 (y_X8_copyFrom__a19__R k 5) (fun L => [(0, .ref (a 19)), (1, .ref (a (28 + (L.2.2.2 1))))]) 120 (fun L => [])) := by
    intro k
    induction k with
    | zero => exact ⟨fun L σ r h => (by cases h), fun L σ r h => (by cases h), fun L σ r h => (by cases h), fun L σ r h => (by cases h), fun L σ r h => (by cases h), fun L σ r h => (by cases h)⟩
    | succ k ih =>
      refine ⟨?_, ?_, ?_, ?_, ?_, ?_⟩
      · intro L σ r h H locs ls hP hD hS hl
        rw [y_X8_copyFrom__a19__R] at h
        refine lv_aload_n hx hb dX8_copyFrom_0 rfl (lv_at hl 0 rfl) ?_
        refine lv_aload_n hx hb dX8_copyFrom_1 rfl (lv_at hl 1 rfl) ?_
        obtain ⟨q1, h⟩ := kb_ite1 h
        refine hg_R_0 ((L.2.2.2 1)) q1 hx hb hts in_y_X8_copyFrom__a19__R_X8 hown hK hP (hts _ (List.mem_cons_of_mem _ (List.mem_append_left _ (List.mem_append_left _ (List.mem_of_getElem? (i := 0) rfl))))) dX8_copyFrom_2 ?_
        refine hp_19_0 hx hb hts in_y_X8_copyFrom__a19__R_X8 hown hK hP hD hS (hts _ (List.mem_cons_of_mem _ (List.mem_append_left _ (List.mem_append_left _ (List.mem_of_getElem? (i := 0) rfl))))) dX8_copyFrom_5 (fun H locs hP hD hS => ?_)
        refine lv_aload_n hx hb dX8_copyFrom_8 rfl (lv_at hl 0 rfl) ?_
        refine lv_aload_n hx hb dX8_copyFrom_9 rfl (lv_at hl 1 rfl) ?_
        obtain ⟨q2, h⟩ := kb_ite1 h
        refine hg_R_1 ((L.2.2.2 1)) q2 hx hb hts in_y_X8_copyFrom__a19__R_X8 hown hK hP (hts _ (List.mem_cons_of_mem _ (List.mem_append_left _ (List.mem_append_left _ (List.mem_of_getElem? (i := 1) rfl))))) dX8_copyFrom_10 ?_
        refine hp_19_1 hx hb hts in_y_X8_copyFrom__a19__R_X8 hown hK hP hD hS (hts _ (List.mem_cons_of_mem _ (List.mem_append_left _ (List.mem_append_left _ (List.mem_of_getElem? (i := 1) rfl))))) dX8_copyFrom_13 (fun H locs hP hD hS => ?_)
        refine lv_aload_n hx hb dX8_copyFrom_16 rfl (lv_at hl 0 rfl) ?_
        refine lv_aload_n hx hb dX8_copyFrom_17 rfl (lv_at hl 1 rfl) ?_
        obtain ⟨q3, h⟩ := kb_ite1 h
        refine hg_R_2 ((L.2.2.2 1)) q3 hx hb hts in_y_X8_copyFrom__a19__R_X8 hown hK hP (hts _ (List.mem_cons_of_mem _ (List.mem_append_left _ (List.mem_append_left _ (List.mem_of_getElem? (i := 2) rfl))))) dX8_copyFrom_18 ?_
        refine hp_19_2 hx hb hts in_y_X8_copyFrom__a19__R_X8 hown hK hP hD hS (hts _ (List.mem_cons_of_mem _ (List.mem_append_left _ (List.mem_append_left _ (List.mem_of_getElem? (i := 2) rfl))))) dX8_copyFrom_21 (fun H locs hP hD hS => ?_)
        exact ih.2.1 L (uI (uI (uI σ 1900 ((σ.1 (100 * (28 + ((L.2.2.2 1))) + 0)))) 1901 (((uI σ 1900 ((σ.1 (100 * (28 + ((L.2.2.2 1))) + 0)))).1 (100 * (28 + ((L.2.2.2 1))) + 1)))) 1902 (((uI (uI σ 1900 ((σ.1 (100 * (28 + ((L.2.2.2 1))) + 0)))) 1901 (((uI σ 1900 ((σ.1 (100 * (28 + ((L.2.2.2 1))) + 0)))).1 (100 * (28 + ((L.2.2.2 1))) + 1)))).1 (100 * (28 + ((L.2.2.2 1))) + 2)))) r h H locs ls hP hD hS (lv_sub hl [0, 1] rfl)
      · intro L σ r h H locs ls hP hD hS hl
        rw [y_X8_copyFrom__a19__R] at h
        refine lv_aload_n hx hb dX8_copyFrom_24 rfl (lv_at hl 0 rfl) ?_
        refine lv_aload_n hx hb dX8_copyFrom_25 rfl (lv_at hl 1 rfl) ?_
        obtain ⟨q1, h⟩ := kb_ite1 h
        refine hg_R_3 ((L.2.2.2 1)) q1 hx hb hts in_y_X8_copyFrom__a19__R_X8 hown hK hP (hts _ (List.mem_cons_of_mem _ (List.mem_append_left _ (List.mem_append_left _ (List.mem_of_getElem? (i := 3) rfl))))) dX8_copyFrom_26 ?_
        refine hp_19_3 hx hb hts in_y_X8_copyFrom__a19__R_X8 hown hK hP hD hS (hts _ (List.mem_cons_of_mem _ (List.mem_append_left _ (List.mem_append_left _ (List.mem_of_getElem? (i := 3) rfl))))) dX8_copyFrom_29 (fun H locs hP hD hS => ?_)
        refine lv_aload_n hx hb dX8_copyFrom_32 rfl (lv_at hl 0 rfl) ?_
        refine lv_aload_n hx hb dX8_copyFrom_33 rfl (lv_at hl 1 rfl) ?_
        obtain ⟨q2, h⟩ := kb_ite1 h
        refine hg_R_4 ((L.2.2.2 1)) q2 hx hb hts in_y_X8_copyFrom__a19__R_X8 hown hK hP (hts _ (List.mem_cons_of_mem _ (List.mem_append_left _ (List.mem_append_left _ (List.mem_of_getElem? (i := 4) rfl))))) dX8_copyFrom_34 ?_
        refine hp_19_4 hx hb hts in_y_X8_copyFrom__a19__R_X8 hown hK hP hD hS (hts _ (List.mem_cons_of_mem _ (List.mem_append_left _ (List.mem_append_left _ (List.mem_of_getElem? (i := 4) rfl))))) dX8_copyFrom_37 (fun H locs hP hD hS => ?_)
        refine lv_aload_n hx hb dX8_copyFrom_40 rfl (lv_at hl 0 rfl) ?_
        refine lv_aload_n hx hb dX8_copyFrom_41 rfl (lv_at hl 1 rfl) ?_
        obtain ⟨q3, h⟩ := kb_ite1 h
        refine hg_R_5 ((L.2.2.2 1)) q3 hx hb hts in_y_X8_copyFrom__a19__R_X8 hown hK hP (hts _ (List.mem_cons_of_mem _ (List.mem_append_left _ (List.mem_append_left _ (List.mem_of_getElem? (i := 5) rfl))))) dX8_copyFrom_42 ?_
        refine hp_19_5 hx hb hts in_y_X8_copyFrom__a19__R_X8 hown hK hP hD hS (hts _ (List.mem_cons_of_mem _ (List.mem_append_left _ (List.mem_append_left _ (List.mem_of_getElem? (i := 5) rfl))))) dX8_copyFrom_45 (fun H locs hP hD hS => ?_)
        exact ih.2.2.1 L (uI (uI (uI σ 1903 ((σ.1 (100 * (28 + ((L.2.2.2 1))) + 3)))) 1904 (((uI σ 1903 ((σ.1 (100 * (28 + ((L.2.2.2 1))) + 3)))).1 (100 * (28 + ((L.2.2.2 1))) + 4)))) 1905 (((uI (uI σ 1903 ((σ.1 (100 * (28 + ((L.2.2.2 1))) + 3)))) 1904 (((uI σ 1903 ((σ.1 (100 * (28 + ((L.2.2.2 1))) + 3)))).1 (100 * (28 + ((L.2.2.2 1))) + 4)))).1 (100 * (28 + ((L.2.2.2 1))) + 5)))) r h H locs ls hP hD hS (lv_sub hl [0, 1] rfl)
      · intro L σ r h H locs ls hP hD hS hl
        rw [y_X8_copyFrom__a19__R] at h
        refine lv_aload_n hx hb dX8_copyFrom_48 rfl (lv_at hl 0 rfl) ?_
        refine lv_aload_n hx hb dX8_copyFrom_49 rfl (lv_at hl 1 rfl) ?_
        obtain ⟨q1, h⟩ := kb_ite1 h
        refine hg_R_6 ((L.2.2.2 1)) q1 hx hb hts in_y_X8_copyFrom__a19__R_X8 hown hK hP (hts _ (List.mem_cons_of_mem _ (List.mem_append_left _ (List.mem_append_left _ (List.mem_of_getElem? (i := 6) rfl))))) dX8_copyFrom_50 ?_
        refine hp_19_6 hx hb hts in_y_X8_copyFrom__a19__R_X8 hown hK hP hD hS (hts _ (List.mem_cons_of_mem _ (List.mem_append_left _ (List.mem_append_left _ (List.mem_of_getElem? (i := 6) rfl))))) dX8_copyFrom_53 (fun H locs hP hD hS => ?_)
        refine lv_aload_n hx hb dX8_copyFrom_56 rfl (lv_at hl 0 rfl) ?_
        refine lv_aload_n hx hb dX8_copyFrom_57 rfl (lv_at hl 1 rfl) ?_
        obtain ⟨q2, h⟩ := kb_ite1 h
        refine hg_R_7 ((L.2.2.2 1)) q2 hx hb hts in_y_X8_copyFrom__a19__R_X8 hown hK hP (hts _ (List.mem_cons_of_mem _ (List.mem_append_left _ (List.mem_append_left _ (List.mem_of_getElem? (i := 7) rfl))))) dX8_copyFrom_58 ?_
        refine hp_19_7 hx hb hts in_y_X8_copyFrom__a19__R_X8 hown hK hP hD hS (hts _ (List.mem_cons_of_mem _ (List.mem_append_left _ (List.mem_append_left _ (List.mem_of_getElem? (i := 7) rfl))))) dX8_copyFrom_61 (fun H locs hP hD hS => ?_)
        refine lv_aload_n hx hb dX8_copyFrom_64 rfl (lv_at hl 0 rfl) ?_
        refine lv_aload_n hx hb dX8_copyFrom_65 rfl (lv_at hl 1 rfl) ?_
        obtain ⟨q3, h⟩ := kb_ite1 h
        refine hg_R_8 ((L.2.2.2 1)) q3 hx hb hts in_y_X8_copyFrom__a19__R_X8 hown hK hP (hts _ (List.mem_cons_of_mem _ (List.mem_append_left _ (List.mem_append_left _ (List.mem_of_getElem? (i := 8) rfl))))) dX8_copyFrom_66 ?_
        refine hp_19_8 hx hb hts in_y_X8_copyFrom__a19__R_X8 hown hK hP hD hS (hts _ (List.mem_cons_of_mem _ (List.mem_append_left _ (List.mem_append_left _ (List.mem_of_getElem? (i := 8) rfl))))) dX8_copyFrom_69 (fun H locs hP hD hS => ?_)
        exact ih.2.2.2.1 L (uI (uI (uI σ 1906 ((σ.1 (100 * (28 + ((L.2.2.2 1))) + 6)))) 1907 (((uI σ 1906 ((σ.1 (100 * (28 + ((L.2.2.2 1))) + 6)))).1 (100 * (28 + ((L.2.2.2 1))) + 7)))) 1908 (((uI (uI σ 1906 ((σ.1 (100 * (28 + ((L.2.2.2 1))) + 6)))) 1907 (((uI σ 1906 ((σ.1 (100 * (28 + ((L.2.2.2 1))) + 6)))).1 (100 * (28 + ((L.2.2.2 1))) + 7)))).1 (100 * (28 + ((L.2.2.2 1))) + 8)))) r h H locs ls hP hD hS (lv_sub hl [0, 1] rfl)
      · intro L σ r h H locs ls hP hD hS hl
        rw [y_X8_copyFrom__a19__R] at h
        refine lv_aload_n hx hb dX8_copyFrom_72 rfl (lv_at hl 0 rfl) ?_
        refine lv_aload_n hx hb dX8_copyFrom_73 rfl (lv_at hl 1 rfl) ?_
        obtain ⟨q1, h⟩ := kb_ite1 h
        refine hg_R_9 ((L.2.2.2 1)) q1 hx hb hts in_y_X8_copyFrom__a19__R_X8 hown hK hP (hts _ (List.mem_cons_of_mem _ (List.mem_append_left _ (List.mem_append_left _ (List.mem_of_getElem? (i := 9) rfl))))) dX8_copyFrom_74 ?_
        refine hp_19_9 hx hb hts in_y_X8_copyFrom__a19__R_X8 hown hK hP hD hS (hts _ (List.mem_cons_of_mem _ (List.mem_append_left _ (List.mem_append_left _ (List.mem_of_getElem? (i := 9) rfl))))) dX8_copyFrom_77 (fun H locs hP hD hS => ?_)
        refine lv_aload_n hx hb dX8_copyFrom_80 rfl (lv_at hl 0 rfl) ?_
        refine lv_aload_n hx hb dX8_copyFrom_81 rfl (lv_at hl 1 rfl) ?_
        obtain ⟨q2, h⟩ := kb_ite1 h
        refine hg_R_10 ((L.2.2.2 1)) q2 hx hb hts in_y_X8_copyFrom__a19__R_X8 hown hK hP (hts _ (List.mem_cons_of_mem _ (List.mem_append_left _ (List.mem_append_left _ (List.mem_of_getElem? (i := 10) rfl))))) dX8_copyFrom_82 ?_
        refine hp_19_10 hx hb hts in_y_X8_copyFrom__a19__R_X8 hown hK hP hD hS (hts _ (List.mem_cons_of_mem _ (List.mem_append_left _ (List.mem_append_left _ (List.mem_of_getElem? (i := 10) rfl))))) dX8_copyFrom_85 (fun H locs hP hD hS => ?_)
        refine lv_aload_n hx hb dX8_copyFrom_88 rfl (lv_at hl 0 rfl) ?_
        refine lv_aload_n hx hb dX8_copyFrom_89 rfl (lv_at hl 1 rfl) ?_
        obtain ⟨q3, h⟩ := kb_ite1 h
        refine hg_R_11 ((L.2.2.2 1)) q3 hx hb hts in_y_X8_copyFrom__a19__R_X8 hown hK hP (hts _ (List.mem_cons_of_mem _ (List.mem_append_left _ (List.mem_append_left _ (List.mem_of_getElem? (i := 11) rfl))))) dX8_copyFrom_90 ?_
        refine hp_19_11 hx hb hts in_y_X8_copyFrom__a19__R_X8 hown hK hP hD hS (hts _ (List.mem_cons_of_mem _ (List.mem_append_left _ (List.mem_append_left _ (List.mem_of_getElem? (i := 11) rfl))))) dX8_copyFrom_93 (fun H locs hP hD hS => ?_)
        exact ih.2.2.2.2.1 L (uI (uI (uI σ 1909 ((σ.1 (100 * (28 + ((L.2.2.2 1))) + 9)))) 1910 (((uI σ 1909 ((σ.1 (100 * (28 + ((L.2.2.2 1))) + 9)))).1 (100 * (28 + ((L.2.2.2 1))) + 10)))) 1911 (((uI (uI σ 1909 ((σ.1 (100 * (28 + ((L.2.2.2 1))) + 9)))) 1910 (((uI σ 1909 ((σ.1 (100 * (28 + ((L.2.2.2 1))) + 9)))).1 (100 * (28 + ((L.2.2.2 1))) + 10)))).1 (100 * (28 + ((L.2.2.2 1))) + 11)))) r h H locs ls hP hD hS (lv_sub hl [0, 1] rfl)
      · intro L σ r h H locs ls hP hD hS hl
        rw [y_X8_copyFrom__a19__R] at h
        refine lv_aload_n hx hb dX8_copyFrom_96 rfl (lv_at hl 0 rfl) ?_
        refine lv_aload_n hx hb dX8_copyFrom_97 rfl (lv_at hl 1 rfl) ?_
        obtain ⟨q1, h⟩ := kb_ite1 h
        refine hg_R_12 ((L.2.2.2 1)) q1 hx hb hts in_y_X8_copyFrom__a19__R_X8 hown hK hP (hts _ (List.mem_cons_of_mem _ (List.mem_append_left _ (List.mem_append_left _ (List.mem_of_getElem? (i := 12) rfl))))) dX8_copyFrom_98 ?_
        refine hp_19_12 hx hb hts in_y_X8_copyFrom__a19__R_X8 hown hK hP hD hS (hts _ (List.mem_cons_of_mem _ (List.mem_append_left _ (List.mem_append_left _ (List.mem_of_getElem? (i := 12) rfl))))) dX8_copyFrom_101 (fun H locs hP hD hS => ?_)
        refine lv_aload_n hx hb dX8_copyFrom_104 rfl (lv_at hl 0 rfl) ?_
        refine lv_aload_n hx hb dX8_copyFrom_105 rfl (lv_at hl 1 rfl) ?_
        obtain ⟨q2, h⟩ := kb_ite1 h
        refine hg_R_13 ((L.2.2.2 1)) q2 hx hb hts in_y_X8_copyFrom__a19__R_X8 hown hK hP (hts _ (List.mem_cons_of_mem _ (List.mem_append_left _ (List.mem_append_left _ (List.mem_of_getElem? (i := 13) rfl))))) dX8_copyFrom_106 ?_
        refine hp_19_13 hx hb hts in_y_X8_copyFrom__a19__R_X8 hown hK hP hD hS (hts _ (List.mem_cons_of_mem _ (List.mem_append_left _ (List.mem_append_left _ (List.mem_of_getElem? (i := 13) rfl))))) dX8_copyFrom_109 (fun H locs hP hD hS => ?_)
        refine lv_aload_n hx hb dX8_copyFrom_112 rfl (lv_at hl 0 rfl) ?_
        refine lv_aload_n hx hb dX8_copyFrom_113 rfl (lv_at hl 1 rfl) ?_
        obtain ⟨q3, h⟩ := kb_ite1 h
        refine hg_R_14 ((L.2.2.2 1)) q3 hx hb hts in_y_X8_copyFrom__a19__R_X8 hown hK hP (hts _ (List.mem_cons_of_mem _ (List.mem_append_left _ (List.mem_append_left _ (List.mem_of_getElem? (i := 14) rfl))))) dX8_copyFrom_114 ?_
        refine hp_19_14 hx hb hts in_y_X8_copyFrom__a19__R_X8 hown hK hP hD hS (hts _ (List.mem_cons_of_mem _ (List.mem_append_left _ (List.mem_append_left _ (List.mem_of_getElem? (i := 14) rfl))))) dX8_copyFrom_117 (fun H locs hP hD hS => ?_)
        exact ih.2.2.2.2.2 L (uI (uI (uI σ 1912 ((σ.1 (100 * (28 + ((L.2.2.2 1))) + 12)))) 1913 (((uI σ 1912 ((σ.1 (100 * (28 + ((L.2.2.2 1))) + 12)))).1 (100 * (28 + ((L.2.2.2 1))) + 13)))) 1914 (((uI (uI σ 1912 ((σ.1 (100 * (28 + ((L.2.2.2 1))) + 12)))) 1913 (((uI σ 1912 ((σ.1 (100 * (28 + ((L.2.2.2 1))) + 12)))).1 (100 * (28 + ((L.2.2.2 1))) + 13)))).1 (100 * (28 + ((L.2.2.2 1))) + 14)))) r h H locs ls hP hD hS (lv_sub hl [0, 1] rfl)
      · intro L σ r h H locs ls hP hD hS hl
        rw [y_X8_copyFrom__a19__R] at h
        refine lv_aload_n hx hb dX8_copyFrom_120 rfl (lv_at hl 0 rfl) ?_
        refine lv_aload_n hx hb dX8_copyFrom_121 rfl (lv_at hl 1 rfl) ?_
        obtain ⟨q1, h⟩ := kb_ite1 h
        refine hg_R_15 ((L.2.2.2 1)) q1 hx hb hts in_y_X8_copyFrom__a19__R_X8 hown hK hP (hts _ (List.mem_cons_of_mem _ (List.mem_append_left _ (List.mem_append_left _ (List.mem_of_getElem? (i := 15) rfl))))) dX8_copyFrom_122 ?_
        refine hp_19_15 hx hb hts in_y_X8_copyFrom__a19__R_X8 hown hK hP hD hS (hts _ (List.mem_cons_of_mem _ (List.mem_append_left _ (List.mem_append_left _ (List.mem_of_getElem? (i := 15) rfl))))) dX8_copyFrom_125 (fun H locs hP hD hS => ?_)
        refine lv_aload_n hx hb dX8_copyFrom_128 rfl (lv_at hl 0 rfl) ?_
        refine lv_aload_n hx hb dX8_copyFrom_129 rfl (lv_at hl 1 rfl) ?_
        obtain ⟨q2, h⟩ := kb_ite1 h
        refine hg_R_16 ((L.2.2.2 1)) q2 hx hb hts in_y_X8_copyFrom__a19__R_X8 hown hK hP (hts _ (List.mem_cons_of_mem _ (List.mem_append_left _ (List.mem_append_left _ (List.mem_of_getElem? (i := 16) rfl))))) dX8_copyFrom_130 ?_
        refine hp_19_16 hx hb hts in_y_X8_copyFrom__a19__R_X8 hown hK hP hD hS (hts _ (List.mem_cons_of_mem _ (List.mem_append_left _ (List.mem_append_left _ (List.mem_of_getElem? (i := 16) rfl))))) dX8_copyFrom_133 (fun H locs hP hD hS => ?_)
        obtain rfl := Option.some.inj h
        exact W.vret hx hb hr (fun t ht hW => ⟨⟨(), rfl, trivial, by rw [ht]; exact hP, va_K.moved hW.alike hK, hD⟩, hS.F ht⟩) hS.2.2 dX8_copyFrom_136
  exact (blk k0).1 L0 σ0 r0 h0 s.heap [] ls hP hD hS hl
/-! X3_goBack -/
def f_X3_goBack : Nat → Nat → LV → CS → Option RS
  | 0, _, _, _ => none
  | k + 1, 0, L, σ => op (y_X9_newest k 0 (lI lZ 1 ((L.1 1))) σ) (fun r1 => if r1.1 = ((-1)) then (ox (f_X3_restart k 0 lZ r1.2) (fun r3 => some ((0, (L.1 1)), r3.2.1, (0, 0)))) else (f_X3_goBack k 1 (lI L 2 r1.1) r1.2))
  | k + 1, 1, L, σ => if ¬ (((L.1 2)) < 0 ∨ 9 ≤ ((L.1 2)).toNatClampNeg) then (op (y_X8_copyFrom__a19__R k 0 (lM lZ 1 ((sPi σ ((L.1 2)).toNatClampNeg))) σ) (fun r2 => if ¬ (((L.1 2)) < 0 ∨ 9 ≤ ((L.1 2)).toNatClampNeg) then (if ¬ ((r2.2.2.2.1 27 ((L.1 2)).toNatClampNeg)) < 0 ∧ ¬ (0 : Int32) < 0 ∧ ¬ ((r2.2.1 1902)) < 0 ∧ ((r2.2.2.2.1 27 ((L.1 2)).toNatClampNeg)).toNatClampNeg + ((r2.2.1 1902)).toNatClampNeg ≤ (sN r2.2 26) ∧ (0 : Int32).toNatClampNeg + ((r2.2.1 1902)).toNatClampNeg ≤ (sN r2.2 20) then (f_X3_goBack k 2 L (uF r2.2 20 (va_cpy (r2.2.2.2.1 26) (r2.2.2.2.1 20) ((r2.2.2.2.1 27 ((L.1 2)).toNatClampNeg)).toNatClampNeg (0 : Int32).toNatClampNeg ((r2.2.1 1902)).toNatClampNeg))) else none) else none)) else none
  | k + 1, 2, L, σ => if ¬ (((L.1 2)) < 0 ∨ 9 ≤ ((L.1 2)).toNatClampNeg) then (if ¬ ((((σ.2.2.1 27 ((L.1 2)).toNatClampNeg)) + ((σ.1 1902)))) < 0 ∧ ¬ (0 : Int32) < 0 ∧ ¬ ((σ.1 1913)) < 0 ∧ ((((σ.2.2.1 27 ((L.1 2)).toNatClampNeg)) + ((σ.1 1902)))).toNatClampNeg + ((σ.1 1913)).toNatClampNeg ≤ (sN σ 26) ∧ (0 : Int32).toNatClampNeg + ((σ.1 1913)).toNatClampNeg ≤ (sN σ 21) then (f_X3_goBack k 3 L (uF σ 21 (va_cpy (σ.2.2.1 26) (σ.2.2.1 21) ((((σ.2.2.1 27 ((L.1 2)).toNatClampNeg)) + ((σ.1 1902)))).toNatClampNeg (0 : Int32).toNatClampNeg ((σ.1 1913)).toNatClampNeg))) else none) else none
  | k + 1, 3, L, σ => some ((0, (((L.1 1)) - ((σ.1 1903)))), σ, (0, 0))
  | _ + 1, _ + 4, _, _ => none
def o_f_X3_goBack : List Cond := [.fieldLink RX3 35 "SetHouse$Machine" "saves" "LSetHouse$Saves;", .methodLink RX3 158 yX9_newest, .instanceMethod yX9_newest, .selects RX9 yX9_newest yX9_newest, .initialized RX9, .methodLink RX3 69 yX3_restart, .instanceMethod yX3_restart, .selects RX3 yX3_restart yX3_restart, .initialized RX3, .fieldLink RX3 14 "SetHouse$Machine" "run" "LSetHouse$Run;", .methodLink RX3 166 yX8_copyFrom, .instanceMethod yX8_copyFrom, .selects RX8 yX8_copyFrom yX8_copyFrom, .initialized RX8, .fieldLink RX3 18 "SetHouse$Machine" "stack" "[I", .methodLink RX3 176 arraycopyName, .native arraycopyName, .static arraycopyName, .initialized "java/lang/System", .fieldLink RX3 22 "SetHouse$Machine" "points" "[I"]
theorem o_f_X3_goBack_good : o_f_X3_goBack.all goodWord = true := by decide +kernel
def p_f_X3_goBack : List Cond := o_f_X3_goBack ++ ((.code yX9_newest cX9_newest 4 (some .int) :: p_y_X9_newest) ++ ((.code yX3_restart cX3_restart 1 none :: p_f_X3_restart) ++ ((.code yX8_copyFrom cX8_copyFrom 2 none :: p_y_X8_copyFrom__a19__R) ++ [])))
theorem p_f_X3_goBack_good : p_f_X3_goBack.all goodWord = true := nb_all2 o_f_X3_goBack_good (nb_all2 (nb_allc (by decide +kernel) p_y_X9_newest_good) (nb_all2 (nb_allc (by decide +kernel) p_f_X3_restart_good) (nb_all2 (nb_allc (by decide +kernel) p_y_X8_copyFrom__a19__R_good) rfl)))
def w_f_X3_goBack : List Cond := .code yX3_goBack cX3_goBack 3 (some .int) :: (p_f_X3_goBack ++ fC)
theorem w_f_X3_goBack_good : w_f_X3_goBack.all goodWord = true := nb_allc (by decide +kernel) (nb_all2 p_f_X3_goBack_good fC_good)
theorem in_f_X3_goBack_X3 : ∀ w ∈ wsX30, w ∈ w_f_X3_goBack := fun _ h => List.mem_cons_of_mem _ (List.mem_append_right _ (List.mem_append_right _ (List.mem_append_right _ (List.mem_append_right _ (List.mem_append_left _ h)))))
theorem in_f_X3_goBack_X8 : ∀ w ∈ wsX80, w ∈ w_f_X3_goBack := fun _ h => List.mem_cons_of_mem _ (List.mem_append_right _ (List.mem_append_right _ (List.mem_append_right _ (List.mem_append_right _ (List.mem_append_right _ (List.mem_append_right _ (List.mem_append_right _ (List.mem_append_right _ (List.mem_append_left _ h)))))))))
theorem in_f_X3_goBack_X9 : ∀ w ∈ wsX90, w ∈ w_f_X3_goBack := fun _ h => List.mem_cons_of_mem _ (List.mem_append_right _ (List.mem_append_right _ (List.mem_append_right _ (List.mem_append_right _ (List.mem_append_right _ (List.mem_append_right _ (List.mem_append_right _ (List.mem_append_right _ (List.mem_append_right _ (List.mem_append_left _ h))))))))))
theorem hd_f_X3_goBack : yX3_goBack.cls = RX3 ∧ yX3_goBack.cls ≠ "java/lang/invoke/MethodHandle" ∧ yX3_goBack.cls ≠ "java/lang/invoke/VarHandle" ∧ (parseMethodDescriptor yX3_goBack.desc).map (fun d => d.parameters.length) = some 1 := by decide +kernel
theorem gg_f_X3_goBack_X3_restart : GoodIn w_f_X3_goBack w_f_X3_restart := goodIn_sub (fun w h => (List.mem_cons.mp h).elim (fun e => (List.mem_cons_of_mem _ (List.mem_append_left _ (List.mem_append_right _ (List.mem_append_right _ (List.mem_append_left _ (List.mem_cons.mpr (Or.inl e)))))))) (fun h => (List.mem_append.mp h).elim (fun h => (List.mem_cons_of_mem _ (List.mem_append_left _ (List.mem_append_right _ (List.mem_append_right _ (List.mem_append_left _ (List.mem_cons_of_mem _ h))))))) (fun h => List.mem_cons_of_mem _ (List.mem_append_right _ h)))) w_f_X3_restart_good
theorem g_f_X3_goBack_X3_restart_V69 : GoodIn w_f_X3_goBack (wsV RX3 69 RX3 yX3_restart w_f_X3_restart) := goodIn_app (nb_g4 (List.mem_cons_of_mem _ (List.mem_append_left _ (List.mem_append_left _ (List.mem_of_getElem? (i := 5) rfl)))) (List.mem_cons_of_mem _ (List.mem_append_left _ (List.mem_append_left _ (List.mem_of_getElem? (i := 6) rfl)))) (List.mem_cons_of_mem _ (List.mem_append_left _ (List.mem_append_left _ (List.mem_of_getElem? (i := 7) rfl)))) (List.mem_cons_of_mem _ (List.mem_append_left _ (List.mem_append_left _ (List.mem_of_getElem? (i := 8) rfl)))) (by decide +kernel)) gg_f_X3_goBack_X3_restart
theorem gg_f_X3_goBack_X8_copyFrom__a19__R : GoodIn w_f_X3_goBack w_y_X8_copyFrom__a19__R := goodIn_sub (fun w h => (List.mem_cons.mp h).elim (fun e => (List.mem_cons_of_mem _ (List.mem_append_left _ (List.mem_append_right _ (List.mem_append_right _ (List.mem_append_right _ (List.mem_append_left _ (List.mem_cons.mpr (Or.inl e))))))))) (fun h => (List.mem_append.mp h).elim (fun h => (List.mem_cons_of_mem _ (List.mem_append_left _ (List.mem_append_right _ (List.mem_append_right _ (List.mem_append_right _ (List.mem_append_left _ (List.mem_cons_of_mem _ h)))))))) (fun h => List.mem_cons_of_mem _ (List.mem_append_right _ h)))) w_y_X8_copyFrom__a19__R_good
theorem g_y_X3_goBack_X8_copyFrom__a19__R_V166 : GoodIn w_f_X3_goBack (wsV RX3 166 RX8 yX8_copyFrom w_y_X8_copyFrom__a19__R) := goodIn_app (nb_g4 (List.mem_cons_of_mem _ (List.mem_append_left _ (List.mem_append_left _ (List.mem_of_getElem? (i := 10) rfl)))) (List.mem_cons_of_mem _ (List.mem_append_left _ (List.mem_append_left _ (List.mem_of_getElem? (i := 11) rfl)))) (List.mem_cons_of_mem _ (List.mem_append_left _ (List.mem_append_left _ (List.mem_of_getElem? (i := 12) rfl)))) (List.mem_cons_of_mem _ (List.mem_append_left _ (List.mem_append_left _ (List.mem_of_getElem? (i := 13) rfl)))) (by decide +kernel)) gg_f_X3_goBack_X8_copyFrom__a19__R
theorem gg_f_X3_goBack_X9_newest : GoodIn w_f_X3_goBack w_y_X9_newest := goodIn_sub (fun w h => (List.mem_cons.mp h).elim (fun e => (List.mem_cons_of_mem _ (List.mem_append_left _ (List.mem_append_right _ (List.mem_append_left _ (List.mem_cons.mpr (Or.inl e))))))) (fun h => (List.mem_append.mp h).elim (fun h => (List.mem_cons_of_mem _ (List.mem_append_left _ (List.mem_append_right _ (List.mem_append_left _ (List.mem_cons_of_mem _ h)))))) (fun h => List.mem_cons_of_mem _ (List.mem_append_right _ h)))) w_y_X9_newest_good
theorem g_y_X3_goBack_X9_newest_V158 : GoodIn w_f_X3_goBack (wsV RX3 158 RX9 yX9_newest w_y_X9_newest) := goodIn_app (nb_g4 (List.mem_cons_of_mem _ (List.mem_append_left _ (List.mem_append_left _ (List.mem_of_getElem? (i := 1) rfl)))) (List.mem_cons_of_mem _ (List.mem_append_left _ (List.mem_append_left _ (List.mem_of_getElem? (i := 2) rfl)))) (List.mem_cons_of_mem _ (List.mem_append_left _ (List.mem_append_left _ (List.mem_of_getElem? (i := 3) rfl)))) (List.mem_cons_of_mem _ (List.mem_append_left _ (List.mem_append_left _ (List.mem_of_getElem? (i := 4) rfl)))) (by decide +kernel)) gg_f_X3_goBack_X9_newest
set_option maxHeartbeats 40000000 in
set_option maxRecDepth 100000 in
theorem c_f_X3_goBack (l : Launch) (hl0 : l.stackTraces = false) (dC : Nat → ClassId) (dI : Nat → Nat → Nat) (cy : Nat → ClassId) (ek a : Nat → Nat) (k0 : Nat) (L0 : LV) (σ0 : CS) (r0 : RS) (h0 : f_X3_goBack k0 0 L0 σ0 = some r0) (z : Nat → Nat) (sz : Nat) : vx_Met l yX3_goBack w_f_X3_goBack ({ frames := 6, cells := r0.2.2.1, slots := r0.2.2.2, locals := 178 }) (va_Pc [.ref (a 18), .int (L0.1 1)] (nInF (dC, dI) cy ek sz (vC cy a z σ0))) (xI dC dI cy a (va_A (vC cy a z σ0) sz) [20] z r0) (xX dC dI cy a (va_A (vC cy a z σ0) sz) [20] z r0) r0.2.2.1 r0.2.2.2 (va_A (vC cy a z σ0) sz) := by
  refine vx_ofW (cc := cX3_goBack) (maxL := 3) (ret := (some .int)) (by decide) rfl ?_
  intro p e s m args below meth c s₁ B hml hno hv
  obtain ⟨rfl, ⟨⟨hsz, hP, hK, hD0, hG⟩, hE⟩, hT⟩ := hv
  have hx := B.exec
  have hb := B.bytes
  have hr := B.returns
  have hts := atoms_spec (ws := w_f_X3_goBack) B.pre
  have hown : s.vm.findClass RX3 = some m.cls := findClass_of_methodNamed B.named
  have hlocks := B.notSynchronized
  subst hsz
  have hD := hD0.self (sz := s.heap.size)
  generalize hAe : va_A (vC cy a z σ0) s.heap.size = A at hD hE hT ⊢
  have hA : ∀ q : Nat, s.heap.size ≤ q → A q := fun q h => by rw [← hAe]; exact Or.inr h
  have hS : va_S A s.heap s.heap [] := va_S.rf
  have hl := lv_entry ([.ref (a 18), .int (L0.1 1)]) (n := 3) (Nat.le_of_ble_eq_true rfl)
  rw [lg_entry_eq]
  generalize (lg_sl ([.ref (a 18), .int (L0.1 1)]) ++ List.replicate (3 - (lg_sl ([.ref (a 18), .int (L0.1 1)])).length) Slot.unset).toArray = ls at hl ⊢
  have hl : lv_has ls 3 [(0, .ref (a 18)), (1, .int (L0.1 1))] := hl
  generalize hmc : r0.2.2.1 = mc
  generalize hms : r0.2.2.2 = ms
  have blk : ∀ k : Nat, (bX p l e (headSpec w_f_X3_goBack ({ frames := 6, cells := mc, slots := ms, locals := 178 })).room s m #[.ref (a 18), .int (L0.1 1)] below meth c dC dI cy a A (fun r => vx_MQ below (xI dC dI cy a A [20] z r) (xX dC dI cy a A [20] z r) #[.ref (a 18), .int (L0.1 1)] s mc ms A) [20] z mc ms 3 (f_X3_goBack k 0) (fun z L => [(0, .ref (a 18)), (1, .int (L.1 1))]) 0 (fun z L => [])) ∧ (bX p l e (headSpec w_f_X3_goBack ({ frames := 6, cells := mc, slots := ms, locals := 178 })).room s m #[.ref (a 18), .int (L0.1 1)] below meth c dC dI cy a A (fun r => vx_MQ below (xI dC dI cy a A [20] z r) (xX dC dI cy a A [20] z r) #[.ref (a 18), .int (L0.1 1)] s mc ms A) [20] z mc ms 3 (f_X3_goBack k 1) (fun z L => [(0, .ref (a 18)), (1, .int (L.1 1)), (2, .int (L.1 2))]) 20 (fun z L => [])) ∧ (bX p l e (headSpec w_f_X3_goBack ({ frames := 6, cells := mc, slots := ms, locals := 178 })).room s m #[.ref (a 18), .int (L0.1 1)] below meth c dC dI cy a A (fun r => vx_MQ below (xI dC dI cy a A [20] z r) (xX dC dI cy a A [20] z r) #[.ref (a 18), .int (L0.1 1)] s mc ms A) [20] z mc ms 3 (f_X3_goBack k 2) (fun z L => [(0, .ref (a 18)), (1, .int (L.1 1)), (2, .int (L.1 2))]) 67 (fun z L => [])) ∧ (bX p l e (headSpec w_f_X3_goBack ({ frames := 6, cells := mc, slots := ms, locals := 178 })).room s m #[.ref (a 18), .int (L0.1 1)] below meth c dC dI cy a A (fun r => vx_MQ below (xI dC dI cy a A [20] z r) (xX dC dI cy a A [20] z r) #[.ref (a 18), .int (L0.1 1)] s mc ms A) [20] z mc ms 3 (f_X3_goBack k 3) (fun z L => [(0, .ref (a 18)), (1, .int (L.1 1))]) 106 (fun z L => [])) := by
    intro k
    induction k with
    | zero => exact ⟨fun z c1 c2 L σ r h => (by cases h), fun z c1 c2 L σ r h => (by cases h), fun z c1 c2 L σ r h => (by cases h), fun z c1 c2 L σ r h => (by cases h)⟩
    | succ k ih =>
      refine ⟨?_, ?_, ?_, ?_⟩
      · intro z cells slots L σ r h hzk hc hs H locs ls hP hD hS hl
        rw [f_X3_goBack] at h
        refine lv_aload_n hx hb dX3_goBack_0 rfl (lv_at hl 0 rfl) ?_
        refine hg_18_18 hx hb hts in_f_X3_goBack_X3 hown hK hP (hts _ (List.mem_cons_of_mem _ (List.mem_append_left _ (List.mem_append_left _ (List.mem_of_getElem? (i := 0) rfl))))) dX3_goBack_1 ?_
        refine lv_iload_n hx hb dX3_goBack_4 rfl (lv_at hl 1 rfl) ?_
        obtain ⟨r1, hc1, h⟩ := op_ex h
        refine kc_i (va_runV (As := [.int (L.1 1)]) (rest := []) ⟨hx, hb, hml, hown, hts⟩ (c_y_X9_newest l dC dI cy a z k (lI lZ 1 ((L.1 1))) σ r1 hc1 H.size) (cwV 1 hts g_y_X3_goBack_X9_newest_V158 rfl rfl rfl hd_y_X9_newest ⟨Nat.le_of_ble_eq_true rfl, Nat.le_of_ble_eq_true rfl⟩) ⟨nb_blind, va_recv hK hP (ci := 8) (q0 := 24) rfl rfl, (kb_pre hK hG hP hD)⟩ rfl rfl hl.1 rfl (lv_room (Nat.le_of_ble_eq_true rfl)) dX3_goBack_5 ⟨(Nat.le_trans (Nat.le_add_right _ _) (Nat.le_of_eq hc)), (Nat.le_trans (Nat.le_add_right _ _) (Nat.le_of_eq hs))⟩) hA hP hD hS (fun H locs hP hD hS => ?_)
        refine lv_istore_n (lv' := [(2, .int r1.1), (0, .ref (a 18)), (1, .int (L.1 1))]) hx hb dX3_goBack_8 rfl hl (by decide) rfl (fun ls hl => ?_)
        refine lv_iload_n hx hb dX3_goBack_9 rfl (lv_at hl 0 rfl) ?_
        refine lv_iconst (v := (-1)) hx hb dX3_goBack_10 (by decide) ?_
        refine lv_icmp_ne (tgt := 20) hx hb dX3_goBack_11 (by decide) (fun c2 => ?_) (fun c2 => ?_)
        · rw [if_neg c2] at h
          exact ih.2.1 z _ _ (lI L 2 r1.1) r1.2 _ h hzk hc hs H locs ls hP hD hS (lv_sub hl [1, 2, 0] rfl)
        · rw [if_pos c2] at h
          refine lv_aload_n hx hb dX3_goBack_14 rfl (lv_at hl 1 rfl) ?_
          obtain ⟨r3, hc3, hle3, h9⟩ := ox_ex h
          clear h
          refine kx_v (vx_runV (As := []) (rest := []) ⟨hx, hb, hml, hown, hts⟩ (c_f_X3_restart l hl0 dC dI cy ek a k lZ r1.2 r3 hc3 z H.size) (cwV 0 hts g_f_X3_goBack_X3_restart_V69 rfl rfl rfl hd_f_X3_restart ⟨Nat.le_of_ble_eq_true rfl, Nat.le_of_ble_eq_true rfl⟩) ⟨nb_blindF, va_recv hK hP (ci := 3) (q0 := 18) rfl rfl, (kx_pre hK hG hE hT hA hP hD hS)⟩ rfl rfl hl.1 rfl (lv_room (Nat.le_of_ble_eq_true rfl)) dX3_goBack_15 ⟨Nat.le_trans (Nat.add_le_add_left hle3.1 _) (Nat.le_of_eq hc), Nat.le_trans (Nat.add_le_add_left hle3.2 _) (Nat.le_of_eq hs)⟩) hK hA hzk hP hD hS (by decide) hno hlocks ?_
          rcases h9 with ⟨h00, y3, hny3, hy⟩ | ⟨h00, hy⟩
          · subst hy
            have h := hny3
            refine Or.inl ⟨h00, fun z H locs hz3 hzk hP hD hS => ?_⟩
            replace hc := (Nat.add_assoc _ _ _).trans hc
            replace hs := (Nat.add_assoc _ _ _).trans hs
            refine lv_iload_n hx hb dX3_goBack_18 rfl (lv_at hl 2 rfl) ?_
            obtain rfl := Option.some.inj h
            subst hc
            subst hs
            exact xr_i hx hb hr hK hzk hP hD hS hlocks dX3_goBack_19
          · subst hy
            exact Or.inr ⟨h00, rfl, hc, hs⟩
      · intro z cells slots L σ r h hzk hc hs H locs ls hP hD hS hl
        rw [f_X3_goBack] at h
        refine lv_aload_n hx hb dX3_goBack_20 rfl (lv_at hl 0 rfl) ?_
        refine hg_18_5 hx hb hts in_f_X3_goBack_X3 hown hK hP (hts _ (List.mem_cons_of_mem _ (List.mem_append_left _ (List.mem_append_left _ (List.mem_of_getElem? (i := 9) rfl))))) dX3_goBack_21 ?_
        refine lv_aload_n hx hb dX3_goBack_24 rfl (lv_at hl 0 rfl) ?_
        refine hg_18_18 hx hb hts in_f_X3_goBack_X3 hown hK hP (hts _ (List.mem_cons_of_mem _ (List.mem_append_left _ (List.mem_append_left _ (List.mem_of_getElem? (i := 0) rfl))))) dX3_goBack_25 ?_
        refine hg_24_0n hx hb hts in_f_X3_goBack_X9 hown hK hP (va_Nw.use rfl (hG.1 _ (List.mem_of_getElem? (i := 42) rfl))) dX3_goBack_28 ?_
        refine lv_iload_n hx hb dX3_goBack_31 rfl (lv_at hl 2 rfl) ?_
        obtain ⟨q1, h⟩ := kr_ite1 h
        refine hl_25 hx hb hK hP q1 dX3_goBack_32 ?_
        obtain ⟨r2, hc2, h⟩ := op_ex h
        refine kc_v (va_runV (As := [.ref (a (28 + (sPi σ ((L.1 2)).toNatClampNeg)))]) (rest := []) ⟨hx, hb, hml, hown, hts⟩ (c_y_X8_copyFrom__a19__R l dC dI cy a z k (lM lZ 1 ((sPi σ ((L.1 2)).toNatClampNeg))) σ r2 hc2 H.size) (cwV 1 hts g_y_X3_goBack_X8_copyFrom__a19__R_V166 rfl rfl rfl hd_y_X8_copyFrom__a19__R ⟨Nat.le_of_ble_eq_true rfl, Nat.le_of_ble_eq_true rfl⟩) ⟨nb_blind, va_recv hK hP (ci := 7) (q0 := 19) rfl rfl, (kb_pre hK hG hP hD)⟩ rfl rfl hl.1 rfl (lv_room (Nat.le_of_ble_eq_true rfl)) dX3_goBack_33 ⟨(Nat.le_trans (Nat.le_add_right _ _) (Nat.le_of_eq hc)), (Nat.le_trans (Nat.le_add_right _ _) (Nat.le_of_eq hs))⟩) hA hP hD hS (fun H locs hP hD hS => ?_)
        refine lv_aload_n hx hb dX3_goBack_36 rfl (lv_at hl 0 rfl) ?_
        refine hg_18_18 hx hb hts in_f_X3_goBack_X3 hown hK hP (hts _ (List.mem_cons_of_mem _ (List.mem_append_left _ (List.mem_append_left _ (List.mem_of_getElem? (i := 0) rfl))))) dX3_goBack_37 ?_
        refine hg_24_1n hx hb hts in_f_X3_goBack_X9 hown hK hP (va_Nw.use rfl (hG.1 _ (List.mem_of_getElem? (i := 43) rfl))) dX3_goBack_40 ?_
        refine lv_aload_n hx hb dX3_goBack_43 rfl (lv_at hl 0 rfl) ?_
        refine hg_18_18 hx hb hts in_f_X3_goBack_X3 hown hK hP (hts _ (List.mem_cons_of_mem _ (List.mem_append_left _ (List.mem_append_left _ (List.mem_of_getElem? (i := 0) rfl))))) dX3_goBack_44 ?_
        refine hg_24_2n hx hb hts in_f_X3_goBack_X9 hown hK hP (va_Nw.use rfl (hG.1 _ (List.mem_of_getElem? (i := 44) rfl))) dX3_goBack_47 ?_
        refine lv_iload_n hx hb dX3_goBack_50 rfl (lv_at hl 2 rfl) ?_
        obtain ⟨q3, h⟩ := kr_ite1 h
        refine hl_27 hx hb hK hP q3 dX3_goBack_51 ?_
        refine lv_aload_n hx hb dX3_goBack_52 rfl (lv_at hl 0 rfl) ?_
        refine hg_18_7 hx hb hts in_f_X3_goBack_X3 hown hK hP (hts _ (List.mem_cons_of_mem _ (List.mem_append_left _ (List.mem_append_left _ (List.mem_of_getElem? (i := 14) rfl))))) dX3_goBack_53 ?_
        refine lv_iconst (v := 0) hx hb dX3_goBack_56 (by decide) ?_
        refine lv_aload_n hx hb dX3_goBack_57 rfl (lv_at hl 0 rfl) ?_
        refine hg_18_5 hx hb hts in_f_X3_goBack_X3 hown hK hP (hts _ (List.mem_cons_of_mem _ (List.mem_append_left _ (List.mem_append_left _ (List.mem_of_getElem? (i := 9) rfl))))) dX3_goBack_58 ?_
        refine hg_19_2n hx hb hts in_f_X3_goBack_X8 hown hK hP (va_Nw.use rfl (hG.1 _ (List.mem_of_getElem? (i := 10) rfl))) dX3_goBack_61 ?_
        obtain ⟨q4, h⟩ := kr_ite1 h
        refine va_copyi (ty := .int) hx hb (hml.trans hl.1.symm) hown (hts _ (List.mem_cons_of_mem _ (List.mem_append_left _ (List.mem_append_left _ (List.mem_of_getElem? (i := 15) rfl))))) (hts _ (List.mem_cons_of_mem _ (List.mem_append_left _ (List.mem_append_left _ (List.mem_of_getElem? (i := 16) rfl))))) (hts _ (List.mem_cons_of_mem _ (List.mem_append_left _ (List.mem_append_left _ (List.mem_of_getElem? (i := 17) rfl))))) (hts _ (List.mem_cons_of_mem _ (List.mem_append_left _ (List.mem_append_left _ (List.mem_of_getElem? (i := 18) rfl))))) hK hP hD hS 26 20 1 1 rfl rfl rfl rfl rfl q4.1 q4.2.1 q4.2.2.1 q4.2.2.2.1 q4.2.2.2.2 (fun _ _ => rfl) (Nat.le_of_ble_eq_true rfl) (Nat.le_of_ble_eq_true rfl) dX3_goBack_64 (fun H locs hP hD hS => ?_)
        have hP : va_P (dC, dI) nCl (vC cy a z (uF r2.2 20 (va_cpy (r2.2.2.2.1 26) (r2.2.2.2.1 20) ((r2.2.2.2.1 27 ((L.1 2)).toNatClampNeg)).toNatClampNeg (0 : Int32).toNatClampNeg ((r2.2.1 1902)).toNatClampNeg))) H := hP
        have hD : va_D A (vC cy a z (uF r2.2 20 (va_cpy (r2.2.2.2.1 26) (r2.2.2.2.1 20) ((r2.2.2.2.1 27 ((L.1 2)).toNatClampNeg)).toNatClampNeg (0 : Int32).toNatClampNeg ((r2.2.1 1902)).toNatClampNeg))) := hD
        exact ih.2.2.1 z _ _ L (uF r2.2 20 (va_cpy (r2.2.2.2.1 26) (r2.2.2.2.1 20) ((r2.2.2.2.1 27 ((L.1 2)).toNatClampNeg)).toNatClampNeg (0 : Int32).toNatClampNeg ((r2.2.1 1902)).toNatClampNeg)) _ h hzk hc hs H locs ls hP hD hS (lv_sub hl [0, 1, 2] rfl)
      · intro z cells slots L σ r h hzk hc hs H locs ls hP hD hS hl
        rw [f_X3_goBack] at h
        refine lv_aload_n hx hb dX3_goBack_67 rfl (lv_at hl 0 rfl) ?_
        refine hg_18_18 hx hb hts in_f_X3_goBack_X3 hown hK hP (hts _ (List.mem_cons_of_mem _ (List.mem_append_left _ (List.mem_append_left _ (List.mem_of_getElem? (i := 0) rfl))))) dX3_goBack_68 ?_
        refine hg_24_1n hx hb hts in_f_X3_goBack_X9 hown hK hP (va_Nw.use rfl (hG.1 _ (List.mem_of_getElem? (i := 43) rfl))) dX3_goBack_71 ?_
        refine lv_aload_n hx hb dX3_goBack_74 rfl (lv_at hl 0 rfl) ?_
        refine hg_18_18 hx hb hts in_f_X3_goBack_X3 hown hK hP (hts _ (List.mem_cons_of_mem _ (List.mem_append_left _ (List.mem_append_left _ (List.mem_of_getElem? (i := 0) rfl))))) dX3_goBack_75 ?_
        refine hg_24_2n hx hb hts in_f_X3_goBack_X9 hown hK hP (va_Nw.use rfl (hG.1 _ (List.mem_of_getElem? (i := 44) rfl))) dX3_goBack_78 ?_
        refine lv_iload_n hx hb dX3_goBack_81 rfl (lv_at hl 2 rfl) ?_
        obtain ⟨q1, h⟩ := kr_ite1 h
        refine hl_27 hx hb hK hP q1 dX3_goBack_82 ?_
        refine lv_aload_n hx hb dX3_goBack_83 rfl (lv_at hl 0 rfl) ?_
        refine hg_18_5 hx hb hts in_f_X3_goBack_X3 hown hK hP (hts _ (List.mem_cons_of_mem _ (List.mem_append_left _ (List.mem_append_left _ (List.mem_of_getElem? (i := 9) rfl))))) dX3_goBack_84 ?_
        refine hg_19_2n hx hb hts in_f_X3_goBack_X8 hown hK hP (va_Nw.use rfl (hG.1 _ (List.mem_of_getElem? (i := 10) rfl))) dX3_goBack_87 ?_
        refine lv_iadd hx hb dX3_goBack_90 ?_
        refine lv_aload_n hx hb dX3_goBack_91 rfl (lv_at hl 0 rfl) ?_
        refine hg_18_8 hx hb hts in_f_X3_goBack_X3 hown hK hP (hts _ (List.mem_cons_of_mem _ (List.mem_append_left _ (List.mem_append_left _ (List.mem_of_getElem? (i := 19) rfl))))) dX3_goBack_92 ?_
        refine lv_iconst (v := 0) hx hb dX3_goBack_95 (by decide) ?_
        refine lv_aload_n hx hb dX3_goBack_96 rfl (lv_at hl 0 rfl) ?_
        refine hg_18_5 hx hb hts in_f_X3_goBack_X3 hown hK hP (hts _ (List.mem_cons_of_mem _ (List.mem_append_left _ (List.mem_append_left _ (List.mem_of_getElem? (i := 9) rfl))))) dX3_goBack_97 ?_
        refine hg_19_13n hx hb hts in_f_X3_goBack_X8 hown hK hP (va_Nw.use rfl (hG.1 _ (List.mem_of_getElem? (i := 34) rfl))) dX3_goBack_100 ?_
        obtain ⟨q2, h⟩ := kr_ite1 h
        refine va_copyi (ty := .int) hx hb (hml.trans hl.1.symm) hown (hts _ (List.mem_cons_of_mem _ (List.mem_append_left _ (List.mem_append_left _ (List.mem_of_getElem? (i := 15) rfl))))) (hts _ (List.mem_cons_of_mem _ (List.mem_append_left _ (List.mem_append_left _ (List.mem_of_getElem? (i := 16) rfl))))) (hts _ (List.mem_cons_of_mem _ (List.mem_append_left _ (List.mem_append_left _ (List.mem_of_getElem? (i := 17) rfl))))) (hts _ (List.mem_cons_of_mem _ (List.mem_append_left _ (List.mem_append_left _ (List.mem_of_getElem? (i := 18) rfl))))) hK hP hD hS 26 21 1 1 rfl rfl rfl rfl rfl q2.1 q2.2.1 q2.2.2.1 q2.2.2.2.1 q2.2.2.2.2 (fun _ _ => rfl) (Nat.le_of_ble_eq_true rfl) (Nat.le_of_ble_eq_true rfl) dX3_goBack_103 (fun H locs hP hD hS => ?_)
        have hP : va_P (dC, dI) nCl (vC cy a z (uF σ 21 (va_cpy (σ.2.2.1 26) (σ.2.2.1 21) ((((σ.2.2.1 27 ((L.1 2)).toNatClampNeg)) + ((σ.1 1902)))).toNatClampNeg (0 : Int32).toNatClampNeg ((σ.1 1913)).toNatClampNeg))) H := hP
        have hD : va_D A (vC cy a z (uF σ 21 (va_cpy (σ.2.2.1 26) (σ.2.2.1 21) ((((σ.2.2.1 27 ((L.1 2)).toNatClampNeg)) + ((σ.1 1902)))).toNatClampNeg (0 : Int32).toNatClampNeg ((σ.1 1913)).toNatClampNeg))) := hD
        exact ih.2.2.2 z _ _ L (uF σ 21 (va_cpy (σ.2.2.1 26) (σ.2.2.1 21) ((((σ.2.2.1 27 ((L.1 2)).toNatClampNeg)) + ((σ.1 1902)))).toNatClampNeg (0 : Int32).toNatClampNeg ((σ.1 1913)).toNatClampNeg)) _ h hzk hc hs H locs ls hP hD hS (lv_sub hl [0, 1] rfl)
      · intro z cells slots L σ r h hzk hc hs H locs ls hP hD hS hl
        rw [f_X3_goBack] at h
        refine lv_iload_n hx hb dX3_goBack_106 rfl (lv_at hl 1 rfl) ?_
        refine lv_aload_n hx hb dX3_goBack_107 rfl (lv_at hl 0 rfl) ?_
        refine hg_18_5 hx hb hts in_f_X3_goBack_X3 hown hK hP (hts _ (List.mem_cons_of_mem _ (List.mem_append_left _ (List.mem_append_left _ (List.mem_of_getElem? (i := 9) rfl))))) dX3_goBack_108 ?_
        refine hg_19_3n hx hb hts in_f_X3_goBack_X8 hown hK hP (va_Nw.use rfl (hG.1 _ (List.mem_of_getElem? (i := 12) rfl))) dX3_goBack_111 ?_
        refine lv_isub hx hb dX3_goBack_114 ?_
        obtain rfl := Option.some.inj h
        subst hc
        subst hs
        exact xr_i hx hb hr hK hzk hP hD hS hlocks dX3_goBack_115
  exact (blk k0).1 z 0 0 L0 σ0 r0 h0 (zk_rf _ _) ((Nat.zero_add _).trans hmc) ((Nat.zero_add _).trans hms) s.heap [] ls hP hD hS hl
/-! X3_makeRoom -/
def f_X3_makeRoom : Nat → Nat → LV → CS → Option RS
  | 0, _, _, _ => none
  | k + 1, 0, L, σ => op (y_X1_isTight k 0 lZ σ) (fun r1 => if r1.1 = 0 then (some ((0, 0), r1.2, (0, 0))) else (f_X3_makeRoom k 1 L r1.2))
  | k + 1, 1, L, σ => op (y_X3_moveAll k 0 lZ σ) (fun r1 => ox (f_X1_widen k 0 lZ r1.2) (fun r2 => op (y_X1_isScarce k 0 lZ r2.2.1) (fun r3 => if r3.1 = 0 then (f_X3_makeRoom k 2 L r3.2) else (op (y_X9_used k 0 lZ r3.2) (fun r5 => if r5.1 ≤ 0 then (f_X3_makeRoom k 2 L r5.2) else (op (y_X9_drop k 0 lZ r5.2) (fun r7 => op (y_X3_moveAll k 0 lZ r7.2) (fun r8 => f_X3_makeRoom k 2 L r8.2))))))))
  | k + 1, 2, L, σ => some ((0, 0), σ, (0, 0))
  | _ + 1, _ + 3, _, _ => none
def o_f_X3_makeRoom : List Cond := [.fieldLink RX3 39 "SetHouse$Machine" "heap" "LSetHouse$Heap;", .methodLink RX3 188 yX1_isTight, .instanceMethod yX1_isTight, .selects RX1 yX1_isTight yX1_isTight, .initialized RX1, .methodLink RX3 194 yX3_moveAll, .instanceMethod yX3_moveAll, .selects RX3 yX3_moveAll yX3_moveAll, .initialized RX3, .methodLink RX3 197 yX1_widen, .instanceMethod yX1_widen, .selects RX1 yX1_widen yX1_widen, .methodLink RX3 200 yX1_isScarce, .instanceMethod yX1_isScarce, .selects RX1 yX1_isScarce yX1_isScarce, .fieldLink RX3 35 "SetHouse$Machine" "saves" "LSetHouse$Saves;", .methodLink RX3 203 yX9_used, .instanceMethod yX9_used, .selects RX9 yX9_used yX9_used, .initialized RX9, .methodLink RX3 207 yX9_drop, .instanceMethod yX9_drop, .selects RX9 yX9_drop yX9_drop]
theorem o_f_X3_makeRoom_good : o_f_X3_makeRoom.all goodWord = true := by decide +kernel
def p_f_X3_makeRoom : List Cond := o_f_X3_makeRoom ++ ((.code yX1_isTight cX1_isTight 1 (some .boolean) :: p_y_X1_isTight) ++ ((.code yX3_moveAll cX3_moveAll 1 none :: p_y_X3_moveAll) ++ ((.code yX1_widen cX1_widen 1 none :: p_f_X1_widen) ++ ((.code yX1_isScarce cX1_isScarce 1 (some .boolean) :: p_y_X1_isScarce) ++ ((.code yX9_used cX9_used 1 (some .int) :: p_y_X9_used) ++ ((.code yX9_drop cX9_drop 1 none :: p_y_X9_drop) ++ []))))))
theorem p_f_X3_makeRoom_good : p_f_X3_makeRoom.all goodWord = true := nb_all2 o_f_X3_makeRoom_good (nb_all2 (nb_allc (by decide +kernel) p_y_X1_isTight_good) (nb_all2 (nb_allc (by decide +kernel) p_y_X3_moveAll_good) (nb_all2 (nb_allc (by decide +kernel) p_f_X1_widen_good) (nb_all2 (nb_allc (by decide +kernel) p_y_X1_isScarce_good) (nb_all2 (nb_allc (by decide +kernel) p_y_X9_used_good) (nb_all2 (nb_allc (by decide +kernel) p_y_X9_drop_good) rfl))))))
def w_f_X3_makeRoom : List Cond := .code yX3_makeRoom cX3_makeRoom 1 none :: (p_f_X3_makeRoom ++ fC)
theorem w_f_X3_makeRoom_good : w_f_X3_makeRoom.all goodWord = true := nb_allc (by decide +kernel) (nb_all2 p_f_X3_makeRoom_good fC_good)
theorem in_f_X3_makeRoom_X3 : ∀ w ∈ wsX30, w ∈ w_f_X3_makeRoom := fun _ h => List.mem_cons_of_mem _ (List.mem_append_right _ (List.mem_append_right _ (List.mem_append_right _ (List.mem_append_right _ (List.mem_append_left _ h)))))
theorem hd_f_X3_makeRoom : yX3_makeRoom.cls = RX3 ∧ yX3_makeRoom.cls ≠ "java/lang/invoke/MethodHandle" ∧ yX3_makeRoom.cls ≠ "java/lang/invoke/VarHandle" ∧ (parseMethodDescriptor yX3_makeRoom.desc).map (fun d => d.parameters.length) = some 0 := by decide +kernel
theorem gg_f_X3_makeRoom_X1_widen : GoodIn w_f_X3_makeRoom w_f_X1_widen := goodIn_sub (fun w h => (List.mem_cons.mp h).elim (fun e => (List.mem_cons_of_mem _ (List.mem_append_left _ (List.mem_append_right _ (List.mem_append_right _ (List.mem_append_right _ (List.mem_append_left _ (List.mem_cons.mpr (Or.inl e))))))))) (fun h => (List.mem_append.mp h).elim (fun h => (List.mem_cons_of_mem _ (List.mem_append_left _ (List.mem_append_right _ (List.mem_append_right _ (List.mem_append_right _ (List.mem_append_left _ (List.mem_cons_of_mem _ h)))))))) (fun h => List.mem_cons_of_mem _ (List.mem_append_right _ h)))) w_f_X1_widen_good
theorem g_f_X3_makeRoom_X1_widen_V197 : GoodIn w_f_X3_makeRoom (wsV RX3 197 RX1 yX1_widen w_f_X1_widen) := goodIn_app (nb_g4 (List.mem_cons_of_mem _ (List.mem_append_left _ (List.mem_append_left _ (List.mem_of_getElem? (i := 9) rfl)))) (List.mem_cons_of_mem _ (List.mem_append_left _ (List.mem_append_left _ (List.mem_of_getElem? (i := 10) rfl)))) (List.mem_cons_of_mem _ (List.mem_append_left _ (List.mem_append_left _ (List.mem_of_getElem? (i := 11) rfl)))) (List.mem_cons_of_mem _ (List.mem_append_left _ (List.mem_append_left _ (List.mem_of_getElem? (i := 4) rfl)))) (by decide +kernel)) gg_f_X3_makeRoom_X1_widen
theorem gg_f_X3_makeRoom_X1_isScarce : GoodIn w_f_X3_makeRoom w_y_X1_isScarce := goodIn_sub (fun w h => (List.mem_cons.mp h).elim (fun e => (List.mem_cons_of_mem _ (List.mem_append_left _ (List.mem_append_right _ (List.mem_append_right _ (List.mem_append_right _ (List.mem_append_right _ (List.mem_append_left _ (List.mem_cons.mpr (Or.inl e)))))))))) (fun h => (List.mem_append.mp h).elim (fun h => (List.mem_cons_of_mem _ (List.mem_append_left _ (List.mem_append_right _ (List.mem_append_right _ (List.mem_append_right _ (List.mem_append_right _ (List.mem_append_left _ (List.mem_cons_of_mem _ h))))))))) (fun h => List.mem_cons_of_mem _ (List.mem_append_right _ h)))) w_y_X1_isScarce_good
theorem g_y_X3_makeRoom_X1_isScarce_V200 : GoodIn w_f_X3_makeRoom (wsV RX3 200 RX1 yX1_isScarce w_y_X1_isScarce) := goodIn_app (nb_g4 (List.mem_cons_of_mem _ (List.mem_append_left _ (List.mem_append_left _ (List.mem_of_getElem? (i := 12) rfl)))) (List.mem_cons_of_mem _ (List.mem_append_left _ (List.mem_append_left _ (List.mem_of_getElem? (i := 13) rfl)))) (List.mem_cons_of_mem _ (List.mem_append_left _ (List.mem_append_left _ (List.mem_of_getElem? (i := 14) rfl)))) (List.mem_cons_of_mem _ (List.mem_append_left _ (List.mem_append_left _ (List.mem_of_getElem? (i := 4) rfl)))) (by decide +kernel)) gg_f_X3_makeRoom_X1_isScarce
theorem gg_f_X3_makeRoom_X1_isTight : GoodIn w_f_X3_makeRoom w_y_X1_isTight := goodIn_sub (fun w h => (List.mem_cons.mp h).elim (fun e => (List.mem_cons_of_mem _ (List.mem_append_left _ (List.mem_append_right _ (List.mem_append_left _ (List.mem_cons.mpr (Or.inl e))))))) (fun h => (List.mem_append.mp h).elim (fun h => (List.mem_cons_of_mem _ (List.mem_append_left _ (List.mem_append_right _ (List.mem_append_left _ (List.mem_cons_of_mem _ h)))))) (fun h => List.mem_cons_of_mem _ (List.mem_append_right _ h)))) w_y_X1_isTight_good
theorem g_y_X3_makeRoom_X1_isTight_V188 : GoodIn w_f_X3_makeRoom (wsV RX3 188 RX1 yX1_isTight w_y_X1_isTight) := goodIn_app (nb_g4 (List.mem_cons_of_mem _ (List.mem_append_left _ (List.mem_append_left _ (List.mem_of_getElem? (i := 1) rfl)))) (List.mem_cons_of_mem _ (List.mem_append_left _ (List.mem_append_left _ (List.mem_of_getElem? (i := 2) rfl)))) (List.mem_cons_of_mem _ (List.mem_append_left _ (List.mem_append_left _ (List.mem_of_getElem? (i := 3) rfl)))) (List.mem_cons_of_mem _ (List.mem_append_left _ (List.mem_append_left _ (List.mem_of_getElem? (i := 4) rfl)))) (by decide +kernel)) gg_f_X3_makeRoom_X1_isTight
theorem gg_f_X3_makeRoom_X3_moveAll : GoodIn w_f_X3_makeRoom w_y_X3_moveAll := goodIn_sub (fun w h => (List.mem_cons.mp h).elim (fun e => (List.mem_cons_of_mem _ (List.mem_append_left _ (List.mem_append_right _ (List.mem_append_right _ (List.mem_append_left _ (List.mem_cons.mpr (Or.inl e)))))))) (fun h => (List.mem_append.mp h).elim (fun h => (List.mem_cons_of_mem _ (List.mem_append_left _ (List.mem_append_right _ (List.mem_append_right _ (List.mem_append_left _ (List.mem_cons_of_mem _ h))))))) (fun h => List.mem_cons_of_mem _ (List.mem_append_right _ h)))) w_y_X3_moveAll_good
theorem g_y_X3_makeRoom_X3_moveAll_V194 : GoodIn w_f_X3_makeRoom (wsV RX3 194 RX3 yX3_moveAll w_y_X3_moveAll) := goodIn_app (nb_g4 (List.mem_cons_of_mem _ (List.mem_append_left _ (List.mem_append_left _ (List.mem_of_getElem? (i := 5) rfl)))) (List.mem_cons_of_mem _ (List.mem_append_left _ (List.mem_append_left _ (List.mem_of_getElem? (i := 6) rfl)))) (List.mem_cons_of_mem _ (List.mem_append_left _ (List.mem_append_left _ (List.mem_of_getElem? (i := 7) rfl)))) (List.mem_cons_of_mem _ (List.mem_append_left _ (List.mem_append_left _ (List.mem_of_getElem? (i := 8) rfl)))) (by decide +kernel)) gg_f_X3_makeRoom_X3_moveAll
theorem gg_f_X3_makeRoom_X9_drop : GoodIn w_f_X3_makeRoom w_y_X9_drop := goodIn_sub (fun w h => (List.mem_cons.mp h).elim (fun e => (List.mem_cons_of_mem _ (List.mem_append_left _ (List.mem_append_right _ (List.mem_append_right _ (List.mem_append_right _ (List.mem_append_right _ (List.mem_append_right _ (List.mem_append_right _ (List.mem_append_left _ (List.mem_cons.mpr (Or.inl e)))))))))))) (fun h => (List.mem_append.mp h).elim (fun h => (List.mem_cons_of_mem _ (List.mem_append_left _ (List.mem_append_right _ (List.mem_append_right _ (List.mem_append_right _ (List.mem_append_right _ (List.mem_append_right _ (List.mem_append_right _ (List.mem_append_left _ (List.mem_cons_of_mem _ h))))))))))) (fun h => List.mem_cons_of_mem _ (List.mem_append_right _ h)))) w_y_X9_drop_good
theorem g_y_X3_makeRoom_X9_drop_V207 : GoodIn w_f_X3_makeRoom (wsV RX3 207 RX9 yX9_drop w_y_X9_drop) := goodIn_app (nb_g4 (List.mem_cons_of_mem _ (List.mem_append_left _ (List.mem_append_left _ (List.mem_of_getElem? (i := 20) rfl)))) (List.mem_cons_of_mem _ (List.mem_append_left _ (List.mem_append_left _ (List.mem_of_getElem? (i := 21) rfl)))) (List.mem_cons_of_mem _ (List.mem_append_left _ (List.mem_append_left _ (List.mem_of_getElem? (i := 22) rfl)))) (List.mem_cons_of_mem _ (List.mem_append_left _ (List.mem_append_left _ (List.mem_of_getElem? (i := 19) rfl)))) (by decide +kernel)) gg_f_X3_makeRoom_X9_drop
theorem gg_f_X3_makeRoom_X9_used : GoodIn w_f_X3_makeRoom w_y_X9_used := goodIn_sub (fun w h => (List.mem_cons.mp h).elim (fun e => (List.mem_cons_of_mem _ (List.mem_append_left _ (List.mem_append_right _ (List.mem_append_right _ (List.mem_append_right _ (List.mem_append_right _ (List.mem_append_right _ (List.mem_append_left _ (List.mem_cons.mpr (Or.inl e))))))))))) (fun h => (List.mem_append.mp h).elim (fun h => (List.mem_cons_of_mem _ (List.mem_append_left _ (List.mem_append_right _ (List.mem_append_right _ (List.mem_append_right _ (List.mem_append_right _ (List.mem_append_right _ (List.mem_append_left _ (List.mem_cons_of_mem _ h)))))))))) (fun h => List.mem_cons_of_mem _ (List.mem_append_right _ h)))) w_y_X9_used_good
theorem g_y_X3_makeRoom_X9_used_V203 : GoodIn w_f_X3_makeRoom (wsV RX3 203 RX9 yX9_used w_y_X9_used) := goodIn_app (nb_g4 (List.mem_cons_of_mem _ (List.mem_append_left _ (List.mem_append_left _ (List.mem_of_getElem? (i := 16) rfl)))) (List.mem_cons_of_mem _ (List.mem_append_left _ (List.mem_append_left _ (List.mem_of_getElem? (i := 17) rfl)))) (List.mem_cons_of_mem _ (List.mem_append_left _ (List.mem_append_left _ (List.mem_of_getElem? (i := 18) rfl)))) (List.mem_cons_of_mem _ (List.mem_append_left _ (List.mem_append_left _ (List.mem_of_getElem? (i := 19) rfl)))) (by decide +kernel)) gg_f_X3_makeRoom_X9_used
set_option maxHeartbeats 40000000 in
set_option maxRecDepth 100000 in
theorem c_f_X3_makeRoom (l : Launch) (hl0 : l.stackTraces = false) (dC : Nat → ClassId) (dI : Nat → Nat → Nat) (cy : Nat → ClassId) (ek a : Nat → Nat) (k0 : Nat) (L0 : LV) (σ0 : CS) (r0 : RS) (h0 : f_X3_makeRoom k0 0 L0 σ0 = some r0) (z : Nat → Nat) (sz : Nat) : vx_Met l yX3_makeRoom w_f_X3_makeRoom ({ frames := 63, cells := r0.2.2.1, slots := r0.2.2.2, locals := 1568 }) (va_Pc [.ref (a 18)] (nInF (dC, dI) cy ek sz (vC cy a z σ0))) (xV dC dI cy a (va_A (vC cy a z σ0) sz) [1, 2, 3] z r0) (xX dC dI cy a (va_A (vC cy a z σ0) sz) [1, 2, 3] z r0) r0.2.2.1 r0.2.2.2 (va_A (vC cy a z σ0) sz) := by
  refine vx_ofW (cc := cX3_makeRoom) (maxL := 1) (ret := none) (by decide) rfl ?_
  intro p e s m args below meth c s₁ B hml hno hv
  obtain ⟨rfl, ⟨⟨hsz, hP, hK, hD0, hG⟩, hE⟩, hT⟩ := hv
  have hx := B.exec
  have hb := B.bytes
  have hr := B.returns
  have hts := atoms_spec (ws := w_f_X3_makeRoom) B.pre
  have hown : s.vm.findClass RX3 = some m.cls := findClass_of_methodNamed B.named
  have hlocks := B.notSynchronized
  subst hsz
  have hD := hD0.self (sz := s.heap.size)
  generalize hAe : va_A (vC cy a z σ0) s.heap.size = A at hD hE hT ⊢
  have hA : ∀ q : Nat, s.heap.size ≤ q → A q := fun q h => by rw [← hAe]; exact Or.inr h
  have hS : va_S A s.heap s.heap [] := va_S.rf
  have hl := lv_entry ([.ref (a 18)]) (n := 1) (Nat.le_of_ble_eq_true rfl)
  rw [lg_entry_eq]
  generalize (lg_sl ([.ref (a 18)]) ++ List.replicate (1 - (lg_sl ([.ref (a 18)])).length) Slot.unset).toArray = ls at hl ⊢
  have hl : lv_has ls 1 [(0, .ref (a 18))] := hl
  generalize hmc : r0.2.2.1 = mc
  generalize hms : r0.2.2.2 = ms
  have blk : ∀ k : Nat, (bX p l e (headSpec w_f_X3_makeRoom ({ frames := 63, cells := mc, slots := ms, locals := 1568 })).room s m #[.ref (a 18)] below meth c dC dI cy a A (fun r => vx_MQ below (xV dC dI cy a A [1, 2, 3] z r) (xX dC dI cy a A [1, 2, 3] z r) #[.ref (a 18)] s mc ms A) [1, 2, 3] z mc ms 1 (f_X3_makeRoom k 0) (fun z L => [(0, .ref (a 18))]) 0 (fun z L => [])) ∧ (bX p l e (headSpec w_f_X3_makeRoom ({ frames := 63, cells := mc, slots := ms, locals := 1568 })).room s m #[.ref (a 18)] below meth c dC dI cy a A (fun r => vx_MQ below (xV dC dI cy a A [1, 2, 3] z r) (xX dC dI cy a A [1, 2, 3] z r) #[.ref (a 18)] s mc ms A) [1, 2, 3] z mc ms 1 (f_X3_makeRoom k 1) (fun z L => [(0, .ref (a 18))]) 11 (fun z L => [])) ∧ (bX p l e (headSpec w_f_X3_makeRoom ({ frames := 63, cells := mc, slots := ms, locals := 1568 })).room s m #[.ref (a 18)] below meth c dC dI cy a A (fun r => vx_MQ below (xV dC dI cy a A [1, 2, 3] z r) (xX dC dI cy a A [1, 2, 3] z r) #[.ref (a 18)] s mc ms A) [1, 2, 3] z mc ms 1 (f_X3_makeRoom k 2) (fun z L => []) 53 (fun z L => [])) := by
    intro k
    induction k with
    | zero => exact ⟨fun z c1 c2 L σ r h => (by cases h), fun z c1 c2 L σ r h => (by cases h), fun z c1 c2 L σ r h => (by cases h)⟩
    | succ k ih =>
      refine ⟨?_, ?_, ?_⟩
      · intro z cells slots L σ r h hzk hc hs H locs ls hP hD hS hl
        rw [f_X3_makeRoom] at h
        refine lv_aload_n hx hb dX3_makeRoom_0 rfl (lv_at hl 0 rfl) ?_
        refine hg_18_0 hx hb hts in_f_X3_makeRoom_X3 hown hK hP (hts _ (List.mem_cons_of_mem _ (List.mem_append_left _ (List.mem_append_left _ (List.mem_of_getElem? (i := 0) rfl))))) dX3_makeRoom_1 ?_
        obtain ⟨r1, hc1, h⟩ := op_ex h
        refine kc_i (va_runV (As := []) (rest := []) ⟨hx, hb, hml, hown, hts⟩ (c_y_X1_isTight l dC dI cy a z k lZ σ r1 hc1 H.size) (cwV 0 hts g_y_X3_makeRoom_X1_isTight_V188 rfl rfl rfl hd_y_X1_isTight ⟨Nat.le_of_ble_eq_true rfl, Nat.le_of_ble_eq_true rfl⟩) ⟨nb_blind, va_recv hK hP (ci := 1) (q0 := 0) rfl rfl, (kb_pre hK hG hP hD)⟩ rfl rfl hl.1 rfl (lv_room (Nat.le_of_ble_eq_true rfl)) dX3_makeRoom_4 ⟨(Nat.le_trans (Nat.le_add_right _ _) (Nat.le_of_eq hc)), (Nat.le_trans (Nat.le_add_right _ _) (Nat.le_of_eq hs))⟩) hA hP hD hS (fun H locs hP hD hS => ?_)
        refine lv_if_ne (tgt := 11) hx hb dX3_makeRoom_7 (by decide) (fun c2 => ?_) (fun c2 => ?_)
        · rw [if_neg c2] at h
          exact ih.2.1 z _ _ L r1.2 _ h hzk hc hs H locs ls hP hD hS (lv_sub hl [0] rfl)
        · rw [if_pos c2] at h
          obtain rfl := Option.some.inj h
          subst hc
          subst hs
          exact xr_v hx hb hr hK hzk hP hD hS hlocks dX3_makeRoom_10
      · intro z cells slots L σ r h hzk hc hs H locs ls hP hD hS hl
        rw [f_X3_makeRoom] at h
        refine lv_aload_n hx hb dX3_makeRoom_11 rfl (lv_at hl 0 rfl) ?_
        obtain ⟨r1, hc1, h⟩ := op_ex h
        refine kc_v (va_runV (As := []) (rest := []) ⟨hx, hb, hml, hown, hts⟩ (c_y_X3_moveAll l dC dI cy a z k lZ σ r1 hc1 H.size) (cwV 0 hts g_y_X3_makeRoom_X3_moveAll_V194 rfl rfl rfl hd_y_X3_moveAll ⟨Nat.le_of_ble_eq_true rfl, Nat.le_of_ble_eq_true rfl⟩) ⟨nb_blind, va_recv hK hP (ci := 3) (q0 := 18) rfl rfl, (kb_pre hK hG hP hD)⟩ rfl rfl hl.1 rfl (lv_room (Nat.le_of_ble_eq_true rfl)) dX3_makeRoom_12 ⟨(Nat.le_trans (Nat.le_add_right _ _) (Nat.le_of_eq hc)), (Nat.le_trans (Nat.le_add_right _ _) (Nat.le_of_eq hs))⟩) hA hP hD hS (fun H locs hP hD hS => ?_)
        refine lv_aload_n hx hb dX3_makeRoom_15 rfl (lv_at hl 0 rfl) ?_
        refine hg_18_0 hx hb hts in_f_X3_makeRoom_X3 hown hK hP (hts _ (List.mem_cons_of_mem _ (List.mem_append_left _ (List.mem_append_left _ (List.mem_of_getElem? (i := 0) rfl))))) dX3_makeRoom_16 ?_
        obtain ⟨r2, hc2, hle2, h9⟩ := ox_ex h
        clear h
        refine kx_v (vx_runV (As := []) (rest := []) ⟨hx, hb, hml, hown, hts⟩ (c_f_X1_widen l hl0 dC dI cy ek a k lZ r1.2 r2 hc2 z H.size) (cwV 0 hts g_f_X3_makeRoom_X1_widen_V197 rfl rfl rfl hd_f_X1_widen ⟨Nat.le_of_ble_eq_true rfl, Nat.le_of_ble_eq_true rfl⟩) ⟨nb_blindF, va_recv hK hP (ci := 1) (q0 := 0) rfl rfl, (kx_pre hK hG hE hT hA hP hD hS)⟩ rfl rfl hl.1 rfl (lv_room (Nat.le_of_ble_eq_true rfl)) dX3_makeRoom_19 ⟨Nat.le_trans (Nat.add_le_add_left hle2.1 _) (Nat.le_of_eq hc), Nat.le_trans (Nat.add_le_add_left hle2.2 _) (Nat.le_of_eq hs)⟩) hK hA hzk hP hD hS (by decide) hno hlocks ?_
        rcases h9 with ⟨h00, y2, hny2, hy⟩ | ⟨h00, hy⟩
        · subst hy
          have h := hny2
          refine Or.inl ⟨h00, fun z H locs hz2 hzk hP hD hS => ?_⟩
          replace hc := (Nat.add_assoc _ _ _).trans hc
          replace hs := (Nat.add_assoc _ _ _).trans hs
          refine lv_aload_n hx hb dX3_makeRoom_22 rfl (lv_at hl 0 rfl) ?_
          refine hg_18_0 hx hb hts in_f_X3_makeRoom_X3 hown hK hP (hts _ (List.mem_cons_of_mem _ (List.mem_append_left _ (List.mem_append_left _ (List.mem_of_getElem? (i := 0) rfl))))) dX3_makeRoom_23 ?_
          obtain ⟨r3, hc3, h⟩ := op_ex h
          refine kc_i (va_runV (As := []) (rest := []) ⟨hx, hb, hml, hown, hts⟩ (c_y_X1_isScarce l dC dI cy a z k lZ r2.2.1 r3 hc3 H.size) (cwV 0 hts g_y_X3_makeRoom_X1_isScarce_V200 rfl rfl rfl hd_y_X1_isScarce ⟨Nat.le_of_ble_eq_true rfl, Nat.le_of_ble_eq_true rfl⟩) ⟨nb_blind, va_recv hK hP (ci := 1) (q0 := 0) rfl rfl, (kb_pre hK hG hP hD)⟩ rfl rfl hl.1 rfl (lv_room (Nat.le_of_ble_eq_true rfl)) dX3_makeRoom_26 ⟨(Nat.le_trans (Nat.le_add_right _ _) (Nat.le_of_eq hc)), (Nat.le_trans (Nat.le_add_right _ _) (Nat.le_of_eq hs))⟩) hA hP hD hS (fun H locs hP hD hS => ?_)
          refine lv_if_eq (tgt := 53) hx hb dX3_makeRoom_29 (by decide) (fun c4 => ?_) (fun c4 => ?_)
          · rw [if_pos c4] at h
            exact ih.2.2 z _ _ L r3.2 _ h hzk hc hs H locs ls hP hD hS (lv_sub hl [] rfl)
          · rw [if_neg c4] at h
            refine lv_aload_n hx hb dX3_makeRoom_32 rfl (lv_at hl 0 rfl) ?_
            refine hg_18_18 hx hb hts in_f_X3_makeRoom_X3 hown hK hP (hts _ (List.mem_cons_of_mem _ (List.mem_append_left _ (List.mem_append_left _ (List.mem_of_getElem? (i := 15) rfl))))) dX3_makeRoom_33 ?_
            obtain ⟨r5, hc5, h⟩ := op_ex h
            refine kc_i (va_runV (As := []) (rest := []) ⟨hx, hb, hml, hown, hts⟩ (c_y_X9_used l dC dI cy a z k lZ r3.2 r5 hc5 H.size) (cwV 0 hts g_y_X3_makeRoom_X9_used_V203 rfl rfl rfl hd_y_X9_used ⟨Nat.le_of_ble_eq_true rfl, Nat.le_of_ble_eq_true rfl⟩) ⟨nb_blind, va_recv hK hP (ci := 8) (q0 := 24) rfl rfl, (kb_pre hK hG hP hD)⟩ rfl rfl hl.1 rfl (lv_room (Nat.le_of_ble_eq_true rfl)) dX3_makeRoom_36 ⟨(Nat.le_trans (Nat.le_add_right _ _) (Nat.le_of_eq hc)), (Nat.le_trans (Nat.le_add_right _ _) (Nat.le_of_eq hs))⟩) hA hP hD hS (fun H locs hP hD hS => ?_)
            refine lv_if_le (tgt := 53) hx hb dX3_makeRoom_39 (by decide) (fun c6 => ?_) (fun c6 => ?_)
            · rw [if_pos c6] at h
              exact ih.2.2 z _ _ L r5.2 _ h hzk hc hs H locs ls hP hD hS (lv_sub hl [] rfl)
            · rw [if_neg c6] at h
              refine lv_aload_n hx hb dX3_makeRoom_42 rfl (lv_at hl 0 rfl) ?_
              refine hg_18_18 hx hb hts in_f_X3_makeRoom_X3 hown hK hP (hts _ (List.mem_cons_of_mem _ (List.mem_append_left _ (List.mem_append_left _ (List.mem_of_getElem? (i := 15) rfl))))) dX3_makeRoom_43 ?_
              obtain ⟨r7, hc7, h⟩ := op_ex h
              refine kc_v (va_runV (As := []) (rest := []) ⟨hx, hb, hml, hown, hts⟩ (c_y_X9_drop l dC dI cy a z k lZ r5.2 r7 hc7 H.size) (cwV 0 hts g_y_X3_makeRoom_X9_drop_V207 rfl rfl rfl hd_y_X9_drop ⟨Nat.le_of_ble_eq_true rfl, Nat.le_of_ble_eq_true rfl⟩) ⟨nb_blind, va_recv hK hP (ci := 8) (q0 := 24) rfl rfl, (kb_pre hK hG hP hD)⟩ rfl rfl hl.1 rfl (lv_room (Nat.le_of_ble_eq_true rfl)) dX3_makeRoom_46 ⟨(Nat.le_trans (Nat.le_add_right _ _) (Nat.le_of_eq hc)), (Nat.le_trans (Nat.le_add_right _ _) (Nat.le_of_eq hs))⟩) hA hP hD hS (fun H locs hP hD hS => ?_)
              refine lv_aload_n hx hb dX3_makeRoom_49 rfl (lv_at hl 0 rfl) ?_
              obtain ⟨r8, hc8, h⟩ := op_ex h
              refine kc_v (va_runV (As := []) (rest := []) ⟨hx, hb, hml, hown, hts⟩ (c_y_X3_moveAll l dC dI cy a z k lZ r7.2 r8 hc8 H.size) (cwV 0 hts g_y_X3_makeRoom_X3_moveAll_V194 rfl rfl rfl hd_y_X3_moveAll ⟨Nat.le_of_ble_eq_true rfl, Nat.le_of_ble_eq_true rfl⟩) ⟨nb_blind, va_recv hK hP (ci := 3) (q0 := 18) rfl rfl, (kb_pre hK hG hP hD)⟩ rfl rfl hl.1 rfl (lv_room (Nat.le_of_ble_eq_true rfl)) dX3_makeRoom_50 ⟨(Nat.le_trans (Nat.le_add_right _ _) (Nat.le_of_eq hc)), (Nat.le_trans (Nat.le_add_right _ _) (Nat.le_of_eq hs))⟩) hA hP hD hS (fun H locs hP hD hS => ?_)
              exact ih.2.2 z _ _ L r8.2 _ h hzk hc hs H locs ls hP hD hS (lv_sub hl [] rfl)
        · subst hy
          exact Or.inr ⟨h00, rfl, hc, hs⟩
      · intro z cells slots L σ r h hzk hc hs H locs ls hP hD hS hl
        rw [f_X3_makeRoom] at h
        obtain rfl := Option.some.inj h
        subst hc
        subst hs
        exact xr_v hx hb hr hK hzk hP hD hS hlocks dX3_makeRoom_53
  exact (blk k0).1 z 0 0 L0 σ0 r0 h0 (zk_rf _ _) ((Nat.zero_add _).trans hmc) ((Nat.zero_add _).trans hms) s.heap [] ls hP hD hS hl
/-! X9_thinOut -/
def f_X9_thinOut : Nat → Nat → LV → CS → Option RS
  | 0, _, _, _ => none
  | k + 1, 0, L, σ => f_X9_thinOut k 1 (lI L 1 ((σ.1 2404))) (uI (uI σ 2406 ((2 * ((if ((σ.1 2406)) < (256 : Int32) then (256 : Int32) else ((σ.1 2406))))))) 2403 0)
  | k + 1, 1, L, σ => f_X9_thinOut k 2 (lI L 2 0) (uI σ 2404 0)
  | k + 1, 2, L, σ => if ((L.1 1)) ≤ ((L.1 2)) then (f_X9_thinOut k 3 L σ) else (if ¬ (((L.1 2)) < 0 ∨ 9 ≤ ((L.1 2)).toNatClampNeg) then (if ((sPi σ ((L.1 2)).toNatClampNeg)) < 9 then (if ((if ((σ.1 2406)) < (256 : Int32) then (256 : Int32) else ((σ.1 2406)))) = 0 then none else (if ((((σ.1 (100 * (28 + ((sPi σ ((L.1 2)).toNatClampNeg))) + 3))) - ((σ.1 (100 * (28 + ((sPi σ ((L.1 2)).toNatClampNeg))) + 3))) / ((if ((σ.1 2406)) < (256 : Int32) then (256 : Int32) else ((σ.1 2406)))) * ((if ((σ.1 2406)) < (256 : Int32) then (256 : Int32) else ((σ.1 2406)))))) = 0 then (if ¬ (((L.1 2)) < 0 ∨ 9 ≤ ((L.1 2)).toNatClampNeg) then (if ((sPi σ ((L.1 2)).toNatClampNeg)) < 9 then (if ((sPi σ ((L.1 2)).toNatClampNeg)) < 9 then (if ¬ ((σ.2.2.1 27 ((L.1 2)).toNatClampNeg)) < 0 ∧ ¬ ((σ.1 2403)) < 0 ∧ ¬ ((((σ.1 (100 * (28 + ((sPi σ ((L.1 2)).toNatClampNeg))) + 2))) + ((σ.1 (100 * (28 + ((sPi σ ((L.1 2)).toNatClampNeg))) + 13))))) < 0 ∧ ((σ.2.2.1 27 ((L.1 2)).toNatClampNeg)).toNatClampNeg + ((((σ.1 (100 * (28 + ((sPi σ ((L.1 2)).toNatClampNeg))) + 2))) + ((σ.1 (100 * (28 + ((sPi σ ((L.1 2)).toNatClampNeg))) + 13))))).toNatClampNeg ≤ (sN σ 26) ∧ ((σ.1 2403)).toNatClampNeg + ((((σ.1 (100 * (28 + ((sPi σ ((L.1 2)).toNatClampNeg))) + 2))) + ((σ.1 (100 * (28 + ((sPi σ ((L.1 2)).toNatClampNeg))) + 13))))).toNatClampNeg ≤ (sN σ 26) then (f_X9_thinOut k 5 (lM L 3 ((sPi σ ((L.1 2)).toNatClampNeg))) (uF σ 26 (va_cpy (σ.2.2.1 26) (σ.2.2.1 26) ((σ.2.2.1 27 ((L.1 2)).toNatClampNeg)).toNatClampNeg ((σ.1 2403)).toNatClampNeg ((((σ.1 (100 * (28 + ((sPi σ ((L.1 2)).toNatClampNeg))) + 2))) + ((σ.1 (100 * (28 + ((sPi σ ((L.1 2)).toNatClampNeg))) + 13))))).toNatClampNeg))) else none) else none) else none) else none) else (f_X9_thinOut k 4 L σ))) else none) else none)
  | k + 1, 3, L, σ => some ((0, 0), σ, (0, 0))
  | k + 1, 4, L, σ => f_X9_thinOut k 2 (lI L 2 ((((L.1 2)) + 1))) σ
  | k + 1, 5, L, σ => if ¬ (((σ.1 2404)) < 0 ∨ 9 ≤ ((σ.1 2404)).toNatClampNeg) then (if ((sPi σ ((σ.1 2404)).toNatClampNeg)) < 9 then (if ¬ (((L.1 2)) < 0 ∨ 9 ≤ ((L.1 2)).toNatClampNeg) then (f_X9_thinOut k 6 L (uPi σ ((L.1 2)).toNatClampNeg ((sPi σ ((σ.1 2404)).toNatClampNeg)))) else none) else none) else none
  | k + 1, 6, L, σ => if ((L.2.2.2 3)) < 9 then (if ¬ (((σ.1 2404)) < 0 ∨ 9 ≤ ((σ.1 2404)).toNatClampNeg) then (if ¬ ((((uPi σ ((σ.1 2404)).toNatClampNeg ((L.2.2.2 3))).1 2404)) < 0 ∨ 9 ≤ (((uPi σ ((σ.1 2404)).toNatClampNeg ((L.2.2.2 3))).1 2404)).toNatClampNeg) then (if ((L.2.2.2 3)) < 9 then (if ((L.2.2.2 3)) < 9 then (f_X9_thinOut k 7 L (uI (uA (uPi σ ((σ.1 2404)).toNatClampNeg ((L.2.2.2 3))) 27 (((uPi σ ((σ.1 2404)).toNatClampNeg ((L.2.2.2 3))).1 2404)).toNatClampNeg (((uPi σ ((σ.1 2404)).toNatClampNeg ((L.2.2.2 3))).1 2403))) 2403 (((((((uA (uPi σ ((σ.1 2404)).toNatClampNeg ((L.2.2.2 3))) 27 (((uPi σ ((σ.1 2404)).toNatClampNeg ((L.2.2.2 3))).1 2404)).toNatClampNeg (((uPi σ ((σ.1 2404)).toNatClampNeg ((L.2.2.2 3))).1 2403))).1 2403)) + (((uA (uPi σ ((σ.1 2404)).toNatClampNeg ((L.2.2.2 3))) 27 (((uPi σ ((σ.1 2404)).toNatClampNeg ((L.2.2.2 3))).1 2404)).toNatClampNeg (((uPi σ ((σ.1 2404)).toNatClampNeg ((L.2.2.2 3))).1 2403))).1 (100 * (28 + ((L.2.2.2 3))) + 2))))) + (((uA (uPi σ ((σ.1 2404)).toNatClampNeg ((L.2.2.2 3))) 27 (((uPi σ ((σ.1 2404)).toNatClampNeg ((L.2.2.2 3))).1 2404)).toNatClampNeg (((uPi σ ((σ.1 2404)).toNatClampNeg ((L.2.2.2 3))).1 2403))).1 (100 * (28 + ((L.2.2.2 3))) + 13))))))) else none) else none) else none) else none) else none
  | k + 1, 7, L, σ => f_X9_thinOut k 4 L (uI σ 2404 ((((σ.1 2404)) + 1)))
  | _ + 1, _ + 8, _, _ => none
def o_f_X9_thinOut : List Cond := [.fieldLink RX9 41 "SetHouse$Saves" "saved" "I", .fieldLink RX9 24 "SetHouse$Saves" "gap" "I", .fieldLink RX9 38 "SetHouse$Saves" "filled" "I", .methodLink RX9 71 Lib.Math.max.name, .static Lib.Math.max.name, .initialized "java/lang/Math", .code Lib.Math.max.name Lib.Math.max.code 2 (some .int), .fieldLink RX9 13 "SetHouse$Saves" "runs" "[LSetHouse$Run;", .fieldLink RX9 17 "SetHouse$Saves" "row" "[I", .fieldLink RX9 21 "SetHouse$Saves" "starts" "[I", .methodLink RX9 89 arraycopyName, .native arraycopyName, .static arraycopyName, .initialized "java/lang/System"]
theorem o_f_X9_thinOut_good : o_f_X9_thinOut.all goodWord = true := by decide +kernel
def p_f_X9_thinOut : List Cond := o_f_X9_thinOut ++ []
theorem p_f_X9_thinOut_good : p_f_X9_thinOut.all goodWord = true := nb_all2 o_f_X9_thinOut_good rfl
def w_f_X9_thinOut : List Cond := .code yX9_thinOut cX9_thinOut 4 none :: (p_f_X9_thinOut ++ fC)
theorem w_f_X9_thinOut_good : w_f_X9_thinOut.all goodWord = true := nb_allc (by decide +kernel) (nb_all2 p_f_X9_thinOut_good fC_good)
theorem in_f_X9_thinOut_X8 : ∀ w ∈ wsX80, w ∈ w_f_X9_thinOut := fun _ h => List.mem_cons_of_mem _ (List.mem_append_right _ (List.mem_append_right _ (List.mem_append_right _ (List.mem_append_right _ (List.mem_append_right _ (List.mem_append_right _ (List.mem_append_right _ (List.mem_append_right _ (List.mem_append_left _ h)))))))))
theorem in_f_X9_thinOut_X9 : ∀ w ∈ wsX90, w ∈ w_f_X9_thinOut := fun _ h => List.mem_cons_of_mem _ (List.mem_append_right _ (List.mem_append_right _ (List.mem_append_right _ (List.mem_append_right _ (List.mem_append_right _ (List.mem_append_right _ (List.mem_append_right _ (List.mem_append_right _ (List.mem_append_right _ (List.mem_append_left _ h))))))))))
theorem hd_f_X9_thinOut : yX9_thinOut.cls = RX9 ∧ yX9_thinOut.cls ≠ "java/lang/invoke/MethodHandle" ∧ yX9_thinOut.cls ≠ "java/lang/invoke/VarHandle" ∧ (parseMethodDescriptor yX9_thinOut.desc).map (fun d => d.parameters.length) = some 0 := by decide +kernel
set_option maxHeartbeats 40000000 in
set_option maxRecDepth 100000 in
theorem c_f_X9_thinOut (l : Launch) (hl0 : l.stackTraces = false) (dC : Nat → ClassId) (dI : Nat → Nat → Nat) (cy : Nat → ClassId) (ek a : Nat → Nat) (k0 : Nat) (L0 : LV) (σ0 : CS) (r0 : RS) (h0 : f_X9_thinOut k0 0 L0 σ0 = some r0) (z : Nat → Nat) (sz : Nat) : vx_Met l yX9_thinOut w_f_X9_thinOut ({ frames := 1, cells := r0.2.2.1, slots := r0.2.2.2, locals := 60 }) (va_Pc [.ref (a 24)] (nInF (dC, dI) cy ek sz (vC cy a z σ0))) (xV dC dI cy a (va_A (vC cy a z σ0) sz) [] z r0) (xX dC dI cy a (va_A (vC cy a z σ0) sz) [] z r0) r0.2.2.1 r0.2.2.2 (va_A (vC cy a z σ0) sz) := by
  refine vx_ofW (cc := cX9_thinOut) (maxL := 4) (ret := none) (by decide) rfl ?_
  intro p e s m args below meth c s₁ B hml hno hv
  obtain ⟨rfl, ⟨⟨hsz, hP, hK, hD0, hG⟩, hE⟩, hT⟩ := hv
  have hx := B.exec
  have hb := B.bytes
  have hr := B.returns
  have hts := atoms_spec (ws := w_f_X9_thinOut) B.pre
  have hown : s.vm.findClass RX9 = some m.cls := findClass_of_methodNamed B.named
  have hlocks := B.notSynchronized
  subst hsz
  have hD := hD0.self (sz := s.heap.size)
  generalize hAe : va_A (vC cy a z σ0) s.heap.size = A at hD hE hT ⊢
  have hA : ∀ q : Nat, s.heap.size ≤ q → A q := fun q h => by rw [← hAe]; exact Or.inr h
  have hS : va_S A s.heap s.heap [] := va_S.rf
  have hl := lv_entry ([.ref (a 24)]) (n := 4) (Nat.le_of_ble_eq_true rfl)
  rw [lg_entry_eq]
  generalize (lg_sl ([.ref (a 24)]) ++ List.replicate (4 - (lg_sl ([.ref (a 24)])).length) Slot.unset).toArray = ls at hl ⊢
  have hl : lv_has ls 4 [(0, .ref (a 24))] := hl
  generalize hmc : r0.2.2.1 = mc
  generalize hms : r0.2.2.2 = ms
  have blk : ∀ k : Nat, (bX p l e (headSpec w_f_X9_thinOut ({ frames := 1, cells := mc, slots := ms, locals := 60 })).room s m #[.ref (a 24)] below meth c dC dI cy a A (fun r => vx_MQ below (xV dC dI cy a A [] z r) (xX dC dI cy a A [] z r) #[.ref (a 24)] s mc ms A) [] z mc ms 4 (f_X9_thinOut k 0) (fun z L => [(0, .ref (a 24))]) 0 (fun z L => [])) ∧ (bX p l e (headSpec w_f_X9_thinOut ({ frames := 1, cells := mc, slots := ms, locals := 60 })).room s m #[.ref (a 24)] below meth c dC dI cy a A (fun r => vx_MQ below (xV dC dI cy a A [] z r) (xX dC dI cy a A [] z r) #[.ref (a 24)] s mc ms A) [] z mc ms 4 (f_X9_thinOut k 1) (fun z L => [(0, .ref (a 24)), (1, .int (L.1 1))]) 26 (fun z L => [])) ∧ (bX p l e (headSpec w_f_X9_thinOut ({ frames := 1, cells := mc, slots := ms, locals := 60 })).room s m #[.ref (a 24)] below meth c dC dI cy a A (fun r => vx_MQ below (xV dC dI cy a A [] z r) (xX dC dI cy a A [] z r) #[.ref (a 24)] s mc ms A) [] z mc ms 4 (f_X9_thinOut k 2) (fun z L => [(0, .ref (a 24)), (1, .int (L.1 1)), (2, .int (L.1 2))]) 33 (fun z L => [])) ∧ (bX p l e (headSpec w_f_X9_thinOut ({ frames := 1, cells := mc, slots := ms, locals := 60 })).room s m #[.ref (a 24)] below meth c dC dI cy a A (fun r => vx_MQ below (xV dC dI cy a A [] z r) (xX dC dI cy a A [] z r) #[.ref (a 24)] s mc ms A) [] z mc ms 4 (f_X9_thinOut k 3) (fun z L => []) 165 (fun z L => [])) ∧ (bX p l e (headSpec w_f_X9_thinOut ({ frames := 1, cells := mc, slots := ms, locals := 60 })).room s m #[.ref (a 24)] below meth c dC dI cy a A (fun r => vx_MQ below (xV dC dI cy a A [] z r) (xX dC dI cy a A [] z r) #[.ref (a 24)] s mc ms A) [] z mc ms 4 (f_X9_thinOut k 4) (fun z L => [(0, .ref (a 24)), (1, .int (L.1 1)), (2, .int (L.1 2))]) 159 (fun z L => [])) ∧ (bX p l e (headSpec w_f_X9_thinOut ({ frames := 1, cells := mc, slots := ms, locals := 60 })).room s m #[.ref (a 24)] below meth c dC dI cy a A (fun r => vx_MQ below (xV dC dI cy a A [] z r) (xX dC dI cy a A [] z r) #[.ref (a 24)] s mc ms A) [] z mc ms 4 (f_X9_thinOut k 5) (fun z L => [(0, .ref (a 24)), (1, .int (L.1 1)), (2, .int (L.1 2)), (3, .ref (a (28 + (L.2.2.2 3))))]) 93 (fun z L => [])) ∧ (bX p l e (headSpec w_f_X9_thinOut ({ frames := 1, cells := mc, slots := ms, locals := 60 })).room s m #[.ref (a 24)] below meth c dC dI cy a A (fun r => vx_MQ below (xV dC dI cy a A [] z r) (xX dC dI cy a A [] z r) #[.ref (a 24)] s mc ms A) [] z mc ms 4 (f_X9_thinOut k 6) (fun z L => [(0, .ref (a 24)), (1, .int (L.1 1)), (2, .int (L.1 2)), (3, .ref (a (28 + (L.2.2.2 3))))]) 108 (fun z L => [])) ∧ (bX p l e (headSpec w_f_X9_thinOut ({ frames := 1, cells := mc, slots := ms, locals := 60 })).room s m #[.ref (a 24)] below meth c dC dI cy a A (fun r => vx_MQ below (xV dC dI cy a A [] z r) (xX dC dI cy a A [] z r) #[.ref (a 24)] s mc ms A) [] z mc ms 4 (f_X9_thinOut k 7) (fun z L => [(0, .ref (a 24)), (1, .int (L.1 1)), (2, .int (L.1 2))]) 149 (fun z L => [])) := by
    intro k
    induction k with
    | zero => exact ⟨fun z c1 c2 L σ r h => (by cases h), fun z c1 c2 L σ r h => (by cases h), fun z c1 c2 L σ r h => (by cases h), fun z c1 c2 L σ r h => (by cases h), fun z c1 c2 L σ r h => (by cases h), fun z c1 c2 L σ r h => (by cases h), fun z c1 c2 L σ r h => (by cases h), fun z c1 c2 L σ r h => (by cases h)⟩
    | succ k ih =>
      refine ⟨?_, ?_, ?_, ?_, ?_, ?_, ?_, ?_⟩
      · intro z cells slots L σ r h hzk hc hs H locs ls hP hD hS hl
        rw [f_X9_thinOut] at h
        refine lv_aload_n hx hb dX9_thinOut_0 rfl (lv_at hl 0 rfl) ?_
        refine hg_24_4 hx hb hts in_f_X9_thinOut_X9 hown hK hP (hts _ (List.mem_cons_of_mem _ (List.mem_append_left _ (List.mem_append_left _ (List.mem_of_getElem? (i := 0) rfl))))) dX9_thinOut_1 ?_
        refine lv_istore_n (lv' := [(1, .int (σ.1 2404)), (0, .ref (a 24))]) hx hb dX9_thinOut_4 rfl hl (by decide) rfl (fun ls hl => ?_)
        refine lv_aload_n hx hb dX9_thinOut_5 rfl (lv_at hl 1 rfl) ?_
        refine lv_iconst (v := 2) hx hb dX9_thinOut_6 (by decide) ?_
        refine lv_aload_n hx hb dX9_thinOut_7 rfl (lv_at hl 1 rfl) ?_
        refine hg_24_6 hx hb hts in_f_X9_thinOut_X9 hown hK hP (hts _ (List.mem_cons_of_mem _ (List.mem_append_left _ (List.mem_append_left _ (List.mem_of_getElem? (i := 1) rfl))))) dX9_thinOut_8 ?_
        refine lv_sipush (v := 256) hx hb dX9_thinOut_11 (by decide) ?_
        refine va_mmax (x := ((σ.1 2406))) (y := (256 : Int32)) hx hb (hml.trans hl.1.symm) hown (hts _ (List.mem_cons_of_mem _ (List.mem_append_left _ (List.mem_append_left _ (List.mem_of_getElem? (i := 3) rfl))))) (hts _ (List.mem_cons_of_mem _ (List.mem_append_left _ (List.mem_append_left _ (List.mem_of_getElem? (i := 4) rfl))))) (hts _ (List.mem_cons_of_mem _ (List.mem_append_left _ (List.mem_append_left _ (List.mem_of_getElem? (i := 5) rfl))))) (hts _ (List.mem_cons_of_mem _ (List.mem_append_left _ (List.mem_append_left _ (List.mem_of_getElem? (i := 6) rfl))))) (Nat.le_of_ble_eq_true rfl) (Nat.le_of_ble_eq_true rfl)  (Nat.le_trans (Nat.le_add_right _ _) (Nat.le_of_eq hc)) (Nat.le_trans (Nat.le_add_right _ _) (Nat.le_of_eq hs)) dX9_thinOut_14 ?_
        refine lv_imul hx hb dX9_thinOut_17 ?_
        refine hp_24_6 hx hb hts in_f_X9_thinOut_X9 hown hK hP hD hS (hts _ (List.mem_cons_of_mem _ (List.mem_append_left _ (List.mem_append_left _ (List.mem_of_getElem? (i := 1) rfl))))) dX9_thinOut_18 (fun H locs hP hD hS => ?_)
        refine lv_aload_n hx hb dX9_thinOut_21 rfl (lv_at hl 1 rfl) ?_
        refine lv_iconst (v := 0) hx hb dX9_thinOut_22 (by decide) ?_
        refine hp_24_3 hx hb hts in_f_X9_thinOut_X9 hown hK hP hD hS (hts _ (List.mem_cons_of_mem _ (List.mem_append_left _ (List.mem_append_left _ (List.mem_of_getElem? (i := 2) rfl))))) dX9_thinOut_23 (fun H locs hP hD hS => ?_)
        exact ih.2.1 z _ _ (lI L 1 ((σ.1 2404))) (uI (uI σ 2406 ((2 * ((if ((σ.1 2406)) < (256 : Int32) then (256 : Int32) else ((σ.1 2406))))))) 2403 0) _ h hzk hc hs H locs ls hP hD hS (lv_sub hl [1, 0] rfl)
      · intro z cells slots L σ r h hzk hc hs H locs ls hP hD hS hl
        rw [f_X9_thinOut] at h
        refine lv_aload_n hx hb dX9_thinOut_26 rfl (lv_at hl 0 rfl) ?_
        refine lv_iconst (v := 0) hx hb dX9_thinOut_27 (by decide) ?_
        refine hp_24_4 hx hb hts in_f_X9_thinOut_X9 hown hK hP hD hS (hts _ (List.mem_cons_of_mem _ (List.mem_append_left _ (List.mem_append_left _ (List.mem_of_getElem? (i := 0) rfl))))) dX9_thinOut_28 (fun H locs hP hD hS => ?_)
        refine lv_iconst (v := 0) hx hb dX9_thinOut_31 (by decide) ?_
        refine lv_istore_n (lv' := [(2, .int 0), (0, .ref (a 24)), (1, .int (L.1 1))]) hx hb dX9_thinOut_32 rfl hl (by decide) rfl (fun ls hl => ?_)
        exact ih.2.2.1 z _ _ (lI L 2 0) (uI σ 2404 0) _ h hzk hc hs H locs ls hP hD hS (lv_sub hl [1, 2, 0] rfl)
      · intro z cells slots L σ r h hzk hc hs H locs ls hP hD hS hl
        rw [f_X9_thinOut] at h
        refine lv_iload_n hx hb dX9_thinOut_33 rfl (lv_at hl 2 rfl) ?_
        refine lv_iload_n hx hb dX9_thinOut_34 rfl (lv_at hl 1 rfl) ?_
        refine lv_icmp_ge (tgt := 165) hx hb dX9_thinOut_35 (by decide) (fun c1 => ?_) (fun c1 => ?_)
        · rw [if_pos c1] at h
          exact ih.2.2.2.1 z _ _ L σ _ h hzk hc hs H locs ls hP hD hS (lv_sub hl [] rfl)
        · rw [if_neg c1] at h
          refine lv_aload_n hx hb dX9_thinOut_38 rfl (lv_at hl 0 rfl) ?_
          refine hg_24_0 hx hb hts in_f_X9_thinOut_X9 hown hK hP (hts _ (List.mem_cons_of_mem _ (List.mem_append_left _ (List.mem_append_left _ (List.mem_of_getElem? (i := 7) rfl))))) dX9_thinOut_39 ?_
          refine lv_iload_n hx hb dX9_thinOut_42 rfl (lv_at hl 2 rfl) ?_
          obtain ⟨q2, h⟩ := kr_ite1 h
          refine hl_25 hx hb hK hP q2 dX9_thinOut_43 ?_
          refine lv_astore_n (lv' := [(3, .ref (a (28 + (sPi σ ((L.1 2)).toNatClampNeg)))), (0, .ref (a 24)), (1, .int (L.1 1)), (2, .int (L.1 2))]) hx hb dX9_thinOut_44 rfl hl (by decide) rfl (fun ls hl => ?_)
          refine lv_aload_n hx hb dX9_thinOut_45 rfl (lv_at hl 0 rfl) ?_
          obtain ⟨q3, h⟩ := kr_ite1 h
          refine hg_R_3n ((sPi σ ((L.1 2)).toNatClampNeg)) q3 hx hb hts in_f_X9_thinOut_X8 hown hK hP (va_Nw.use rfl (hG.1 _ (List.mem_of_getElem? (i := 13) rfl))) dX9_thinOut_46 ?_
          refine lv_aload_n hx hb dX9_thinOut_49 rfl (lv_at hl 1 rfl) ?_
          refine hg_24_6 hx hb hts in_f_X9_thinOut_X9 hown hK hP (hts _ (List.mem_cons_of_mem _ (List.mem_append_left _ (List.mem_append_left _ (List.mem_of_getElem? (i := 1) rfl))))) dX9_thinOut_50 ?_
          refine lv_sipush (v := 256) hx hb dX9_thinOut_53 (by decide) ?_
          refine va_mmax (x := ((σ.1 2406))) (y := (256 : Int32)) hx hb (hml.trans hl.1.symm) hown (hts _ (List.mem_cons_of_mem _ (List.mem_append_left _ (List.mem_append_left _ (List.mem_of_getElem? (i := 3) rfl))))) (hts _ (List.mem_cons_of_mem _ (List.mem_append_left _ (List.mem_append_left _ (List.mem_of_getElem? (i := 4) rfl))))) (hts _ (List.mem_cons_of_mem _ (List.mem_append_left _ (List.mem_append_left _ (List.mem_of_getElem? (i := 5) rfl))))) (hts _ (List.mem_cons_of_mem _ (List.mem_append_left _ (List.mem_append_left _ (List.mem_of_getElem? (i := 6) rfl))))) (Nat.le_of_ble_eq_true rfl) (Nat.le_of_ble_eq_true rfl)  (Nat.le_trans (Nat.le_add_right _ _) (Nat.le_of_eq hc)) (Nat.le_trans (Nat.le_add_right _ _) (Nat.le_of_eq hs)) dX9_thinOut_56 ?_
          obtain ⟨q4, h⟩ := kr_ite0 h
          refine lv_irem hx hb dX9_thinOut_59 q4 ?_
          refine lv_if_ne (tgt := 159) hx hb dX9_thinOut_60 (by decide) (fun c5 => ?_) (fun c5 => ?_)
          · rw [if_neg c5] at h
            exact ih.2.2.2.2.1 z _ _ L σ _ h hzk hc hs H locs ls hP hD hS (lv_sub hl [1, 2, 3] rfl)
          · rw [if_pos c5] at h
            refine lv_aload_n hx hb dX9_thinOut_63 rfl (lv_at hl 1 rfl) ?_
            refine hg_24_1 hx hb hts in_f_X9_thinOut_X9 hown hK hP (hts _ (List.mem_cons_of_mem _ (List.mem_append_left _ (List.mem_append_left _ (List.mem_of_getElem? (i := 8) rfl))))) dX9_thinOut_64 ?_
            refine lv_aload_n hx hb dX9_thinOut_67 rfl (lv_at hl 1 rfl) ?_
            refine hg_24_2 hx hb hts in_f_X9_thinOut_X9 hown hK hP (hts _ (List.mem_cons_of_mem _ (List.mem_append_left _ (List.mem_append_left _ (List.mem_of_getElem? (i := 9) rfl))))) dX9_thinOut_68 ?_
            refine lv_iload_n hx hb dX9_thinOut_71 rfl (lv_at hl 3 rfl) ?_
            obtain ⟨q6, h⟩ := kr_ite1 h
            refine hl_27 hx hb hK hP q6 dX9_thinOut_72 ?_
            refine lv_aload_n hx hb dX9_thinOut_73 rfl (lv_at hl 1 rfl) ?_
            refine hg_24_1 hx hb hts in_f_X9_thinOut_X9 hown hK hP (hts _ (List.mem_cons_of_mem _ (List.mem_append_left _ (List.mem_append_left _ (List.mem_of_getElem? (i := 8) rfl))))) dX9_thinOut_74 ?_
            refine lv_aload_n hx hb dX9_thinOut_77 rfl (lv_at hl 1 rfl) ?_
            refine hg_24_3 hx hb hts in_f_X9_thinOut_X9 hown hK hP (hts _ (List.mem_cons_of_mem _ (List.mem_append_left _ (List.mem_append_left _ (List.mem_of_getElem? (i := 2) rfl))))) dX9_thinOut_78 ?_
            refine lv_aload_n hx hb dX9_thinOut_81 rfl (lv_at hl 0 rfl) ?_
            obtain ⟨q7, h⟩ := kr_ite1 h
            refine hg_R_2n ((sPi σ ((L.1 2)).toNatClampNeg)) q7 hx hb hts in_f_X9_thinOut_X8 hown hK hP (va_Nw.use rfl (hG.1 _ (List.mem_of_getElem? (i := 11) rfl))) dX9_thinOut_82 ?_
            refine lv_aload_n hx hb dX9_thinOut_85 rfl (lv_at hl 0 rfl) ?_
            obtain ⟨q8, h⟩ := kr_ite1 h
            refine hg_R_13n ((sPi σ ((L.1 2)).toNatClampNeg)) q8 hx hb hts in_f_X9_thinOut_X8 hown hK hP (va_Nw.use rfl (hG.1 _ (List.mem_of_getElem? (i := 35) rfl))) dX9_thinOut_86 ?_
            refine lv_iadd hx hb dX9_thinOut_89 ?_
            obtain ⟨q9, h⟩ := kr_ite1 h
            refine va_copyi (ty := .int) hx hb (hml.trans hl.1.symm) hown (hts _ (List.mem_cons_of_mem _ (List.mem_append_left _ (List.mem_append_left _ (List.mem_of_getElem? (i := 10) rfl))))) (hts _ (List.mem_cons_of_mem _ (List.mem_append_left _ (List.mem_append_left _ (List.mem_of_getElem? (i := 11) rfl))))) (hts _ (List.mem_cons_of_mem _ (List.mem_append_left _ (List.mem_append_left _ (List.mem_of_getElem? (i := 12) rfl))))) (hts _ (List.mem_cons_of_mem _ (List.mem_append_left _ (List.mem_append_left _ (List.mem_of_getElem? (i := 13) rfl))))) hK hP hD hS 26 26 1 1 rfl rfl rfl rfl rfl q9.1 q9.2.1 q9.2.2.1 q9.2.2.2.1 q9.2.2.2.2 (fun _ _ => rfl) (Nat.le_of_ble_eq_true rfl) (Nat.le_of_ble_eq_true rfl) dX9_thinOut_90 (fun H locs hP hD hS => ?_)
            have hP : va_P (dC, dI) nCl (vC cy a z (uF σ 26 (va_cpy (σ.2.2.1 26) (σ.2.2.1 26) ((σ.2.2.1 27 ((L.1 2)).toNatClampNeg)).toNatClampNeg ((σ.1 2403)).toNatClampNeg ((((σ.1 (100 * (28 + ((sPi σ ((L.1 2)).toNatClampNeg))) + 2))) + ((σ.1 (100 * (28 + ((sPi σ ((L.1 2)).toNatClampNeg))) + 13))))).toNatClampNeg))) H := hP
            have hD : va_D A (vC cy a z (uF σ 26 (va_cpy (σ.2.2.1 26) (σ.2.2.1 26) ((σ.2.2.1 27 ((L.1 2)).toNatClampNeg)).toNatClampNeg ((σ.1 2403)).toNatClampNeg ((((σ.1 (100 * (28 + ((sPi σ ((L.1 2)).toNatClampNeg))) + 2))) + ((σ.1 (100 * (28 + ((sPi σ ((L.1 2)).toNatClampNeg))) + 13))))).toNatClampNeg))) := hD
            exact ih.2.2.2.2.2.1 z _ _ (lM L 3 ((sPi σ ((L.1 2)).toNatClampNeg))) (uF σ 26 (va_cpy (σ.2.2.1 26) (σ.2.2.1 26) ((σ.2.2.1 27 ((L.1 2)).toNatClampNeg)).toNatClampNeg ((σ.1 2403)).toNatClampNeg ((((σ.1 (100 * (28 + ((sPi σ ((L.1 2)).toNatClampNeg))) + 2))) + ((σ.1 (100 * (28 + ((sPi σ ((L.1 2)).toNatClampNeg))) + 13))))).toNatClampNeg)) _ h hzk hc hs H locs ls hP hD hS (lv_sub hl [1, 2, 3, 0] rfl)
      · intro z cells slots L σ r h hzk hc hs H locs ls hP hD hS hl
        rw [f_X9_thinOut] at h
        obtain rfl := Option.some.inj h
        subst hc
        subst hs
        exact xr_v hx hb hr hK hzk hP hD hS hlocks dX9_thinOut_165
      · intro z cells slots L σ r h hzk hc hs H locs ls hP hD hS hl
        rw [f_X9_thinOut] at h
        refine lv_iinc (v := ((L.1 2)) + 1) (lv' := [(2, .int (((L.1 2)) + 1)), (0, .ref (a 24)), (1, .int (L.1 1))]) hx hb dX9_thinOut_159 hl (k := 2) rfl rfl (by decide) rfl (fun ls hl => ?_)
        refine lv_goto (tgt := 33) hx hb dX9_thinOut_162 (by decide) ?_
        exact ih.2.2.1 z _ _ (lI L 2 ((((L.1 2)) + 1))) σ _ h hzk hc hs H locs ls hP hD hS (lv_sub hl [1, 2, 0] rfl)
      · intro z cells slots L σ r h hzk hc hs H locs ls hP hD hS hl
        rw [f_X9_thinOut] at h
        refine lv_aload_n hx hb dX9_thinOut_93 rfl (lv_at hl 0 rfl) ?_
        refine hg_24_0 hx hb hts in_f_X9_thinOut_X9 hown hK hP (hts _ (List.mem_cons_of_mem _ (List.mem_append_left _ (List.mem_append_left _ (List.mem_of_getElem? (i := 7) rfl))))) dX9_thinOut_94 ?_
        refine lv_iload_n hx hb dX9_thinOut_97 rfl (lv_at hl 2 rfl) ?_
        refine lv_aload_n hx hb dX9_thinOut_98 rfl (lv_at hl 0 rfl) ?_
        refine hg_24_0 hx hb hts in_f_X9_thinOut_X9 hown hK hP (hts _ (List.mem_cons_of_mem _ (List.mem_append_left _ (List.mem_append_left _ (List.mem_of_getElem? (i := 7) rfl))))) dX9_thinOut_99 ?_
        refine lv_aload_n hx hb dX9_thinOut_102 rfl (lv_at hl 0 rfl) ?_
        refine hg_24_4 hx hb hts in_f_X9_thinOut_X9 hown hK hP (hts _ (List.mem_cons_of_mem _ (List.mem_append_left _ (List.mem_append_left _ (List.mem_of_getElem? (i := 0) rfl))))) dX9_thinOut_103 ?_
        obtain ⟨q1, h⟩ := kr_ite1 h
        refine hl_25 hx hb hK hP q1 dX9_thinOut_106 ?_
        obtain ⟨q2, h⟩ := kr_ite1 h
        obtain ⟨q3, h⟩ := kr_ite1 h
        refine hs_25 ((sPi σ ((σ.1 2404)).toNatClampNeg)) q2 hx hb hK hP hD hS q3 dX9_thinOut_107 (fun H locs hP hD hS => ?_)
        exact ih.2.2.2.2.2.2.1 z _ _ L (uPi σ ((L.1 2)).toNatClampNeg ((sPi σ ((σ.1 2404)).toNatClampNeg))) _ h hzk hc hs H locs ls hP hD hS (lv_sub hl [0, 1, 2, 3] rfl)
      · intro z cells slots L σ r h hzk hc hs H locs ls hP hD hS hl
        rw [f_X9_thinOut] at h
        refine lv_aload_n hx hb dX9_thinOut_108 rfl (lv_at hl 0 rfl) ?_
        refine hg_24_0 hx hb hts in_f_X9_thinOut_X9 hown hK hP (hts _ (List.mem_cons_of_mem _ (List.mem_append_left _ (List.mem_append_left _ (List.mem_of_getElem? (i := 7) rfl))))) dX9_thinOut_109 ?_
        refine lv_aload_n hx hb dX9_thinOut_112 rfl (lv_at hl 0 rfl) ?_
        refine hg_24_4 hx hb hts in_f_X9_thinOut_X9 hown hK hP (hts _ (List.mem_cons_of_mem _ (List.mem_append_left _ (List.mem_append_left _ (List.mem_of_getElem? (i := 0) rfl))))) dX9_thinOut_113 ?_
        refine lv_aload_n hx hb dX9_thinOut_116 rfl (lv_at hl 3 rfl) ?_
        obtain ⟨q1, h⟩ := kr_ite1 h
        obtain ⟨q2, h⟩ := kr_ite1 h
        refine hs_25 ((L.2.2.2 3)) q1 hx hb hK hP hD hS q2 dX9_thinOut_117 (fun H locs hP hD hS => ?_)
        refine lv_aload_n hx hb dX9_thinOut_118 rfl (lv_at hl 0 rfl) ?_
        refine hg_24_2 hx hb hts in_f_X9_thinOut_X9 hown hK hP (hts _ (List.mem_cons_of_mem _ (List.mem_append_left _ (List.mem_append_left _ (List.mem_of_getElem? (i := 9) rfl))))) dX9_thinOut_119 ?_
        refine lv_aload_n hx hb dX9_thinOut_122 rfl (lv_at hl 0 rfl) ?_
        refine hg_24_4 hx hb hts in_f_X9_thinOut_X9 hown hK hP (hts _ (List.mem_cons_of_mem _ (List.mem_append_left _ (List.mem_append_left _ (List.mem_of_getElem? (i := 0) rfl))))) dX9_thinOut_123 ?_
        refine lv_aload_n hx hb dX9_thinOut_126 rfl (lv_at hl 0 rfl) ?_
        refine hg_24_3 hx hb hts in_f_X9_thinOut_X9 hown hK hP (hts _ (List.mem_cons_of_mem _ (List.mem_append_left _ (List.mem_append_left _ (List.mem_of_getElem? (i := 2) rfl))))) dX9_thinOut_127 ?_
        obtain ⟨q3, h⟩ := kr_ite1 h
        refine hs_27 hx hb hK hP hD hS q3 dX9_thinOut_130 (fun H locs hP hD hS => ?_)
        refine lv_aload_n hx hb dX9_thinOut_131 rfl (lv_at hl 0 rfl) ?_
        refine lv_aload_n hx hb dX9_thinOut_132 rfl (lv_at hl 0 rfl) ?_
        refine hg_24_3 hx hb hts in_f_X9_thinOut_X9 hown hK hP (hts _ (List.mem_cons_of_mem _ (List.mem_append_left _ (List.mem_append_left _ (List.mem_of_getElem? (i := 2) rfl))))) dX9_thinOut_133 ?_
        refine lv_aload_n hx hb dX9_thinOut_136 rfl (lv_at hl 3 rfl) ?_
        obtain ⟨q4, h⟩ := kr_ite1 h
        refine hg_R_2n ((L.2.2.2 3)) q4 hx hb hts in_f_X9_thinOut_X8 hown hK hP (va_Nw.use rfl (hG.1 _ (List.mem_of_getElem? (i := 11) rfl))) dX9_thinOut_137 ?_
        refine lv_iadd hx hb dX9_thinOut_140 ?_
        refine lv_aload_n hx hb dX9_thinOut_141 rfl (lv_at hl 3 rfl) ?_
        obtain ⟨q5, h⟩ := kr_ite1 h
        refine hg_R_13n ((L.2.2.2 3)) q5 hx hb hts in_f_X9_thinOut_X8 hown hK hP (va_Nw.use rfl (hG.1 _ (List.mem_of_getElem? (i := 35) rfl))) dX9_thinOut_142 ?_
        refine lv_iadd hx hb dX9_thinOut_145 ?_
        refine hp_24_3 hx hb hts in_f_X9_thinOut_X9 hown hK hP hD hS (hts _ (List.mem_cons_of_mem _ (List.mem_append_left _ (List.mem_append_left _ (List.mem_of_getElem? (i := 2) rfl))))) dX9_thinOut_146 (fun H locs hP hD hS => ?_)
        exact ih.2.2.2.2.2.2.2 z _ _ L (uI (uA (uPi σ ((σ.1 2404)).toNatClampNeg ((L.2.2.2 3))) 27 (((uPi σ ((σ.1 2404)).toNatClampNeg ((L.2.2.2 3))).1 2404)).toNatClampNeg (((uPi σ ((σ.1 2404)).toNatClampNeg ((L.2.2.2 3))).1 2403))) 2403 (((((((uA (uPi σ ((σ.1 2404)).toNatClampNeg ((L.2.2.2 3))) 27 (((uPi σ ((σ.1 2404)).toNatClampNeg ((L.2.2.2 3))).1 2404)).toNatClampNeg (((uPi σ ((σ.1 2404)).toNatClampNeg ((L.2.2.2 3))).1 2403))).1 2403)) + (((uA (uPi σ ((σ.1 2404)).toNatClampNeg ((L.2.2.2 3))) 27 (((uPi σ ((σ.1 2404)).toNatClampNeg ((L.2.2.2 3))).1 2404)).toNatClampNeg (((uPi σ ((σ.1 2404)).toNatClampNeg ((L.2.2.2 3))).1 2403))).1 (100 * (28 + ((L.2.2.2 3))) + 2))))) + (((uA (uPi σ ((σ.1 2404)).toNatClampNeg ((L.2.2.2 3))) 27 (((uPi σ ((σ.1 2404)).toNatClampNeg ((L.2.2.2 3))).1 2404)).toNatClampNeg (((uPi σ ((σ.1 2404)).toNatClampNeg ((L.2.2.2 3))).1 2403))).1 (100 * (28 + ((L.2.2.2 3))) + 13)))))) _ h hzk hc hs H locs ls hP hD hS (lv_sub hl [0, 1, 2] rfl)
      · intro z cells slots L σ r h hzk hc hs H locs ls hP hD hS hl
        rw [f_X9_thinOut] at h
        refine lv_aload_n hx hb dX9_thinOut_149 rfl (lv_at hl 0 rfl) ?_
        refine lv_dup hx hb dX9_thinOut_150 rfl ?_
        refine hg_24_4 hx hb hts in_f_X9_thinOut_X9 hown hK hP (hts _ (List.mem_cons_of_mem _ (List.mem_append_left _ (List.mem_append_left _ (List.mem_of_getElem? (i := 0) rfl))))) dX9_thinOut_151 ?_
        refine lv_iconst (v := 1) hx hb dX9_thinOut_154 (by decide) ?_
        refine lv_iadd hx hb dX9_thinOut_155 ?_
        refine hp_24_4 hx hb hts in_f_X9_thinOut_X9 hown hK hP hD hS (hts _ (List.mem_cons_of_mem _ (List.mem_append_left _ (List.mem_append_left _ (List.mem_of_getElem? (i := 0) rfl))))) dX9_thinOut_156 (fun H locs hP hD hS => ?_)
        exact ih.2.2.2.2.1 z _ _ L (uI σ 2404 ((((σ.1 2404)) + 1))) _ h hzk hc hs H locs ls hP hD hS (lv_sub hl [0, 1, 2] rfl)
  exact (blk k0).1 z 0 0 L0 σ0 r0 h0 (zk_rf _ _) ((Nat.zero_add _).trans hmc) ((Nat.zero_add _).trans hms) s.heap [] ls hP hD hS hl

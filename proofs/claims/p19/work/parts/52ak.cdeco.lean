/-! X1_flagged -/
def y_X1_flagged : Nat → Nat → LV → CS → Option (Int32 × CS)
  | 0, _, _, _ => none
  | k + 1, 0, L, σ => if ((L.1 1)) < 0 then (y_X1_flagged k 1 L σ) else (if ¬ (((L.1 1)) < 0 ∨ (sN σ 3) ≤ ((L.1 1)).toNatClampNeg) then (if ((((σ.2.2.1 3 ((L.1 1)).toNatClampNeg)) &&& 8)) = 0 then (y_X1_flagged k 1 L σ) else (y_X1_flagged k 2 (lI L 100 1) σ)) else none)
  | k + 1, 1, L, σ => y_X1_flagged k 2 (lI L 100 0) σ
  | k + 1, 2, L, σ => if ((L.1 100)) = 0 ∨ ((L.1 100)) = 1 then some ((L.1 100), σ) else none
  | _ + 1, _ + 3, _, _ => none
def o_y_X1_flagged : List Cond := [.fieldLink RX1 11 "SetHouse$Heap" "mem" "[I"]
theorem o_y_X1_flagged_good : o_y_X1_flagged.all goodWord = true := by decide +kernel
def p_y_X1_flagged : List Cond := o_y_X1_flagged ++ []
theorem p_y_X1_flagged_good : p_y_X1_flagged.all goodWord = true := nb_all2 o_y_X1_flagged_good rfl
def w_y_X1_flagged : List Cond := .code yX1_flagged cX1_flagged 2 (some .boolean) :: (p_y_X1_flagged ++ fC)
theorem w_y_X1_flagged_good : w_y_X1_flagged.all goodWord = true := nb_allc (by decide +kernel) (nb_all2 p_y_X1_flagged_good fC_good)
theorem in_y_X1_flagged_X1 : ∀ w ∈ wsX10, w ∈ w_y_X1_flagged := fun _ h => List.mem_cons_of_mem _ (List.mem_append_right _ (List.mem_append_right _ (List.mem_append_left _ h)))
theorem hd_y_X1_flagged : yX1_flagged.cls = RX1 ∧ yX1_flagged.cls ≠ "java/lang/invoke/MethodHandle" ∧ yX1_flagged.cls ≠ "java/lang/invoke/VarHandle" ∧ (parseMethodDescriptor yX1_flagged.desc).map (fun d => d.parameters.length) = some 1 := by decide +kernel
set_option maxHeartbeats 40000000 in
set_option maxRecDepth 100000 in
theorem c_y_X1_flagged (l : Launch) (dC : Nat → ClassId) (dI : Nat → Nat → Nat) (cy : Nat → ClassId) (a z : Nat → Nat) (k0 : Nat) (L0 : LV) (σ0 : CS) (r0 : Int32 × CS) (h0 : y_X1_flagged k0 0 L0 σ0 = some r0) (sz : Nat) : Met l yX1_flagged w_y_X1_flagged ({ frames := 0, cells := 0, slots := 0, locals := 0 }) (va_Pc [.ref (a 0), .int (L0.1 1)] (nIn (dC, dI) cy sz (vC cy a z σ0))) (va_Qi (fun (x : Int32) (_ : Unit) => x = r0.1) (fun _ t => nOut (dC, dI) cy (va_A (vC cy a z σ0) sz) (vC cy a z r0.2) t) (va_A (vC cy a z σ0) sz)) 0 0 (va_A (vC cy a z σ0) sz) := by
  refine Met.ofW (cc := cX1_flagged) (maxL := 2) (ret := (some .boolean)) (by decide) rfl ?_
  intro p e s m args below meth c s₁ B hml hv
  obtain ⟨rfl, hsz, hP, hK, hD0, hG⟩ := hv
  have hx := B.exec
  have hb := B.bytes
  have hr := B.returns
  have hts := atoms_spec (ws := w_y_X1_flagged) B.pre
  have hown : s.vm.findClass RX1 = some m.cls := findClass_of_methodNamed B.named
  have hlocks := B.notSynchronized
  subst hsz
  have hD := hD0.self (sz := s.heap.size)
  generalize hAe : va_A (vC cy a z σ0) s.heap.size = A at hD ⊢
  have hA : ∀ q : Nat, s.heap.size ≤ q → A q := fun q h => by rw [← hAe]; exact Or.inr h
  have hS : va_S A s.heap s.heap [] := va_S.rf
  have hl := lv_entry ([.ref (a 0), .int (L0.1 1)]) (n := 2) (Nat.le_of_ble_eq_true rfl)
  rw [lg_entry_eq]
  generalize (lg_sl ([.ref (a 0), .int (L0.1 1)]) ++ List.replicate (2 - (lg_sl ([.ref (a 0), .int (L0.1 1)])).length) Slot.unset).toArray = ls at hl ⊢
  have hl : lv_has ls 2 [(0, .ref (a 0)), (1, .int (L0.1 1))] := hl
  have blk : ∀ k : Nat, (bC p l e (headSpec w_y_X1_flagged ({ frames := 0, cells := 0, slots := 0, locals := 0 })).room s m #[.ref (a 0), .int (L0.1 1)] below meth c dC dI cy a z A (kI dC dI cy a z A below #[.ref (a 0), .int (L0.1 1)] s) 2 (y_X1_flagged k 0) (fun L => [(0, .ref (a 0)), (1, .int (L.1 1))]) 0 (fun L => [])) ∧ (bC p l e (headSpec w_y_X1_flagged ({ frames := 0, cells := 0, slots := 0, locals := 0 })).room s m #[.ref (a 0), .int (L0.1 1)] below meth c dC dI cy a z A (kI dC dI cy a z A below #[.ref (a 0), .int (L0.1 1)] s) 2 (y_X1_flagged k 1) (fun L => []) 20 (fun L => [])) ∧ (bC p l e (headSpec w_y_X1_flagged ({ frames := 0, cells := 0, slots := 0, locals := 0 })).room s m #[.ref (a 0), .int (L0.1 1)] below meth c dC dI cy a z A (kI dC dI cy a z A below #[.ref (a 0), .int (L0.1 1)] s) 2 (y_X1_flagged k 2) (fun L => []) 21 (fun L => [.int (L.1 100)])) := by
    intro k
    induction k with
    | zero => exact ⟨fun L σ r h => (by cases h), fun L σ r h => (by cases h), fun L σ r h => (by cases h)⟩
    | succ k ih =>
      refine ⟨?_, ?_, ?_⟩
      · intro L σ r h H locs ls hP hD hS hl
        rw [y_X1_flagged] at h
        refine lv_iload_n hx hb dX1_flagged_0 rfl (lv_at hl 1 rfl) ?_
        refine lv_if_lt (tgt := 20) hx hb dX1_flagged_1 (by decide) (fun c1 => ?_) (fun c1 => ?_)
        · rw [if_pos c1] at h
          exact ih.2.1 L σ r h H locs ls hP hD hS (lv_sub hl [] rfl)
        · rw [if_neg c1] at h
          refine lv_aload_n hx hb dX1_flagged_4 rfl (lv_at hl 0 rfl) ?_
          refine hg_0_0 hx hb hts in_y_X1_flagged_X1 hown hK hP (hts _ (List.mem_cons_of_mem _ (List.mem_append_left _ (List.mem_append_left _ (List.mem_of_getElem? (i := 0) rfl))))) dX1_flagged_5 ?_
          refine lv_iload_n hx hb dX1_flagged_8 rfl (lv_at hl 1 rfl) ?_
          obtain ⟨q2, h⟩ := kb_ite1 h
          refine hl_3 hx hb hK hP q2 dX1_flagged_9 ?_
          refine lv_bipush (v := 8) hx hb dX1_flagged_10 (by decide) ?_
          refine lv_iand hx hb dX1_flagged_12 ?_
          refine lv_if_eq (tgt := 20) hx hb dX1_flagged_13 (by decide) (fun c3 => ?_) (fun c3 => ?_)
          · rw [if_pos c3] at h
            exact ih.2.1 L σ r h H locs ls hP hD hS (lv_sub hl [] rfl)
          · rw [if_neg c3] at h
            refine lv_iconst (v := 1) hx hb dX1_flagged_16 (by decide) ?_
            refine lv_goto (tgt := 21) hx hb dX1_flagged_17 (by decide) ?_
            exact ih.2.2 (lI L 100 1) σ r h H locs ls hP hD hS (lv_sub hl [] rfl)
      · intro L σ r h H locs ls hP hD hS hl
        rw [y_X1_flagged] at h
        refine lv_iconst (v := 0) hx hb dX1_flagged_20 (by decide) ?_
        exact ih.2.2 (lI L 100 0) σ r h H locs ls hP hD hS (lv_sub hl [] rfl)
      · intro L σ r h H locs ls hP hD hS hl
        rw [y_X1_flagged] at h
        obtain ⟨q1, h⟩ := kb_ite1 h
        obtain rfl := Option.some.inj h
        exact W.zret (v := (L.1 100)) hx hb hr (nb_bz q1) (fun t ht hW => ⟨⟨(L.1 100), (), rfl, rfl, by rw [ht]; exact hP, va_K.moved hW.alike hK, hD⟩, hS.F ht⟩) hS.2.2 dX1_flagged_21
  exact (blk k0).1 L0 σ0 r0 h0 s.heap [] ls hP hD hS hl
/-! X1_isMap -/
def y_X1_isMap : Nat → Nat → LV → CS → Option (Int32 × CS)
  | 0, _, _, _ => none
  | k + 1, 0, L, σ => oc (y_X1_kind k 0 (lI lZ 1 ((L.1 1))) σ) (fun r1 => if r1.1 = 6 then (oc (y_X1_flagged k 0 (lI lZ 1 ((L.1 1))) r1.2) (fun r3 => if r3.1 = 0 then (y_X1_isMap k 1 L r3.2) else (y_X1_isMap k 2 (lI L 100 1) r3.2))) else (y_X1_isMap k 1 L r1.2))
  | k + 1, 1, L, σ => y_X1_isMap k 2 (lI L 100 0) σ
  | k + 1, 2, L, σ => if ((L.1 100)) = 0 ∨ ((L.1 100)) = 1 then some ((L.1 100), σ) else none
  | _ + 1, _ + 3, _, _ => none
def o_y_X1_isMap : List Cond := [.methodLink RX1 36 yX1_kind, .instanceMethod yX1_kind, .selects RX1 yX1_kind yX1_kind, .initialized RX1, .methodLink RX1 40 yX1_flagged, .instanceMethod yX1_flagged, .selects RX1 yX1_flagged yX1_flagged]
theorem o_y_X1_isMap_good : o_y_X1_isMap.all goodWord = true := by decide +kernel
def p_y_X1_isMap : List Cond := o_y_X1_isMap ++ ((.code yX1_kind cX1_kind 2 (some .int) :: p_y_X1_kind) ++ ((.code yX1_flagged cX1_flagged 2 (some .boolean) :: p_y_X1_flagged) ++ []))
theorem p_y_X1_isMap_good : p_y_X1_isMap.all goodWord = true := nb_all2 o_y_X1_isMap_good (nb_all2 (nb_allc (by decide +kernel) p_y_X1_kind_good) (nb_all2 (nb_allc (by decide +kernel) p_y_X1_flagged_good) rfl))
def w_y_X1_isMap : List Cond := .code yX1_isMap cX1_isMap 2 (some .boolean) :: (p_y_X1_isMap ++ fC)
theorem w_y_X1_isMap_good : w_y_X1_isMap.all goodWord = true := nb_allc (by decide +kernel) (nb_all2 p_y_X1_isMap_good fC_good)
theorem hd_y_X1_isMap : yX1_isMap.cls = RX1 ∧ yX1_isMap.cls ≠ "java/lang/invoke/MethodHandle" ∧ yX1_isMap.cls ≠ "java/lang/invoke/VarHandle" ∧ (parseMethodDescriptor yX1_isMap.desc).map (fun d => d.parameters.length) = some 1 := by decide +kernel
theorem gg_y_X1_isMap_X1_flagged : GoodIn w_y_X1_isMap w_y_X1_flagged := goodIn_sub (fun w h => (List.mem_cons.mp h).elim (fun e => (List.mem_cons_of_mem _ (List.mem_append_left _ (List.mem_append_right _ (List.mem_append_right _ (List.mem_append_left _ (List.mem_cons.mpr (Or.inl e)))))))) (fun h => (List.mem_append.mp h).elim (fun h => (List.mem_cons_of_mem _ (List.mem_append_left _ (List.mem_append_right _ (List.mem_append_right _ (List.mem_append_left _ (List.mem_cons_of_mem _ h))))))) (fun h => List.mem_cons_of_mem _ (List.mem_append_right _ h)))) w_y_X1_flagged_good
theorem g_y_X1_isMap_X1_flagged_V40 : GoodIn w_y_X1_isMap (wsV RX1 40 RX1 yX1_flagged w_y_X1_flagged) := goodIn_app (nb_g4 (List.mem_cons_of_mem _ (List.mem_append_left _ (List.mem_append_left _ (List.mem_of_getElem? (i := 4) rfl)))) (List.mem_cons_of_mem _ (List.mem_append_left _ (List.mem_append_left _ (List.mem_of_getElem? (i := 5) rfl)))) (List.mem_cons_of_mem _ (List.mem_append_left _ (List.mem_append_left _ (List.mem_of_getElem? (i := 6) rfl)))) (List.mem_cons_of_mem _ (List.mem_append_left _ (List.mem_append_left _ (List.mem_of_getElem? (i := 3) rfl)))) (by decide +kernel)) gg_y_X1_isMap_X1_flagged
theorem gg_y_X1_isMap_X1_kind : GoodIn w_y_X1_isMap w_y_X1_kind := goodIn_sub (fun w h => (List.mem_cons.mp h).elim (fun e => (List.mem_cons_of_mem _ (List.mem_append_left _ (List.mem_append_right _ (List.mem_append_left _ (List.mem_cons.mpr (Or.inl e))))))) (fun h => (List.mem_append.mp h).elim (fun h => (List.mem_cons_of_mem _ (List.mem_append_left _ (List.mem_append_right _ (List.mem_append_left _ (List.mem_cons_of_mem _ h)))))) (fun h => List.mem_cons_of_mem _ (List.mem_append_right _ h)))) w_y_X1_kind_good
theorem g_y_X1_isMap_X1_kind_V36 : GoodIn w_y_X1_isMap (wsV RX1 36 RX1 yX1_kind w_y_X1_kind) := goodIn_app (nb_g4 (List.mem_cons_of_mem _ (List.mem_append_left _ (List.mem_append_left _ (List.mem_of_getElem? (i := 0) rfl)))) (List.mem_cons_of_mem _ (List.mem_append_left _ (List.mem_append_left _ (List.mem_of_getElem? (i := 1) rfl)))) (List.mem_cons_of_mem _ (List.mem_append_left _ (List.mem_append_left _ (List.mem_of_getElem? (i := 2) rfl)))) (List.mem_cons_of_mem _ (List.mem_append_left _ (List.mem_append_left _ (List.mem_of_getElem? (i := 3) rfl)))) (by decide +kernel)) gg_y_X1_isMap_X1_kind
set_option maxHeartbeats 40000000 in
set_option maxRecDepth 100000 in
theorem c_y_X1_isMap (l : Launch) (dC : Nat → ClassId) (dI : Nat → Nat → Nat) (cy : Nat → ClassId) (a z : Nat → Nat) (k0 : Nat) (L0 : LV) (σ0 : CS) (r0 : Int32 × CS) (h0 : y_X1_isMap k0 0 L0 σ0 = some r0) (sz : Nat) : Met l yX1_isMap w_y_X1_isMap ({ frames := 1, cells := 0, slots := 0, locals := 21 }) (va_Pc [.ref (a 0), .int (L0.1 1)] (nIn (dC, dI) cy sz (vC cy a z σ0))) (va_Qi (fun (x : Int32) (_ : Unit) => x = r0.1) (fun _ t => nOut (dC, dI) cy (va_A (vC cy a z σ0) sz) (vC cy a z r0.2) t) (va_A (vC cy a z σ0) sz)) 0 0 (va_A (vC cy a z σ0) sz) := by
  refine Met.ofW (cc := cX1_isMap) (maxL := 2) (ret := (some .boolean)) (by decide) rfl ?_
  intro p e s m args below meth c s₁ B hml hv
  obtain ⟨rfl, hsz, hP, hK, hD0, hG⟩ := hv
  have hx := B.exec
  have hb := B.bytes
  have hr := B.returns
  have hts := atoms_spec (ws := w_y_X1_isMap) B.pre
  have hown : s.vm.findClass RX1 = some m.cls := findClass_of_methodNamed B.named
  have hlocks := B.notSynchronized
  subst hsz
  have hD := hD0.self (sz := s.heap.size)
  generalize hAe : va_A (vC cy a z σ0) s.heap.size = A at hD ⊢
  have hA : ∀ q : Nat, s.heap.size ≤ q → A q := fun q h => by rw [← hAe]; exact Or.inr h
  have hS : va_S A s.heap s.heap [] := va_S.rf
  have hl := lv_entry ([.ref (a 0), .int (L0.1 1)]) (n := 2) (Nat.le_of_ble_eq_true rfl)
  rw [lg_entry_eq]
  generalize (lg_sl ([.ref (a 0), .int (L0.1 1)]) ++ List.replicate (2 - (lg_sl ([.ref (a 0), .int (L0.1 1)])).length) Slot.unset).toArray = ls at hl ⊢
  have hl : lv_has ls 2 [(0, .ref (a 0)), (1, .int (L0.1 1))] := hl
  have blk : ∀ k : Nat, (bC p l e (headSpec w_y_X1_isMap ({ frames := 1, cells := 0, slots := 0, locals := 21 })).room s m #[.ref (a 0), .int (L0.1 1)] below meth c dC dI cy a z A (kI dC dI cy a z A below #[.ref (a 0), .int (L0.1 1)] s) 2 (y_X1_isMap k 0) (fun L => [(0, .ref (a 0)), (1, .int (L.1 1))]) 0 (fun L => [])) ∧ (bC p l e (headSpec w_y_X1_isMap ({ frames := 1, cells := 0, slots := 0, locals := 21 })).room s m #[.ref (a 0), .int (L0.1 1)] below meth c dC dI cy a z A (kI dC dI cy a z A below #[.ref (a 0), .int (L0.1 1)] s) 2 (y_X1_isMap k 1) (fun L => []) 22 (fun L => [])) ∧ (bC p l e (headSpec w_y_X1_isMap ({ frames := 1, cells := 0, slots := 0, locals := 21 })).room s m #[.ref (a 0), .int (L0.1 1)] below meth c dC dI cy a z A (kI dC dI cy a z A below #[.ref (a 0), .int (L0.1 1)] s) 2 (y_X1_isMap k 2) (fun L => []) 23 (fun L => [.int (L.1 100)])) := by
    intro k
    induction k with
    | zero => exact ⟨fun L σ r h => (by cases h), fun L σ r h => (by cases h), fun L σ r h => (by cases h)⟩
    | succ k ih =>
      refine ⟨?_, ?_, ?_⟩
      · intro L σ r h H locs ls hP hD hS hl
        rw [y_X1_isMap] at h
        refine lv_aload_n hx hb dX1_isMap_0 rfl (lv_at hl 0 rfl) ?_
        refine lv_iload_n hx hb dX1_isMap_1 rfl (lv_at hl 1 rfl) ?_
        obtain ⟨r1, hc1, h⟩ := oc_ex h
        refine kc_i (va_runV (As := [.int (L.1 1)]) (rest := []) ⟨hx, hb, hml, hown, hts⟩ (c_y_X1_kind l dC dI cy a z k (lI lZ 1 ((L.1 1))) σ r1 hc1 H.size) (cwV 1 hts g_y_X1_isMap_X1_kind_V36 rfl rfl rfl hd_y_X1_kind ⟨Nat.le_of_ble_eq_true rfl, Nat.le_of_ble_eq_true rfl⟩) ⟨nb_blind, va_recv hK hP (ci := 1) (q0 := 0) rfl rfl, (kb_pre hK hG hP hD)⟩ rfl rfl hl.1 rfl (lv_room (Nat.le_of_ble_eq_true rfl)) dX1_isMap_2 ⟨Nat.le_refl _, Nat.le_refl _⟩) hA hP hD hS (fun H locs hP hD hS => ?_)
        refine lv_bipush (v := 6) hx hb dX1_isMap_5 (by decide) ?_
        refine lv_icmp_ne (tgt := 22) hx hb dX1_isMap_7 (by decide) (fun c2 => ?_) (fun c2 => ?_)
        · rw [if_neg c2] at h
          exact ih.2.1 L r1.2 r h H locs ls hP hD hS (lv_sub hl [] rfl)
        · rw [if_pos c2] at h
          refine lv_aload_n hx hb dX1_isMap_10 rfl (lv_at hl 0 rfl) ?_
          refine lv_iload_n hx hb dX1_isMap_11 rfl (lv_at hl 1 rfl) ?_
          obtain ⟨r3, hc3, h⟩ := oc_ex h
          refine kc_i (va_runV (As := [.int (L.1 1)]) (rest := []) ⟨hx, hb, hml, hown, hts⟩ (c_y_X1_flagged l dC dI cy a z k (lI lZ 1 ((L.1 1))) r1.2 r3 hc3 H.size) (cwV 1 hts g_y_X1_isMap_X1_flagged_V40 rfl rfl rfl hd_y_X1_flagged ⟨Nat.le_of_ble_eq_true rfl, Nat.le_of_ble_eq_true rfl⟩) ⟨nb_blind, va_recv hK hP (ci := 1) (q0 := 0) rfl rfl, (kb_pre hK hG hP hD)⟩ rfl rfl hl.1 rfl (lv_room (Nat.le_of_ble_eq_true rfl)) dX1_isMap_12 ⟨Nat.le_refl _, Nat.le_refl _⟩) hA hP hD hS (fun H locs hP hD hS => ?_)
          refine lv_if_eq (tgt := 22) hx hb dX1_isMap_15 (by decide) (fun c4 => ?_) (fun c4 => ?_)
          · rw [if_pos c4] at h
            exact ih.2.1 L r3.2 r h H locs ls hP hD hS (lv_sub hl [] rfl)
          · rw [if_neg c4] at h
            refine lv_iconst (v := 1) hx hb dX1_isMap_18 (by decide) ?_
            refine lv_goto (tgt := 23) hx hb dX1_isMap_19 (by decide) ?_
            exact ih.2.2 (lI L 100 1) r3.2 r h H locs ls hP hD hS (lv_sub hl [] rfl)
      · intro L σ r h H locs ls hP hD hS hl
        rw [y_X1_isMap] at h
        refine lv_iconst (v := 0) hx hb dX1_isMap_22 (by decide) ?_
        exact ih.2.2 (lI L 100 0) σ r h H locs ls hP hD hS (lv_sub hl [] rfl)
      · intro L σ r h H locs ls hP hD hS hl
        rw [y_X1_isMap] at h
        obtain ⟨q1, h⟩ := kb_ite1 h
        obtain rfl := Option.some.inj h
        exact W.zret (v := (L.1 100)) hx hb hr (nb_bz q1) (fun t ht hW => ⟨⟨(L.1 100), (), rfl, rfl, by rw [ht]; exact hP, va_K.moved hW.alike hK, hD⟩, hS.F ht⟩) hS.2.2 dX1_isMap_23
  exact (blk k0).1 L0 σ0 r0 h0 s.heap [] ls hP hD hS hl
/-! X0_pairsFrom -/
def y_X0_pairsFrom : Nat → Nat → LV → CS → Option (Int32 × CS)
  | 0, _, _, _ => none
  | k + 1, 0, L, σ => oc (y_X1_length k 0 (lI lZ 1 ((L.1 1))) σ) (fun r1 => y_X0_pairsFrom k 1 (lI (lI (lI L 3 0) 4 r1.1) 5 0) r1.2)
  | k + 1, 1, L, σ => if 32 ≤ ((L.1 5)) then (y_X0_pairsFrom k 2 L σ) else (if ((L.1 4)) ≤ ((L.1 3)) then (y_X0_pairsFrom k 2 L σ) else (oc (y_X1_member k 0 (lI (lI lZ 1 ((L.1 1))) 2 (((((((L.1 3)) + ((L.1 4)))).toUInt32 >>> ((1 : Int32).toUInt32 &&& Int32.toUInt32 31)).toInt32))) σ) (fun r3 => oc (y_X1_member k 0 (lI (lI lZ 1 r3.1) 2 0) r3.2) (fun r4 => oc (y_X1_compare k 0 (lI (lI lZ 1 r4.1) 2 ((L.1 2))) r4.2) (fun r5 => if 0 ≤ r5.1 then (y_X0_pairsFrom k 3 (lI L 6 (((((((L.1 3)) + ((L.1 4)))).toUInt32 >>> ((1 : Int32).toUInt32 &&& Int32.toUInt32 31)).toInt32))) r5.2) else (y_X0_pairsFrom k 4 (lI L 3 (((((((((L.1 3)) + ((L.1 4)))).toUInt32 >>> ((1 : Int32).toUInt32 &&& Int32.toUInt32 31)).toInt32)) + 1))) r5.2))))))
  | k + 1, 2, L, σ => some ((L.1 3), σ)
  | k + 1, 3, L, σ => y_X0_pairsFrom k 4 (lI L 4 ((L.1 6))) σ
  | k + 1, 4, L, σ => y_X0_pairsFrom k 1 (lI L 5 ((((L.1 5)) + 1))) σ
  | _ + 1, _ + 5, _, _ => none
def o_y_X0_pairsFrom : List Cond := [.fieldLink RX0 22 "SetHouse$Algebra" "heap" "LSetHouse$Heap;", .methodLink RX0 100 yX1_length, .instanceMethod yX1_length, .selects RX1 yX1_length yX1_length, .initialized RX1, .methodLink RX0 154 yX1_member, .instanceMethod yX1_member, .selects RX1 yX1_member yX1_member, .methodLink RX0 91 yX1_compare, .instanceMethod yX1_compare, .selects RX1 yX1_compare yX1_compare]
theorem o_y_X0_pairsFrom_good : o_y_X0_pairsFrom.all goodWord = true := by decide +kernel
def p_y_X0_pairsFrom : List Cond := o_y_X0_pairsFrom ++ ((.code yX1_length cX1_length 2 (some .int) :: p_y_X1_length) ++ ((.code yX1_member cX1_member 3 (some .int) :: p_y_X1_member) ++ ((.code yX1_compare cX1_compare 9 (some .int) :: p_y_H1) ++ [])))
theorem p_y_X0_pairsFrom_good : p_y_X0_pairsFrom.all goodWord = true := nb_all2 o_y_X0_pairsFrom_good (nb_all2 (nb_allc (by decide +kernel) p_y_X1_length_good) (nb_all2 (nb_allc (by decide +kernel) p_y_X1_member_good) (nb_all2 (nb_allc (by decide +kernel) p_y_H1_good) rfl)))
def w_y_X0_pairsFrom : List Cond := .code yX0_pairsFrom cX0_pairsFrom 7 (some .int) :: (p_y_X0_pairsFrom ++ fC)
theorem w_y_X0_pairsFrom_good : w_y_X0_pairsFrom.all goodWord = true := nb_allc (by decide +kernel) (nb_all2 p_y_X0_pairsFrom_good fC_good)
theorem in_y_X0_pairsFrom_X0 : ∀ w ∈ wsX00, w ∈ w_y_X0_pairsFrom := fun _ h => List.mem_cons_of_mem _ (List.mem_append_right _ (List.mem_append_left _ h))
theorem hd_y_X0_pairsFrom : yX0_pairsFrom.cls = RX0 ∧ yX0_pairsFrom.cls ≠ "java/lang/invoke/MethodHandle" ∧ yX0_pairsFrom.cls ≠ "java/lang/invoke/VarHandle" ∧ (parseMethodDescriptor yX0_pairsFrom.desc).map (fun d => d.parameters.length) = some 2 := by decide +kernel
theorem gg_y_X0_pairsFrom_X1_compare : GoodIn w_y_X0_pairsFrom w_y_X1_compare := goodIn_sub (fun w h => (List.mem_cons.mp h).elim (fun e => (List.mem_cons_of_mem _ (List.mem_append_left _ (List.mem_append_right _ (List.mem_append_right _ (List.mem_append_right _ (List.mem_append_left _ (List.mem_cons.mpr (Or.inl e))))))))) (fun h => (List.mem_append.mp h).elim (fun h => (List.mem_cons_of_mem _ (List.mem_append_left _ (List.mem_append_right _ (List.mem_append_right _ (List.mem_append_right _ (List.mem_append_left _ (List.mem_cons_of_mem _ h)))))))) (fun h => List.mem_cons_of_mem _ (List.mem_append_right _ h)))) w_y_X1_compare_good
theorem g_y_X0_pairsFrom_X1_compare_V91 : GoodIn w_y_X0_pairsFrom (wsV RX0 91 RX1 yX1_compare w_y_X1_compare) := goodIn_app (nb_g4 (List.mem_cons_of_mem _ (List.mem_append_left _ (List.mem_append_left _ (List.mem_of_getElem? (i := 8) rfl)))) (List.mem_cons_of_mem _ (List.mem_append_left _ (List.mem_append_left _ (List.mem_of_getElem? (i := 9) rfl)))) (List.mem_cons_of_mem _ (List.mem_append_left _ (List.mem_append_left _ (List.mem_of_getElem? (i := 10) rfl)))) (List.mem_cons_of_mem _ (List.mem_append_left _ (List.mem_append_left _ (List.mem_of_getElem? (i := 4) rfl)))) (by decide +kernel)) gg_y_X0_pairsFrom_X1_compare
theorem gg_y_X0_pairsFrom_X1_length : GoodIn w_y_X0_pairsFrom w_y_X1_length := goodIn_sub (fun w h => (List.mem_cons.mp h).elim (fun e => (List.mem_cons_of_mem _ (List.mem_append_left _ (List.mem_append_right _ (List.mem_append_left _ (List.mem_cons.mpr (Or.inl e))))))) (fun h => (List.mem_append.mp h).elim (fun h => (List.mem_cons_of_mem _ (List.mem_append_left _ (List.mem_append_right _ (List.mem_append_left _ (List.mem_cons_of_mem _ h)))))) (fun h => List.mem_cons_of_mem _ (List.mem_append_right _ h)))) w_y_X1_length_good
theorem g_y_X0_pairsFrom_X1_length_V100 : GoodIn w_y_X0_pairsFrom (wsV RX0 100 RX1 yX1_length w_y_X1_length) := goodIn_app (nb_g4 (List.mem_cons_of_mem _ (List.mem_append_left _ (List.mem_append_left _ (List.mem_of_getElem? (i := 1) rfl)))) (List.mem_cons_of_mem _ (List.mem_append_left _ (List.mem_append_left _ (List.mem_of_getElem? (i := 2) rfl)))) (List.mem_cons_of_mem _ (List.mem_append_left _ (List.mem_append_left _ (List.mem_of_getElem? (i := 3) rfl)))) (List.mem_cons_of_mem _ (List.mem_append_left _ (List.mem_append_left _ (List.mem_of_getElem? (i := 4) rfl)))) (by decide +kernel)) gg_y_X0_pairsFrom_X1_length
theorem gg_y_X0_pairsFrom_X1_member : GoodIn w_y_X0_pairsFrom w_y_X1_member := goodIn_sub (fun w h => (List.mem_cons.mp h).elim (fun e => (List.mem_cons_of_mem _ (List.mem_append_left _ (List.mem_append_right _ (List.mem_append_right _ (List.mem_append_left _ (List.mem_cons.mpr (Or.inl e)))))))) (fun h => (List.mem_append.mp h).elim (fun h => (List.mem_cons_of_mem _ (List.mem_append_left _ (List.mem_append_right _ (List.mem_append_right _ (List.mem_append_left _ (List.mem_cons_of_mem _ h))))))) (fun h => List.mem_cons_of_mem _ (List.mem_append_right _ h)))) w_y_X1_member_good
theorem g_y_X0_pairsFrom_X1_member_V154 : GoodIn w_y_X0_pairsFrom (wsV RX0 154 RX1 yX1_member w_y_X1_member) := goodIn_app (nb_g4 (List.mem_cons_of_mem _ (List.mem_append_left _ (List.mem_append_left _ (List.mem_of_getElem? (i := 5) rfl)))) (List.mem_cons_of_mem _ (List.mem_append_left _ (List.mem_append_left _ (List.mem_of_getElem? (i := 6) rfl)))) (List.mem_cons_of_mem _ (List.mem_append_left _ (List.mem_append_left _ (List.mem_of_getElem? (i := 7) rfl)))) (List.mem_cons_of_mem _ (List.mem_append_left _ (List.mem_append_left _ (List.mem_of_getElem? (i := 4) rfl)))) (by decide +kernel)) gg_y_X0_pairsFrom_X1_member
set_option maxHeartbeats 40000000 in
set_option maxRecDepth 100000 in
theorem c_y_X0_pairsFrom (l : Launch) (dC : Nat → ClassId) (dI : Nat → Nat → Nat) (cy : Nat → ClassId) (a z : Nat → Nat) (k0 : Nat) (L0 : LV) (σ0 : CS) (r0 : Int32 × CS) (h0 : y_X0_pairsFrom k0 0 L0 σ0 = some r0) (sz : Nat) : Met l yX0_pairsFrom w_y_X0_pairsFrom ({ frames := 62, cells := 0, slots := 0, locals := 1738 }) (va_Pc [.ref (a 14), .int (L0.1 1), .int (L0.1 2)] (nIn (dC, dI) cy sz (vC cy a z σ0))) (va_Qi (fun (x : Int32) (_ : Unit) => x = r0.1) (fun _ t => nOut (dC, dI) cy (va_A (vC cy a z σ0) sz) (vC cy a z r0.2) t) (va_A (vC cy a z σ0) sz)) 0 0 (va_A (vC cy a z σ0) sz) := by
  refine Met.ofW (cc := cX0_pairsFrom) (maxL := 7) (ret := (some .int)) (by decide) rfl ?_
  intro p e s m args below meth c s₁ B hml hv
  obtain ⟨rfl, hsz, hP, hK, hD0, hG⟩ := hv
  have hx := B.exec
  have hb := B.bytes
  have hr := B.returns
  have hts := atoms_spec (ws := w_y_X0_pairsFrom) B.pre
  have hown : s.vm.findClass RX0 = some m.cls := findClass_of_methodNamed B.named
  have hlocks := B.notSynchronized
  subst hsz
  have hD := hD0.self (sz := s.heap.size)
  generalize hAe : va_A (vC cy a z σ0) s.heap.size = A at hD ⊢
  have hA : ∀ q : Nat, s.heap.size ≤ q → A q := fun q h => by rw [← hAe]; exact Or.inr h
  have hS : va_S A s.heap s.heap [] := va_S.rf
  have hl := lv_entry ([.ref (a 14), .int (L0.1 1), .int (L0.1 2)]) (n := 7) (Nat.le_of_ble_eq_true rfl)
  rw [lg_entry_eq]
  generalize (lg_sl ([.ref (a 14), .int (L0.1 1), .int (L0.1 2)]) ++ List.replicate (7 - (lg_sl ([.ref (a 14), .int (L0.1 1), .int (L0.1 2)])).length) Slot.unset).toArray = ls at hl ⊢
  have hl : lv_has ls 7 [(0, .ref (a 14)), (1, .int (L0.1 1)), (2, .int (L0.1 2))] := hl
  have blk : ∀ k : Nat, (bC p l e (headSpec w_y_X0_pairsFrom ({ frames := 62, cells := 0, slots := 0, locals := 1738 })).room s m #[.ref (a 14), .int (L0.1 1), .int (L0.1 2)] below meth c dC dI cy a z A (kI dC dI cy a z A below #[.ref (a 14), .int (L0.1 1), .int (L0.1 2)] s) 7 (y_X0_pairsFrom k 0) (fun L => [(0, .ref (a 14)), (1, .int (L.1 1)), (2, .int (L.1 2))]) 0 (fun L => [])) ∧ (bC p l e (headSpec w_y_X0_pairsFrom ({ frames := 62, cells := 0, slots := 0, locals := 1738 })).room s m #[.ref (a 14), .int (L0.1 1), .int (L0.1 2)] below meth c dC dI cy a z A (kI dC dI cy a z A below #[.ref (a 14), .int (L0.1 1), .int (L0.1 2)] s) 7 (y_X0_pairsFrom k 1) (fun L => [(0, .ref (a 14)), (1, .int (L.1 1)), (2, .int (L.1 2)), (3, .int (L.1 3)), (4, .int (L.1 4)), (5, .int (L.1 5))]) 15 (fun L => [])) ∧ (bC p l e (headSpec w_y_X0_pairsFrom ({ frames := 62, cells := 0, slots := 0, locals := 1738 })).room s m #[.ref (a 14), .int (L0.1 1), .int (L0.1 2)] below meth c dC dI cy a z A (kI dC dI cy a z A below #[.ref (a 14), .int (L0.1 1), .int (L0.1 2)] s) 7 (y_X0_pairsFrom k 2) (fun L => [(3, .int (L.1 3))]) 83 (fun L => [])) ∧ (bC p l e (headSpec w_y_X0_pairsFrom ({ frames := 62, cells := 0, slots := 0, locals := 1738 })).room s m #[.ref (a 14), .int (L0.1 1), .int (L0.1 2)] below meth c dC dI cy a z A (kI dC dI cy a z A below #[.ref (a 14), .int (L0.1 1), .int (L0.1 2)] s) 7 (y_X0_pairsFrom k 3) (fun L => [(0, .ref (a 14)), (1, .int (L.1 1)), (2, .int (L.1 2)), (3, .int (L.1 3)), (5, .int (L.1 5)), (6, .int (L.1 6))]) 73 (fun L => [])) ∧ (bC p l e (headSpec w_y_X0_pairsFrom ({ frames := 62, cells := 0, slots := 0, locals := 1738 })).room s m #[.ref (a 14), .int (L0.1 1), .int (L0.1 2)] below meth c dC dI cy a z A (kI dC dI cy a z A below #[.ref (a 14), .int (L0.1 1), .int (L0.1 2)] s) 7 (y_X0_pairsFrom k 4) (fun L => [(0, .ref (a 14)), (1, .int (L.1 1)), (2, .int (L.1 2)), (3, .int (L.1 3)), (4, .int (L.1 4)), (5, .int (L.1 5))]) 77 (fun L => [])) := by
    intro k
    induction k with
    | zero => exact ⟨fun L σ r h => (by cases h), fun L σ r h => (by cases h), fun L σ r h => (by cases h), fun L σ r h => (by cases h), fun L σ r h => (by cases h)⟩
    | succ k ih =>
      refine ⟨?_, ?_, ?_, ?_, ?_⟩
      · intro L σ r h H locs ls hP hD hS hl
        rw [y_X0_pairsFrom] at h
        refine lv_iconst (v := 0) hx hb dX0_pairsFrom_0 (by decide) ?_
        refine lv_istore_n (lv' := [(3, .int 0), (0, .ref (a 14)), (1, .int (L.1 1)), (2, .int (L.1 2))]) hx hb dX0_pairsFrom_1 rfl hl (by decide) rfl (fun ls hl => ?_)
        refine lv_aload_n hx hb dX0_pairsFrom_2 rfl (lv_at hl 1 rfl) ?_
        refine hg_14_0 hx hb hts in_y_X0_pairsFrom_X0 hown hK hP (hts _ (List.mem_cons_of_mem _ (List.mem_append_left _ (List.mem_append_left _ (List.mem_of_getElem? (i := 0) rfl))))) dX0_pairsFrom_3 ?_
        refine lv_iload_n hx hb dX0_pairsFrom_6 rfl (lv_at hl 2 rfl) ?_
        obtain ⟨r1, hc1, h⟩ := oc_ex h
        refine kc_i (va_runV (As := [.int (L.1 1)]) (rest := []) ⟨hx, hb, hml, hown, hts⟩ (c_y_X1_length l dC dI cy a z k (lI lZ 1 ((L.1 1))) σ r1 hc1 H.size) (cwV 1 hts g_y_X0_pairsFrom_X1_length_V100 rfl rfl rfl hd_y_X1_length ⟨Nat.le_of_ble_eq_true rfl, Nat.le_of_ble_eq_true rfl⟩) ⟨nb_blind, va_recv hK hP (ci := 1) (q0 := 0) rfl rfl, (kb_pre hK hG hP hD)⟩ rfl rfl hl.1 rfl (lv_room (Nat.le_of_ble_eq_true rfl)) dX0_pairsFrom_7 ⟨Nat.le_refl _, Nat.le_refl _⟩) hA hP hD hS (fun H locs hP hD hS => ?_)
        refine lv_istore (lv' := [(4, .int r1.1), (3, .int 0), (0, .ref (a 14)), (1, .int (L.1 1)), (2, .int (L.1 2))]) hx hb dX0_pairsFrom_10 hl (by decide) rfl (fun ls hl => ?_)
        refine lv_iconst (v := 0) hx hb dX0_pairsFrom_12 (by decide) ?_
        refine lv_istore (lv' := [(5, .int 0), (4, .int r1.1), (3, .int 0), (0, .ref (a 14)), (1, .int (L.1 1)), (2, .int (L.1 2))]) hx hb dX0_pairsFrom_13 hl (by decide) rfl (fun ls hl => ?_)
        exact ih.2.1 (lI (lI (lI L 3 0) 4 r1.1) 5 0) r1.2 r h H locs ls hP hD hS (lv_sub hl [3, 4, 5, 2, 1, 0] rfl)
      · intro L σ r h H locs ls hP hD hS hl
        rw [y_X0_pairsFrom] at h
        refine lv_iload hx hb dX0_pairsFrom_15 (lv_at hl 5 rfl) ?_
        refine lv_bipush (v := 32) hx hb dX0_pairsFrom_17 (by decide) ?_
        refine lv_icmp_ge (tgt := 83) hx hb dX0_pairsFrom_19 (by decide) (fun c1 => ?_) (fun c1 => ?_)
        · rw [if_pos c1] at h
          exact ih.2.2.1 L σ r h H locs ls hP hD hS (lv_sub hl [3] rfl)
        · rw [if_neg c1] at h
          refine lv_iload_n hx hb dX0_pairsFrom_22 rfl (lv_at hl 3 rfl) ?_
          refine lv_iload hx hb dX0_pairsFrom_23 (lv_at hl 4 rfl) ?_
          refine lv_icmp_ge (tgt := 83) hx hb dX0_pairsFrom_25 (by decide) (fun c2 => ?_) (fun c2 => ?_)
          · rw [if_pos c2] at h
            exact ih.2.2.1 L σ r h H locs ls hP hD hS (lv_sub hl [3] rfl)
          · rw [if_neg c2] at h
            refine lv_iload_n hx hb dX0_pairsFrom_28 rfl (lv_at hl 3 rfl) ?_
            refine lv_iload hx hb dX0_pairsFrom_29 (lv_at hl 4 rfl) ?_
            refine lv_iadd hx hb dX0_pairsFrom_31 ?_
            refine lv_iconst (v := 1) hx hb dX0_pairsFrom_32 (by decide) ?_
            refine lv_iushr (v := (((((L.1 3)) + ((L.1 4)))).toUInt32 >>> ((1 : Int32).toUInt32 &&& Int32.toUInt32 31)).toInt32) hx hb dX0_pairsFrom_33 rfl ?_
            refine lv_istore (lv' := [(6, .int ((((((L.1 3)) + ((L.1 4)))).toUInt32 >>> ((1 : Int32).toUInt32 &&& Int32.toUInt32 31)).toInt32)), (0, .ref (a 14)), (1, .int (L.1 1)), (2, .int (L.1 2)), (3, .int (L.1 3)), (4, .int (L.1 4)), (5, .int (L.1 5))]) hx hb dX0_pairsFrom_34 hl (by decide) rfl (fun ls hl => ?_)
            refine lv_aload_n hx hb dX0_pairsFrom_36 rfl (lv_at hl 1 rfl) ?_
            refine hg_14_0 hx hb hts in_y_X0_pairsFrom_X0 hown hK hP (hts _ (List.mem_cons_of_mem _ (List.mem_append_left _ (List.mem_append_left _ (List.mem_of_getElem? (i := 0) rfl))))) dX0_pairsFrom_37 ?_
            refine lv_aload_n hx hb dX0_pairsFrom_40 rfl (lv_at hl 1 rfl) ?_
            refine hg_14_0 hx hb hts in_y_X0_pairsFrom_X0 hown hK hP (hts _ (List.mem_cons_of_mem _ (List.mem_append_left _ (List.mem_append_left _ (List.mem_of_getElem? (i := 0) rfl))))) dX0_pairsFrom_41 ?_
            refine lv_aload_n hx hb dX0_pairsFrom_44 rfl (lv_at hl 1 rfl) ?_
            refine hg_14_0 hx hb hts in_y_X0_pairsFrom_X0 hown hK hP (hts _ (List.mem_cons_of_mem _ (List.mem_append_left _ (List.mem_append_left _ (List.mem_of_getElem? (i := 0) rfl))))) dX0_pairsFrom_45 ?_
            refine lv_iload_n hx hb dX0_pairsFrom_48 rfl (lv_at hl 2 rfl) ?_
            refine lv_iload hx hb dX0_pairsFrom_49 (lv_at hl 0 rfl) ?_
            obtain ⟨r3, hc3, h⟩ := oc_ex h
            refine kc_i (va_runV (As := [.int (L.1 1), .int ((((((L.1 3)) + ((L.1 4)))).toUInt32 >>> ((1 : Int32).toUInt32 &&& Int32.toUInt32 31)).toInt32)]) (rest := [.ref (a 0), .ref (a 0)]) ⟨hx, hb, hml, hown, hts⟩ (c_y_X1_member l dC dI cy a z k (lI (lI lZ 1 ((L.1 1))) 2 (((((((L.1 3)) + ((L.1 4)))).toUInt32 >>> ((1 : Int32).toUInt32 &&& Int32.toUInt32 31)).toInt32))) σ r3 hc3 H.size) (cwV 2 hts g_y_X0_pairsFrom_X1_member_V154 rfl rfl rfl hd_y_X1_member ⟨Nat.le_of_ble_eq_true rfl, Nat.le_of_ble_eq_true rfl⟩) ⟨nb_blind, va_recv hK hP (ci := 1) (q0 := 0) rfl rfl, (kb_pre hK hG hP hD)⟩ rfl rfl hl.1 rfl (lv_room (Nat.le_of_ble_eq_true rfl)) dX0_pairsFrom_51 ⟨Nat.le_refl _, Nat.le_refl _⟩) hA hP hD hS (fun H locs hP hD hS => ?_)
            refine lv_iconst (v := 0) hx hb dX0_pairsFrom_54 (by decide) ?_
            obtain ⟨r4, hc4, h⟩ := oc_ex h
            refine kc_i (va_runV (As := [.int r3.1, .int 0]) (rest := [.ref (a 0)]) ⟨hx, hb, hml, hown, hts⟩ (c_y_X1_member l dC dI cy a z k (lI (lI lZ 1 r3.1) 2 0) r3.2 r4 hc4 H.size) (cwV 2 hts g_y_X0_pairsFrom_X1_member_V154 rfl rfl rfl hd_y_X1_member ⟨Nat.le_of_ble_eq_true rfl, Nat.le_of_ble_eq_true rfl⟩) ⟨nb_blind, va_recv hK hP (ci := 1) (q0 := 0) rfl rfl, (kb_pre hK hG hP hD)⟩ rfl rfl hl.1 rfl (lv_room (Nat.le_of_ble_eq_true rfl)) dX0_pairsFrom_55 ⟨Nat.le_refl _, Nat.le_refl _⟩) hA hP hD hS (fun H locs hP hD hS => ?_)
            refine lv_iload_n hx hb dX0_pairsFrom_58 rfl (lv_at hl 3 rfl) ?_
            obtain ⟨r5, hc5, h⟩ := oc_ex h
            refine kc_i (va_runV (As := [.int r4.1, .int (L.1 2)]) (rest := []) ⟨hx, hb, hml, hown, hts⟩ (c_y_X1_compare l dC dI cy a z k (lI (lI lZ 1 r4.1) 2 ((L.1 2))) r4.2 r5 hc5 H.size) (cwV 2 hts g_y_X0_pairsFrom_X1_compare_V91 rfl rfl rfl hd_y_X1_compare ⟨Nat.le_of_ble_eq_true rfl, Nat.le_of_ble_eq_true rfl⟩) ⟨nb_blind, va_recv hK hP (ci := 1) (q0 := 0) rfl rfl, (kb_pre hK hG hP hD)⟩ rfl rfl hl.1 rfl (lv_room (Nat.le_of_ble_eq_true rfl)) dX0_pairsFrom_59 ⟨Nat.le_refl _, Nat.le_refl _⟩) hA hP hD hS (fun H locs hP hD hS => ?_)
            refine lv_if_ge (tgt := 73) hx hb dX0_pairsFrom_62 (by decide) (fun c6 => ?_) (fun c6 => ?_)
            · rw [if_pos c6] at h
              exact ih.2.2.2.1 (lI L 6 (((((((L.1 3)) + ((L.1 4)))).toUInt32 >>> ((1 : Int32).toUInt32 &&& Int32.toUInt32 31)).toInt32))) r5.2 r h H locs ls hP hD hS (lv_sub hl [1, 2, 3, 4, 6, 0] rfl)
            · rw [if_neg c6] at h
              refine lv_iload hx hb dX0_pairsFrom_65 (lv_at hl 0 rfl) ?_
              refine lv_iconst (v := 1) hx hb dX0_pairsFrom_67 (by decide) ?_
              refine lv_iadd hx hb dX0_pairsFrom_68 ?_
              refine lv_istore_n (lv' := [(3, .int ((((((((L.1 3)) + ((L.1 4)))).toUInt32 >>> ((1 : Int32).toUInt32 &&& Int32.toUInt32 31)).toInt32)) + 1)), (6, .int ((((((L.1 3)) + ((L.1 4)))).toUInt32 >>> ((1 : Int32).toUInt32 &&& Int32.toUInt32 31)).toInt32)), (0, .ref (a 14)), (1, .int (L.1 1)), (2, .int (L.1 2)), (4, .int (L.1 4)), (5, .int (L.1 5))]) hx hb dX0_pairsFrom_69 rfl hl (by decide) rfl (fun ls hl => ?_)
              refine lv_goto (tgt := 77) hx hb dX0_pairsFrom_70 (by decide) ?_
              exact ih.2.2.2.2 (lI L 3 (((((((((L.1 3)) + ((L.1 4)))).toUInt32 >>> ((1 : Int32).toUInt32 &&& Int32.toUInt32 31)).toInt32)) + 1))) r5.2 r h H locs ls hP hD hS (lv_sub hl [2, 3, 4, 0, 5, 6] rfl)
      · intro L σ r h H locs ls hP hD hS hl
        rw [y_X0_pairsFrom] at h
        refine lv_iload_n hx hb dX0_pairsFrom_83 rfl (lv_at hl 0 rfl) ?_
        obtain rfl := Option.some.inj h
        exact W.iret (v := (L.1 3)) hx hb hr (fun t ht hW => ⟨⟨(L.1 3), (), rfl, rfl, by rw [ht]; exact hP, va_K.moved hW.alike hK, hD⟩, hS.F ht⟩) hS.2.2 dX0_pairsFrom_84
      · intro L σ r h H locs ls hP hD hS hl
        rw [y_X0_pairsFrom] at h
        refine lv_iload hx hb dX0_pairsFrom_73 (lv_at hl 5 rfl) ?_
        refine lv_istore (lv' := [(4, .int (L.1 6)), (0, .ref (a 14)), (1, .int (L.1 1)), (2, .int (L.1 2)), (3, .int (L.1 3)), (5, .int (L.1 5)), (6, .int (L.1 6))]) hx hb dX0_pairsFrom_75 hl (by decide) rfl (fun ls hl => ?_)
        exact ih.2.2.2.2 (lI L 4 ((L.1 6))) σ r h H locs ls hP hD hS (lv_sub hl [1, 2, 3, 4, 0, 5] rfl)
      · intro L σ r h H locs ls hP hD hS hl
        rw [y_X0_pairsFrom] at h
        refine lv_iinc (v := ((L.1 5)) + 1) (lv' := [(5, .int (((L.1 5)) + 1)), (0, .ref (a 14)), (1, .int (L.1 1)), (2, .int (L.1 2)), (3, .int (L.1 3)), (4, .int (L.1 4))]) hx hb dX0_pairsFrom_77 hl (k := 5) rfl rfl (by decide) rfl (fun ls hl => ?_)
        refine lv_goto (tgt := 15) hx hb dX0_pairsFrom_80 (by decide) ?_
        exact ih.2.1 (lI L 5 ((((L.1 5)) + 1))) σ r h H locs ls hP hD hS (lv_sub hl [1, 2, 3, 4, 5, 0] rfl)
  exact (blk k0).1 L0 σ0 r0 h0 s.heap [] ls hP hD hS hl
/-! X0_pairsTo -/
def y_X0_pairsTo : Nat → Nat → LV → CS → Option (Int32 × CS)
  | 0, _, _, _ => none
  | k + 1, 0, L, σ => y_X0_pairsTo k 1 (lI (lI L 4 ((L.1 2))) 5 ((L.1 2))) σ
  | k + 1, 1, L, σ => oc (y_X1_length k 0 (lI lZ 1 ((L.1 1))) σ) (fun r1 => if r1.1 ≤ ((L.1 5)) then (y_X0_pairsTo k 2 L r1.2) else (oc (y_X1_member k 0 (lI (lI lZ 1 ((L.1 1))) 2 ((L.1 5))) r1.2) (fun r3 => oc (y_X1_member k 0 (lI (lI lZ 1 r3.1) 2 0) r3.2) (fun r4 => oc (y_X1_compare k 0 (lI (lI lZ 1 r4.1) 2 ((L.1 3))) r4.2) (fun r5 => if r5.1 = 0 then (y_X0_pairsTo k 1 (lI (lI L 4 ((((L.1 5)) + 1))) 5 ((((L.1 5)) + 1))) r5.2) else (y_X0_pairsTo k 2 L r5.2))))))
  | k + 1, 2, L, σ => some ((L.1 4), σ)
  | _ + 1, _ + 3, _, _ => none
def o_y_X0_pairsTo : List Cond := [.fieldLink RX0 22 "SetHouse$Algebra" "heap" "LSetHouse$Heap;", .methodLink RX0 100 yX1_length, .instanceMethod yX1_length, .selects RX1 yX1_length yX1_length, .initialized RX1, .methodLink RX0 154 yX1_member, .instanceMethod yX1_member, .selects RX1 yX1_member yX1_member, .methodLink RX0 91 yX1_compare, .instanceMethod yX1_compare, .selects RX1 yX1_compare yX1_compare]
theorem o_y_X0_pairsTo_good : o_y_X0_pairsTo.all goodWord = true := by decide +kernel
def p_y_X0_pairsTo : List Cond := o_y_X0_pairsTo ++ ((.code yX1_length cX1_length 2 (some .int) :: p_y_X1_length) ++ ((.code yX1_member cX1_member 3 (some .int) :: p_y_X1_member) ++ ((.code yX1_compare cX1_compare 9 (some .int) :: p_y_H1) ++ [])))
theorem p_y_X0_pairsTo_good : p_y_X0_pairsTo.all goodWord = true := nb_all2 o_y_X0_pairsTo_good (nb_all2 (nb_allc (by decide +kernel) p_y_X1_length_good) (nb_all2 (nb_allc (by decide +kernel) p_y_X1_member_good) (nb_all2 (nb_allc (by decide +kernel) p_y_H1_good) rfl)))
def w_y_X0_pairsTo : List Cond := .code yX0_pairsTo cX0_pairsTo 6 (some .int) :: (p_y_X0_pairsTo ++ fC)
theorem w_y_X0_pairsTo_good : w_y_X0_pairsTo.all goodWord = true := nb_allc (by decide +kernel) (nb_all2 p_y_X0_pairsTo_good fC_good)
theorem in_y_X0_pairsTo_X0 : ∀ w ∈ wsX00, w ∈ w_y_X0_pairsTo := fun _ h => List.mem_cons_of_mem _ (List.mem_append_right _ (List.mem_append_left _ h))
theorem hd_y_X0_pairsTo : yX0_pairsTo.cls = RX0 ∧ yX0_pairsTo.cls ≠ "java/lang/invoke/MethodHandle" ∧ yX0_pairsTo.cls ≠ "java/lang/invoke/VarHandle" ∧ (parseMethodDescriptor yX0_pairsTo.desc).map (fun d => d.parameters.length) = some 3 := by decide +kernel
theorem gg_y_X0_pairsTo_X1_compare : GoodIn w_y_X0_pairsTo w_y_X1_compare := goodIn_sub (fun w h => (List.mem_cons.mp h).elim (fun e => (List.mem_cons_of_mem _ (List.mem_append_left _ (List.mem_append_right _ (List.mem_append_right _ (List.mem_append_right _ (List.mem_append_left _ (List.mem_cons.mpr (Or.inl e))))))))) (fun h => (List.mem_append.mp h).elim (fun h => (List.mem_cons_of_mem _ (List.mem_append_left _ (List.mem_append_right _ (List.mem_append_right _ (List.mem_append_right _ (List.mem_append_left _ (List.mem_cons_of_mem _ h)))))))) (fun h => List.mem_cons_of_mem _ (List.mem_append_right _ h)))) w_y_X1_compare_good
theorem g_y_X0_pairsTo_X1_compare_V91 : GoodIn w_y_X0_pairsTo (wsV RX0 91 RX1 yX1_compare w_y_X1_compare) := goodIn_app (nb_g4 (List.mem_cons_of_mem _ (List.mem_append_left _ (List.mem_append_left _ (List.mem_of_getElem? (i := 8) rfl)))) (List.mem_cons_of_mem _ (List.mem_append_left _ (List.mem_append_left _ (List.mem_of_getElem? (i := 9) rfl)))) (List.mem_cons_of_mem _ (List.mem_append_left _ (List.mem_append_left _ (List.mem_of_getElem? (i := 10) rfl)))) (List.mem_cons_of_mem _ (List.mem_append_left _ (List.mem_append_left _ (List.mem_of_getElem? (i := 4) rfl)))) (by decide +kernel)) gg_y_X0_pairsTo_X1_compare
theorem gg_y_X0_pairsTo_X1_length : GoodIn w_y_X0_pairsTo w_y_X1_length := goodIn_sub (fun w h => (List.mem_cons.mp h).elim (fun e => (List.mem_cons_of_mem _ (List.mem_append_left _ (List.mem_append_right _ (List.mem_append_left _ (List.mem_cons.mpr (Or.inl e))))))) (fun h => (List.mem_append.mp h).elim (fun h => (List.mem_cons_of_mem _ (List.mem_append_left _ (List.mem_append_right _ (List.mem_append_left _ (List.mem_cons_of_mem _ h)))))) (fun h => List.mem_cons_of_mem _ (List.mem_append_right _ h)))) w_y_X1_length_good
theorem g_y_X0_pairsTo_X1_length_V100 : GoodIn w_y_X0_pairsTo (wsV RX0 100 RX1 yX1_length w_y_X1_length) := goodIn_app (nb_g4 (List.mem_cons_of_mem _ (List.mem_append_left _ (List.mem_append_left _ (List.mem_of_getElem? (i := 1) rfl)))) (List.mem_cons_of_mem _ (List.mem_append_left _ (List.mem_append_left _ (List.mem_of_getElem? (i := 2) rfl)))) (List.mem_cons_of_mem _ (List.mem_append_left _ (List.mem_append_left _ (List.mem_of_getElem? (i := 3) rfl)))) (List.mem_cons_of_mem _ (List.mem_append_left _ (List.mem_append_left _ (List.mem_of_getElem? (i := 4) rfl)))) (by decide +kernel)) gg_y_X0_pairsTo_X1_length
theorem gg_y_X0_pairsTo_X1_member : GoodIn w_y_X0_pairsTo w_y_X1_member := goodIn_sub (fun w h => (List.mem_cons.mp h).elim (fun e => (List.mem_cons_of_mem _ (List.mem_append_left _ (List.mem_append_right _ (List.mem_append_right _ (List.mem_append_left _ (List.mem_cons.mpr (Or.inl e)))))))) (fun h => (List.mem_append.mp h).elim (fun h => (List.mem_cons_of_mem _ (List.mem_append_left _ (List.mem_append_right _ (List.mem_append_right _ (List.mem_append_left _ (List.mem_cons_of_mem _ h))))))) (fun h => List.mem_cons_of_mem _ (List.mem_append_right _ h)))) w_y_X1_member_good
theorem g_y_X0_pairsTo_X1_member_V154 : GoodIn w_y_X0_pairsTo (wsV RX0 154 RX1 yX1_member w_y_X1_member) := goodIn_app (nb_g4 (List.mem_cons_of_mem _ (List.mem_append_left _ (List.mem_append_left _ (List.mem_of_getElem? (i := 5) rfl)))) (List.mem_cons_of_mem _ (List.mem_append_left _ (List.mem_append_left _ (List.mem_of_getElem? (i := 6) rfl)))) (List.mem_cons_of_mem _ (List.mem_append_left _ (List.mem_append_left _ (List.mem_of_getElem? (i := 7) rfl)))) (List.mem_cons_of_mem _ (List.mem_append_left _ (List.mem_append_left _ (List.mem_of_getElem? (i := 4) rfl)))) (by decide +kernel)) gg_y_X0_pairsTo_X1_member
set_option maxHeartbeats 40000000 in
set_option maxRecDepth 100000 in
theorem c_y_X0_pairsTo (l : Launch) (dC : Nat → ClassId) (dI : Nat → Nat → Nat) (cy : Nat → ClassId) (a z : Nat → Nat) (k0 : Nat) (L0 : LV) (σ0 : CS) (r0 : Int32 × CS) (h0 : y_X0_pairsTo k0 0 L0 σ0 = some r0) (sz : Nat) : Met l yX0_pairsTo w_y_X0_pairsTo ({ frames := 62, cells := 0, slots := 0, locals := 1738 }) (va_Pc [.ref (a 14), .int (L0.1 1), .int (L0.1 2), .int (L0.1 3)] (nIn (dC, dI) cy sz (vC cy a z σ0))) (va_Qi (fun (x : Int32) (_ : Unit) => x = r0.1) (fun _ t => nOut (dC, dI) cy (va_A (vC cy a z σ0) sz) (vC cy a z r0.2) t) (va_A (vC cy a z σ0) sz)) 0 0 (va_A (vC cy a z σ0) sz) := by
  refine Met.ofW (cc := cX0_pairsTo) (maxL := 6) (ret := (some .int)) (by decide) rfl ?_
  intro p e s m args below meth c s₁ B hml hv
  obtain ⟨rfl, hsz, hP, hK, hD0, hG⟩ := hv
  have hx := B.exec
  have hb := B.bytes
  have hr := B.returns
  have hts := atoms_spec (ws := w_y_X0_pairsTo) B.pre
  have hown : s.vm.findClass RX0 = some m.cls := findClass_of_methodNamed B.named
  have hlocks := B.notSynchronized
  subst hsz
  have hD := hD0.self (sz := s.heap.size)
  generalize hAe : va_A (vC cy a z σ0) s.heap.size = A at hD ⊢
  have hA : ∀ q : Nat, s.heap.size ≤ q → A q := fun q h => by rw [← hAe]; exact Or.inr h
  have hS : va_S A s.heap s.heap [] := va_S.rf
  have hl := lv_entry ([.ref (a 14), .int (L0.1 1), .int (L0.1 2), .int (L0.1 3)]) (n := 6) (Nat.le_of_ble_eq_true rfl)
  rw [lg_entry_eq]
  generalize (lg_sl ([.ref (a 14), .int (L0.1 1), .int (L0.1 2), .int (L0.1 3)]) ++ List.replicate (6 - (lg_sl ([.ref (a 14), .int (L0.1 1), .int (L0.1 2), .int (L0.1 3)])).length) Slot.unset).toArray = ls at hl ⊢
  have hl : lv_has ls 6 [(0, .ref (a 14)), (1, .int (L0.1 1)), (2, .int (L0.1 2)), (3, .int (L0.1 3))] := hl
  have blk : ∀ k : Nat, (bC p l e (headSpec w_y_X0_pairsTo ({ frames := 62, cells := 0, slots := 0, locals := 1738 })).room s m #[.ref (a 14), .int (L0.1 1), .int (L0.1 2), .int (L0.1 3)] below meth c dC dI cy a z A (kI dC dI cy a z A below #[.ref (a 14), .int (L0.1 1), .int (L0.1 2), .int (L0.1 3)] s) 6 (y_X0_pairsTo k 0) (fun L => [(0, .ref (a 14)), (1, .int (L.1 1)), (2, .int (L.1 2)), (3, .int (L.1 3))]) 0 (fun L => [])) ∧ (bC p l e (headSpec w_y_X0_pairsTo ({ frames := 62, cells := 0, slots := 0, locals := 1738 })).room s m #[.ref (a 14), .int (L0.1 1), .int (L0.1 2), .int (L0.1 3)] below meth c dC dI cy a z A (kI dC dI cy a z A below #[.ref (a 14), .int (L0.1 1), .int (L0.1 2), .int (L0.1 3)] s) 6 (y_X0_pairsTo k 1) (fun L => [(0, .ref (a 14)), (1, .int (L.1 1)), (3, .int (L.1 3)), (4, .int (L.1 4)), (5, .int (L.1 5))]) 6 (fun L => [])) ∧ (bC p l e (headSpec w_y_X0_pairsTo ({ frames := 62, cells := 0, slots := 0, locals := 1738 })).room s m #[.ref (a 14), .int (L0.1 1), .int (L0.1 2), .int (L0.1 3)] below meth c dC dI cy a z A (kI dC dI cy a z A below #[.ref (a 14), .int (L0.1 1), .int (L0.1 2), .int (L0.1 3)] s) 6 (y_X0_pairsTo k 2) (fun L => [(4, .int (L.1 4))]) 60 (fun L => [])) := by
    intro k
    induction k with
    | zero => exact ⟨fun L σ r h => (by cases h), fun L σ r h => (by cases h), fun L σ r h => (by cases h)⟩
    | succ k ih =>
      refine ⟨?_, ?_, ?_⟩
      · intro L σ r h H locs ls hP hD hS hl
        rw [y_X0_pairsTo] at h
        refine lv_iload_n hx hb dX0_pairsTo_0 rfl (lv_at hl 2 rfl) ?_
        refine lv_istore (lv' := [(4, .int (L.1 2)), (0, .ref (a 14)), (1, .int (L.1 1)), (2, .int (L.1 2)), (3, .int (L.1 3))]) hx hb dX0_pairsTo_1 hl (by decide) rfl (fun ls hl => ?_)
        refine lv_iload_n hx hb dX0_pairsTo_3 rfl (lv_at hl 3 rfl) ?_
        refine lv_istore (lv' := [(5, .int (L.1 2)), (4, .int (L.1 2)), (0, .ref (a 14)), (1, .int (L.1 1)), (2, .int (L.1 2)), (3, .int (L.1 3))]) hx hb dX0_pairsTo_4 hl (by decide) rfl (fun ls hl => ?_)
        exact ih.2.1 (lI (lI L 4 ((L.1 2))) 5 ((L.1 2))) σ r h H locs ls hP hD hS (lv_sub hl [2, 3, 5, 1, 0] rfl)
      · intro L σ r h H locs ls hP hD hS hl
        rw [y_X0_pairsTo] at h
        refine lv_iload hx hb dX0_pairsTo_6 (lv_at hl 4 rfl) ?_
        refine lv_aload_n hx hb dX0_pairsTo_8 rfl (lv_at hl 0 rfl) ?_
        refine hg_14_0 hx hb hts in_y_X0_pairsTo_X0 hown hK hP (hts _ (List.mem_cons_of_mem _ (List.mem_append_left _ (List.mem_append_left _ (List.mem_of_getElem? (i := 0) rfl))))) dX0_pairsTo_9 ?_
        refine lv_iload_n hx hb dX0_pairsTo_12 rfl (lv_at hl 1 rfl) ?_
        obtain ⟨r1, hc1, h⟩ := oc_ex h
        refine kc_i (va_runV (As := [.int (L.1 1)]) (rest := [.int (L.1 5)]) ⟨hx, hb, hml, hown, hts⟩ (c_y_X1_length l dC dI cy a z k (lI lZ 1 ((L.1 1))) σ r1 hc1 H.size) (cwV 1 hts g_y_X0_pairsTo_X1_length_V100 rfl rfl rfl hd_y_X1_length ⟨Nat.le_of_ble_eq_true rfl, Nat.le_of_ble_eq_true rfl⟩) ⟨nb_blind, va_recv hK hP (ci := 1) (q0 := 0) rfl rfl, (kb_pre hK hG hP hD)⟩ rfl rfl hl.1 rfl (lv_room (Nat.le_of_ble_eq_true rfl)) dX0_pairsTo_13 ⟨Nat.le_refl _, Nat.le_refl _⟩) hA hP hD hS (fun H locs hP hD hS => ?_)
        refine lv_icmp_ge (tgt := 60) hx hb dX0_pairsTo_16 (by decide) (fun c2 => ?_) (fun c2 => ?_)
        · rw [if_pos c2] at h
          exact ih.2.2 L r1.2 r h H locs ls hP hD hS (lv_sub hl [3] rfl)
        · rw [if_neg c2] at h
          refine lv_aload_n hx hb dX0_pairsTo_19 rfl (lv_at hl 0 rfl) ?_
          refine hg_14_0 hx hb hts in_y_X0_pairsTo_X0 hown hK hP (hts _ (List.mem_cons_of_mem _ (List.mem_append_left _ (List.mem_append_left _ (List.mem_of_getElem? (i := 0) rfl))))) dX0_pairsTo_20 ?_
          refine lv_aload_n hx hb dX0_pairsTo_23 rfl (lv_at hl 0 rfl) ?_
          refine hg_14_0 hx hb hts in_y_X0_pairsTo_X0 hown hK hP (hts _ (List.mem_cons_of_mem _ (List.mem_append_left _ (List.mem_append_left _ (List.mem_of_getElem? (i := 0) rfl))))) dX0_pairsTo_24 ?_
          refine lv_aload_n hx hb dX0_pairsTo_27 rfl (lv_at hl 0 rfl) ?_
          refine hg_14_0 hx hb hts in_y_X0_pairsTo_X0 hown hK hP (hts _ (List.mem_cons_of_mem _ (List.mem_append_left _ (List.mem_append_left _ (List.mem_of_getElem? (i := 0) rfl))))) dX0_pairsTo_28 ?_
          refine lv_iload_n hx hb dX0_pairsTo_31 rfl (lv_at hl 1 rfl) ?_
          refine lv_iload hx hb dX0_pairsTo_32 (lv_at hl 4 rfl) ?_
          obtain ⟨r3, hc3, h⟩ := oc_ex h
          refine kc_i (va_runV (As := [.int (L.1 1), .int (L.1 5)]) (rest := [.ref (a 0), .ref (a 0)]) ⟨hx, hb, hml, hown, hts⟩ (c_y_X1_member l dC dI cy a z k (lI (lI lZ 1 ((L.1 1))) 2 ((L.1 5))) r1.2 r3 hc3 H.size) (cwV 2 hts g_y_X0_pairsTo_X1_member_V154 rfl rfl rfl hd_y_X1_member ⟨Nat.le_of_ble_eq_true rfl, Nat.le_of_ble_eq_true rfl⟩) ⟨nb_blind, va_recv hK hP (ci := 1) (q0 := 0) rfl rfl, (kb_pre hK hG hP hD)⟩ rfl rfl hl.1 rfl (lv_room (Nat.le_of_ble_eq_true rfl)) dX0_pairsTo_34 ⟨Nat.le_refl _, Nat.le_refl _⟩) hA hP hD hS (fun H locs hP hD hS => ?_)
          refine lv_iconst (v := 0) hx hb dX0_pairsTo_37 (by decide) ?_
          obtain ⟨r4, hc4, h⟩ := oc_ex h
          refine kc_i (va_runV (As := [.int r3.1, .int 0]) (rest := [.ref (a 0)]) ⟨hx, hb, hml, hown, hts⟩ (c_y_X1_member l dC dI cy a z k (lI (lI lZ 1 r3.1) 2 0) r3.2 r4 hc4 H.size) (cwV 2 hts g_y_X0_pairsTo_X1_member_V154 rfl rfl rfl hd_y_X1_member ⟨Nat.le_of_ble_eq_true rfl, Nat.le_of_ble_eq_true rfl⟩) ⟨nb_blind, va_recv hK hP (ci := 1) (q0 := 0) rfl rfl, (kb_pre hK hG hP hD)⟩ rfl rfl hl.1 rfl (lv_room (Nat.le_of_ble_eq_true rfl)) dX0_pairsTo_38 ⟨Nat.le_refl _, Nat.le_refl _⟩) hA hP hD hS (fun H locs hP hD hS => ?_)
          refine lv_iload_n hx hb dX0_pairsTo_41 rfl (lv_at hl 2 rfl) ?_
          obtain ⟨r5, hc5, h⟩ := oc_ex h
          refine kc_i (va_runV (As := [.int r4.1, .int (L.1 3)]) (rest := []) ⟨hx, hb, hml, hown, hts⟩ (c_y_X1_compare l dC dI cy a z k (lI (lI lZ 1 r4.1) 2 ((L.1 3))) r4.2 r5 hc5 H.size) (cwV 2 hts g_y_X0_pairsTo_X1_compare_V91 rfl rfl rfl hd_y_X1_compare ⟨Nat.le_of_ble_eq_true rfl, Nat.le_of_ble_eq_true rfl⟩) ⟨nb_blind, va_recv hK hP (ci := 1) (q0 := 0) rfl rfl, (kb_pre hK hG hP hD)⟩ rfl rfl hl.1 rfl (lv_room (Nat.le_of_ble_eq_true rfl)) dX0_pairsTo_42 ⟨Nat.le_refl _, Nat.le_refl _⟩) hA hP hD hS (fun H locs hP hD hS => ?_)
          refine lv_if_ne (tgt := 60) hx hb dX0_pairsTo_45 (by decide) (fun c6 => ?_) (fun c6 => ?_)
          · rw [if_neg c6] at h
            exact ih.2.2 L r5.2 r h H locs ls hP hD hS (lv_sub hl [3] rfl)
          · rw [if_pos c6] at h
            refine lv_iload hx hb dX0_pairsTo_48 (lv_at hl 4 rfl) ?_
            refine lv_iconst (v := 1) hx hb dX0_pairsTo_50 (by decide) ?_
            refine lv_iadd hx hb dX0_pairsTo_51 ?_
            refine lv_istore (lv' := [(4, .int (((L.1 5)) + 1)), (0, .ref (a 14)), (1, .int (L.1 1)), (3, .int (L.1 3)), (5, .int (L.1 5))]) hx hb dX0_pairsTo_52 hl (by decide) rfl (fun ls hl => ?_)
            refine lv_iinc (v := ((L.1 5)) + 1) (lv' := [(5, .int (((L.1 5)) + 1)), (4, .int (((L.1 5)) + 1)), (0, .ref (a 14)), (1, .int (L.1 1)), (3, .int (L.1 3))]) hx hb dX0_pairsTo_54 hl (k := 4) rfl rfl (by decide) rfl (fun ls hl => ?_)
            refine lv_goto (tgt := 6) hx hb dX0_pairsTo_57 (by decide) ?_
            exact ih.2.1 (lI (lI L 4 ((((L.1 5)) + 1))) 5 ((((L.1 5)) + 1))) r5.2 r h H locs ls hP hD hS (lv_sub hl [2, 3, 4, 1, 0] rfl)
      · intro L σ r h H locs ls hP hD hS hl
        rw [y_X0_pairsTo] at h
        refine lv_iload hx hb dX0_pairsTo_60 (lv_at hl 0 rfl) ?_
        obtain rfl := Option.some.inj h
        exact W.iret (v := (L.1 4)) hx hb hr (fun t ht hW => ⟨⟨(L.1 4), (), rfl, rfl, by rw [ht]; exact hP, va_K.moved hW.alike hK, hD⟩, hS.F ht⟩) hS.2.2 dX0_pairsTo_62
  exact (blk k0).1 L0 σ0 r0 h0 s.heap [] ls hP hD hS hl
/-! X0_memberAt -/
def y_X0_memberAt : Nat → Nat → LV → CS → Option (Int32 × CS)
  | 0, _, _, _ => none
  | k + 1, 0, L, σ => oc (y_X1_kind k 0 (lI lZ 1 ((L.1 1))) σ) (fun r1 => if r1.1 = 4 then (y_X0_memberAt k 1 L r1.2) else (if r1.1 = 5 then (y_X0_memberAt k 1 L r1.2) else (y_X0_memberAt k 2 L r1.2)))
  | k + 1, 1, L, σ => oc (y_X1_kind k 0 (lI lZ 1 ((L.1 2))) σ) (fun r1 => if r1.1 = 2 then (y_X0_memberAt k 3 L r1.2) else (some ((-268435455), r1.2)))
  | k + 1, 2, L, σ => oc (y_X1_isMap k 0 (lI lZ 1 ((L.1 1))) σ) (fun r1 => if r1.1 = 0 then (some ((-268435455), r1.2)) else (y_X0_memberAt k 4 L r1.2))
  | k + 1, 3, L, σ => oc (y_X10_clamped k 0 (lI lZ 1 ((L.1 2))) σ) (fun r1 => if 1 ≤ r1.1 then (y_X0_memberAt k 5 (lI L 4 r1.1) r1.2) else (some ((-268435452), r1.2)))
  | k + 1, 4, L, σ => oc (y_X0_pairsFrom k 0 (lI (lI lZ 1 ((L.1 1))) 2 ((L.1 2))) σ) (fun r1 => oc (y_X0_pairsTo k 0 (lI (lI (lI lZ 1 ((L.1 1))) 2 r1.1) 3 ((L.1 2))) r1.2) (fun r2 => if r2.1 = ((r1.1 + 1)) then (oc (y_X1_member k 0 (lI (lI lZ 1 ((L.1 1))) 2 r1.1) r2.2) (fun r4 => oc (y_X1_member k 0 (lI (lI lZ 1 r4.1) 2 1) r4.2) (fun r5 => y_X0_memberAt k 7 (lI L 100 r5.1) r5.2))) else (y_X0_memberAt k 6 L r2.2)))
  | k + 1, 5, L, σ => oc (y_X1_length k 0 (lI lZ 1 ((L.1 1))) σ) (fun r1 => if r1.1 < ((L.1 4)) then (y_X0_memberAt k 8 L r1.2) else (oc (y_X1_taken k 0 (lI (lI lZ 1 ((L.1 1))) 2 ((((L.1 4)) - 1))) r1.2) (fun r3 => y_X0_memberAt k 9 (lI L 100 r3.1) r3.2)))
  | k + 1, 6, L, σ => y_X0_memberAt k 7 (lI L 100 ((-2147483648))) σ
  | k + 1, 7, L, σ => some ((L.1 100), σ)
  | k + 1, 8, L, σ => y_X0_memberAt k 9 (lI L 100 ((-2147483648))) σ
  | k + 1, 9, L, σ => some ((L.1 100), σ)
  | _ + 1, _ + 10, _, _ => none
def o_y_X0_memberAt : List Cond := [.fieldLink RX0 22 "SetHouse$Algebra" "heap" "LSetHouse$Heap;", .methodLink RX0 87 yX1_kind, .instanceMethod yX1_kind, .selects RX1 yX1_kind yX1_kind, .initialized RX1, .constant RX0 56 (-268435455), .methodLink RX0 191 yX1_isMap, .instanceMethod yX1_isMap, .selects RX1 yX1_isMap yX1_isMap, .fieldLink RX0 26 "SetHouse$Algebra" "wholes" "LSetHouse$Wholes;", .methodLink RX0 133 yX10_clamped, .instanceMethod yX10_clamped, .selects RX10 yX10_clamped yX10_clamped, .initialized RX10, .constant RX0 132 (-268435452), .methodLink RX0 267 yX0_pairsFrom, .instanceMethod yX0_pairsFrom, .selects RX0 yX0_pairsFrom yX0_pairsFrom, .initialized RX0, .methodLink RX0 270 yX0_pairsTo, .instanceMethod yX0_pairsTo, .selects RX0 yX0_pairsTo yX0_pairsTo, .methodLink RX0 154 yX1_member, .instanceMethod yX1_member, .selects RX1 yX1_member yX1_member, .methodLink RX0 100 yX1_length, .instanceMethod yX1_length, .selects RX1 yX1_length yX1_length, .methodLink RX0 264 yX1_taken, .instanceMethod yX1_taken, .selects RX1 yX1_taken yX1_taken, .constant RX0 167 (-2147483648)]
theorem o_y_X0_memberAt_good : o_y_X0_memberAt.all goodWord = true := by decide +kernel
def p_y_X0_memberAt : List Cond := o_y_X0_memberAt ++ ((.code yX1_kind cX1_kind 2 (some .int) :: p_y_X1_kind) ++ ((.code yX1_isMap cX1_isMap 2 (some .boolean) :: p_y_X1_isMap) ++ ((.code yX10_clamped cX10_clamped 2 (some .int) :: p_y_X10_clamped) ++ ((.code yX0_pairsFrom cX0_pairsFrom 7 (some .int) :: p_y_X0_pairsFrom) ++ ((.code yX0_pairsTo cX0_pairsTo 6 (some .int) :: p_y_X0_pairsTo) ++ ((.code yX1_member cX1_member 3 (some .int) :: p_y_X1_member) ++ ((.code yX1_length cX1_length 2 (some .int) :: p_y_X1_length) ++ ((.code yX1_taken cX1_taken 3 (some .int) :: p_y_X1_taken) ++ []))))))))
theorem p_y_X0_memberAt_good : p_y_X0_memberAt.all goodWord = true := nb_all2 o_y_X0_memberAt_good (nb_all2 (nb_allc (by decide +kernel) p_y_X1_kind_good) (nb_all2 (nb_allc (by decide +kernel) p_y_X1_isMap_good) (nb_all2 (nb_allc (by decide +kernel) p_y_X10_clamped_good) (nb_all2 (nb_allc (by decide +kernel) p_y_X0_pairsFrom_good) (nb_all2 (nb_allc (by decide +kernel) p_y_X0_pairsTo_good) (nb_all2 (nb_allc (by decide +kernel) p_y_X1_member_good) (nb_all2 (nb_allc (by decide +kernel) p_y_X1_length_good) (nb_all2 (nb_allc (by decide +kernel) p_y_X1_taken_good) rfl))))))))
def w_y_X0_memberAt : List Cond := .code yX0_memberAt cX0_memberAt 5 (some .int) :: (p_y_X0_memberAt ++ fC)
theorem w_y_X0_memberAt_good : w_y_X0_memberAt.all goodWord = true := nb_allc (by decide +kernel) (nb_all2 p_y_X0_memberAt_good fC_good)
theorem in_y_X0_memberAt_X0 : ∀ w ∈ wsX00, w ∈ w_y_X0_memberAt := fun _ h => List.mem_cons_of_mem _ (List.mem_append_right _ (List.mem_append_left _ h))
theorem hd_y_X0_memberAt : yX0_memberAt.cls = RX0 ∧ yX0_memberAt.cls ≠ "java/lang/invoke/MethodHandle" ∧ yX0_memberAt.cls ≠ "java/lang/invoke/VarHandle" ∧ (parseMethodDescriptor yX0_memberAt.desc).map (fun d => d.parameters.length) = some 2 := by decide +kernel
theorem gg_y_X0_memberAt_X0_pairsFrom : GoodIn w_y_X0_memberAt w_y_X0_pairsFrom := goodIn_sub (fun w h => (List.mem_cons.mp h).elim (fun e => (List.mem_cons_of_mem _ (List.mem_append_left _ (List.mem_append_right _ (List.mem_append_right _ (List.mem_append_right _ (List.mem_append_right _ (List.mem_append_left _ (List.mem_cons.mpr (Or.inl e)))))))))) (fun h => (List.mem_append.mp h).elim (fun h => (List.mem_cons_of_mem _ (List.mem_append_left _ (List.mem_append_right _ (List.mem_append_right _ (List.mem_append_right _ (List.mem_append_right _ (List.mem_append_left _ (List.mem_cons_of_mem _ h))))))))) (fun h => List.mem_cons_of_mem _ (List.mem_append_right _ h)))) w_y_X0_pairsFrom_good
theorem g_y_X0_memberAt_X0_pairsFrom_V267 : GoodIn w_y_X0_memberAt (wsV RX0 267 RX0 yX0_pairsFrom w_y_X0_pairsFrom) := goodIn_app (nb_g4 (List.mem_cons_of_mem _ (List.mem_append_left _ (List.mem_append_left _ (List.mem_of_getElem? (i := 15) rfl)))) (List.mem_cons_of_mem _ (List.mem_append_left _ (List.mem_append_left _ (List.mem_of_getElem? (i := 16) rfl)))) (List.mem_cons_of_mem _ (List.mem_append_left _ (List.mem_append_left _ (List.mem_of_getElem? (i := 17) rfl)))) (List.mem_cons_of_mem _ (List.mem_append_left _ (List.mem_append_left _ (List.mem_of_getElem? (i := 18) rfl)))) (by decide +kernel)) gg_y_X0_memberAt_X0_pairsFrom
theorem gg_y_X0_memberAt_X0_pairsTo : GoodIn w_y_X0_memberAt w_y_X0_pairsTo := goodIn_sub (fun w h => (List.mem_cons.mp h).elim (fun e => (List.mem_cons_of_mem _ (List.mem_append_left _ (List.mem_append_right _ (List.mem_append_right _ (List.mem_append_right _ (List.mem_append_right _ (List.mem_append_right _ (List.mem_append_left _ (List.mem_cons.mpr (Or.inl e))))))))))) (fun h => (List.mem_append.mp h).elim (fun h => (List.mem_cons_of_mem _ (List.mem_append_left _ (List.mem_append_right _ (List.mem_append_right _ (List.mem_append_right _ (List.mem_append_right _ (List.mem_append_right _ (List.mem_append_left _ (List.mem_cons_of_mem _ h)))))))))) (fun h => List.mem_cons_of_mem _ (List.mem_append_right _ h)))) w_y_X0_pairsTo_good
theorem g_y_X0_memberAt_X0_pairsTo_V270 : GoodIn w_y_X0_memberAt (wsV RX0 270 RX0 yX0_pairsTo w_y_X0_pairsTo) := goodIn_app (nb_g4 (List.mem_cons_of_mem _ (List.mem_append_left _ (List.mem_append_left _ (List.mem_of_getElem? (i := 19) rfl)))) (List.mem_cons_of_mem _ (List.mem_append_left _ (List.mem_append_left _ (List.mem_of_getElem? (i := 20) rfl)))) (List.mem_cons_of_mem _ (List.mem_append_left _ (List.mem_append_left _ (List.mem_of_getElem? (i := 21) rfl)))) (List.mem_cons_of_mem _ (List.mem_append_left _ (List.mem_append_left _ (List.mem_of_getElem? (i := 18) rfl)))) (by decide +kernel)) gg_y_X0_memberAt_X0_pairsTo
theorem gg_y_X0_memberAt_X10_clamped : GoodIn w_y_X0_memberAt w_y_X10_clamped := goodIn_sub (fun w h => (List.mem_cons.mp h).elim (fun e => (List.mem_cons_of_mem _ (List.mem_append_left _ (List.mem_append_right _ (List.mem_append_right _ (List.mem_append_right _ (List.mem_append_left _ (List.mem_cons.mpr (Or.inl e))))))))) (fun h => (List.mem_append.mp h).elim (fun h => (List.mem_cons_of_mem _ (List.mem_append_left _ (List.mem_append_right _ (List.mem_append_right _ (List.mem_append_right _ (List.mem_append_left _ (List.mem_cons_of_mem _ h)))))))) (fun h => List.mem_cons_of_mem _ (List.mem_append_right _ h)))) w_y_X10_clamped_good
theorem g_y_X0_memberAt_X10_clamped_V133 : GoodIn w_y_X0_memberAt (wsV RX0 133 RX10 yX10_clamped w_y_X10_clamped) := goodIn_app (nb_g4 (List.mem_cons_of_mem _ (List.mem_append_left _ (List.mem_append_left _ (List.mem_of_getElem? (i := 10) rfl)))) (List.mem_cons_of_mem _ (List.mem_append_left _ (List.mem_append_left _ (List.mem_of_getElem? (i := 11) rfl)))) (List.mem_cons_of_mem _ (List.mem_append_left _ (List.mem_append_left _ (List.mem_of_getElem? (i := 12) rfl)))) (List.mem_cons_of_mem _ (List.mem_append_left _ (List.mem_append_left _ (List.mem_of_getElem? (i := 13) rfl)))) (by decide +kernel)) gg_y_X0_memberAt_X10_clamped
theorem gg_y_X0_memberAt_X1_isMap : GoodIn w_y_X0_memberAt w_y_X1_isMap := goodIn_sub (fun w h => (List.mem_cons.mp h).elim (fun e => (List.mem_cons_of_mem _ (List.mem_append_left _ (List.mem_append_right _ (List.mem_append_right _ (List.mem_append_left _ (List.mem_cons.mpr (Or.inl e)))))))) (fun h => (List.mem_append.mp h).elim (fun h => (List.mem_cons_of_mem _ (List.mem_append_left _ (List.mem_append_right _ (List.mem_append_right _ (List.mem_append_left _ (List.mem_cons_of_mem _ h))))))) (fun h => List.mem_cons_of_mem _ (List.mem_append_right _ h)))) w_y_X1_isMap_good
theorem g_y_X0_memberAt_X1_isMap_V191 : GoodIn w_y_X0_memberAt (wsV RX0 191 RX1 yX1_isMap w_y_X1_isMap) := goodIn_app (nb_g4 (List.mem_cons_of_mem _ (List.mem_append_left _ (List.mem_append_left _ (List.mem_of_getElem? (i := 6) rfl)))) (List.mem_cons_of_mem _ (List.mem_append_left _ (List.mem_append_left _ (List.mem_of_getElem? (i := 7) rfl)))) (List.mem_cons_of_mem _ (List.mem_append_left _ (List.mem_append_left _ (List.mem_of_getElem? (i := 8) rfl)))) (List.mem_cons_of_mem _ (List.mem_append_left _ (List.mem_append_left _ (List.mem_of_getElem? (i := 4) rfl)))) (by decide +kernel)) gg_y_X0_memberAt_X1_isMap
theorem gg_y_X0_memberAt_X1_kind : GoodIn w_y_X0_memberAt w_y_X1_kind := goodIn_sub (fun w h => (List.mem_cons.mp h).elim (fun e => (List.mem_cons_of_mem _ (List.mem_append_left _ (List.mem_append_right _ (List.mem_append_left _ (List.mem_cons.mpr (Or.inl e))))))) (fun h => (List.mem_append.mp h).elim (fun h => (List.mem_cons_of_mem _ (List.mem_append_left _ (List.mem_append_right _ (List.mem_append_left _ (List.mem_cons_of_mem _ h)))))) (fun h => List.mem_cons_of_mem _ (List.mem_append_right _ h)))) w_y_X1_kind_good
theorem g_y_X0_memberAt_X1_kind_V87 : GoodIn w_y_X0_memberAt (wsV RX0 87 RX1 yX1_kind w_y_X1_kind) := goodIn_app (nb_g4 (List.mem_cons_of_mem _ (List.mem_append_left _ (List.mem_append_left _ (List.mem_of_getElem? (i := 1) rfl)))) (List.mem_cons_of_mem _ (List.mem_append_left _ (List.mem_append_left _ (List.mem_of_getElem? (i := 2) rfl)))) (List.mem_cons_of_mem _ (List.mem_append_left _ (List.mem_append_left _ (List.mem_of_getElem? (i := 3) rfl)))) (List.mem_cons_of_mem _ (List.mem_append_left _ (List.mem_append_left _ (List.mem_of_getElem? (i := 4) rfl)))) (by decide +kernel)) gg_y_X0_memberAt_X1_kind
theorem gg_y_X0_memberAt_X1_length : GoodIn w_y_X0_memberAt w_y_X1_length := goodIn_sub (fun w h => (List.mem_cons.mp h).elim (fun e => (List.mem_cons_of_mem _ (List.mem_append_left _ (List.mem_append_right _ (List.mem_append_right _ (List.mem_append_right _ (List.mem_append_right _ (List.mem_append_right _ (List.mem_append_right _ (List.mem_append_right _ (List.mem_append_left _ (List.mem_cons.mpr (Or.inl e))))))))))))) (fun h => (List.mem_append.mp h).elim (fun h => (List.mem_cons_of_mem _ (List.mem_append_left _ (List.mem_append_right _ (List.mem_append_right _ (List.mem_append_right _ (List.mem_append_right _ (List.mem_append_right _ (List.mem_append_right _ (List.mem_append_right _ (List.mem_append_left _ (List.mem_cons_of_mem _ h)))))))))))) (fun h => List.mem_cons_of_mem _ (List.mem_append_right _ h)))) w_y_X1_length_good
theorem g_y_X0_memberAt_X1_length_V100 : GoodIn w_y_X0_memberAt (wsV RX0 100 RX1 yX1_length w_y_X1_length) := goodIn_app (nb_g4 (List.mem_cons_of_mem _ (List.mem_append_left _ (List.mem_append_left _ (List.mem_of_getElem? (i := 25) rfl)))) (List.mem_cons_of_mem _ (List.mem_append_left _ (List.mem_append_left _ (List.mem_of_getElem? (i := 26) rfl)))) (List.mem_cons_of_mem _ (List.mem_append_left _ (List.mem_append_left _ (List.mem_of_getElem? (i := 27) rfl)))) (List.mem_cons_of_mem _ (List.mem_append_left _ (List.mem_append_left _ (List.mem_of_getElem? (i := 4) rfl)))) (by decide +kernel)) gg_y_X0_memberAt_X1_length
theorem gg_y_X0_memberAt_X1_member : GoodIn w_y_X0_memberAt w_y_X1_member := goodIn_sub (fun w h => (List.mem_cons.mp h).elim (fun e => (List.mem_cons_of_mem _ (List.mem_append_left _ (List.mem_append_right _ (List.mem_append_right _ (List.mem_append_right _ (List.mem_append_right _ (List.mem_append_right _ (List.mem_append_right _ (List.mem_append_left _ (List.mem_cons.mpr (Or.inl e)))))))))))) (fun h => (List.mem_append.mp h).elim (fun h => (List.mem_cons_of_mem _ (List.mem_append_left _ (List.mem_append_right _ (List.mem_append_right _ (List.mem_append_right _ (List.mem_append_right _ (List.mem_append_right _ (List.mem_append_right _ (List.mem_append_left _ (List.mem_cons_of_mem _ h))))))))))) (fun h => List.mem_cons_of_mem _ (List.mem_append_right _ h)))) w_y_X1_member_good
theorem g_y_X0_memberAt_X1_member_V154 : GoodIn w_y_X0_memberAt (wsV RX0 154 RX1 yX1_member w_y_X1_member) := goodIn_app (nb_g4 (List.mem_cons_of_mem _ (List.mem_append_left _ (List.mem_append_left _ (List.mem_of_getElem? (i := 22) rfl)))) (List.mem_cons_of_mem _ (List.mem_append_left _ (List.mem_append_left _ (List.mem_of_getElem? (i := 23) rfl)))) (List.mem_cons_of_mem _ (List.mem_append_left _ (List.mem_append_left _ (List.mem_of_getElem? (i := 24) rfl)))) (List.mem_cons_of_mem _ (List.mem_append_left _ (List.mem_append_left _ (List.mem_of_getElem? (i := 4) rfl)))) (by decide +kernel)) gg_y_X0_memberAt_X1_member
theorem gg_y_X0_memberAt_X1_taken : GoodIn w_y_X0_memberAt w_y_X1_taken := goodIn_sub (fun w h => (List.mem_cons.mp h).elim (fun e => (List.mem_cons_of_mem _ (List.mem_append_left _ (List.mem_append_right _ (List.mem_append_right _ (List.mem_append_right _ (List.mem_append_right _ (List.mem_append_right _ (List.mem_append_right _ (List.mem_append_right _ (List.mem_append_right _ (List.mem_append_left _ (List.mem_cons.mpr (Or.inl e)))))))))))))) (fun h => (List.mem_append.mp h).elim (fun h => (List.mem_cons_of_mem _ (List.mem_append_left _ (List.mem_append_right _ (List.mem_append_right _ (List.mem_append_right _ (List.mem_append_right _ (List.mem_append_right _ (List.mem_append_right _ (List.mem_append_right _ (List.mem_append_right _ (List.mem_append_left _ (List.mem_cons_of_mem _ h))))))))))))) (fun h => List.mem_cons_of_mem _ (List.mem_append_right _ h)))) w_y_X1_taken_good
theorem g_y_X0_memberAt_X1_taken_V264 : GoodIn w_y_X0_memberAt (wsV RX0 264 RX1 yX1_taken w_y_X1_taken) := goodIn_app (nb_g4 (List.mem_cons_of_mem _ (List.mem_append_left _ (List.mem_append_left _ (List.mem_of_getElem? (i := 28) rfl)))) (List.mem_cons_of_mem _ (List.mem_append_left _ (List.mem_append_left _ (List.mem_of_getElem? (i := 29) rfl)))) (List.mem_cons_of_mem _ (List.mem_append_left _ (List.mem_append_left _ (List.mem_of_getElem? (i := 30) rfl)))) (List.mem_cons_of_mem _ (List.mem_append_left _ (List.mem_append_left _ (List.mem_of_getElem? (i := 4) rfl)))) (by decide +kernel)) gg_y_X0_memberAt_X1_taken
set_option maxHeartbeats 40000000 in
set_option maxRecDepth 100000 in
theorem c_y_X0_memberAt (l : Launch) (dC : Nat → ClassId) (dI : Nat → Nat → Nat) (cy : Nat → ClassId) (a z : Nat → Nat) (k0 : Nat) (L0 : LV) (σ0 : CS) (r0 : Int32 × CS) (h0 : y_X0_memberAt k0 0 L0 σ0 = some r0) (sz : Nat) : Met l yX0_memberAt w_y_X0_memberAt ({ frames := 63, cells := 0, slots := 0, locals := 1764 }) (va_Pc [.ref (a 14), .int (L0.1 1), .int (L0.1 2)] (nIn (dC, dI) cy sz (vC cy a z σ0))) (va_Qi (fun (x : Int32) (_ : Unit) => x = r0.1) (fun _ t => nOut (dC, dI) cy (va_A (vC cy a z σ0) sz) (vC cy a z r0.2) t) (va_A (vC cy a z σ0) sz)) 0 0 (va_A (vC cy a z σ0) sz) := by
  refine Met.ofW (cc := cX0_memberAt) (maxL := 5) (ret := (some .int)) (by decide) rfl ?_
  intro p e s m args below meth c s₁ B hml hv
  obtain ⟨rfl, hsz, hP, hK, hD0, hG⟩ := hv
  have hx := B.exec
  have hb := B.bytes
  have hr := B.returns
  have hts := atoms_spec (ws := w_y_X0_memberAt) B.pre
  have hown : s.vm.findClass RX0 = some m.cls := findClass_of_methodNamed B.named
  have hlocks := B.notSynchronized
  subst hsz
  have hD := hD0.self (sz := s.heap.size)
  generalize hAe : va_A (vC cy a z σ0) s.heap.size = A at hD ⊢
  have hA : ∀ q : Nat, s.heap.size ≤ q → A q := fun q h => by rw [← hAe]; exact Or.inr h
  have hS : va_S A s.heap s.heap [] := va_S.rf
  have hl := lv_entry ([.ref (a 14), .int (L0.1 1), .int (L0.1 2)]) (n := 5) (Nat.le_of_ble_eq_true rfl)
  rw [lg_entry_eq]
  generalize (lg_sl ([.ref (a 14), .int (L0.1 1), .int (L0.1 2)]) ++ List.replicate (5 - (lg_sl ([.ref (a 14), .int (L0.1 1), .int (L0.1 2)])).length) Slot.unset).toArray = ls at hl ⊢
  have hl : lv_has ls 5 [(0, .ref (a 14)), (1, .int (L0.1 1)), (2, .int (L0.1 2))] := hl
  have blk : ∀ k : Nat, (bC p l e (headSpec w_y_X0_memberAt ({ frames := 63, cells := 0, slots := 0, locals := 1764 })).room s m #[.ref (a 14), .int (L0.1 1), .int (L0.1 2)] below meth c dC dI cy a z A (kI dC dI cy a z A below #[.ref (a 14), .int (L0.1 1), .int (L0.1 2)] s) 5 (y_X0_memberAt k 0) (fun L => [(0, .ref (a 14)), (1, .int (L.1 1)), (2, .int (L.1 2))]) 0 (fun L => [])) ∧ (bC p l e (headSpec w_y_X0_memberAt ({ frames := 63, cells := 0, slots := 0, locals := 1764 })).room s m #[.ref (a 14), .int (L0.1 1), .int (L0.1 2)] below meth c dC dI cy a z A (kI dC dI cy a z A below #[.ref (a 14), .int (L0.1 1), .int (L0.1 2)] s) 5 (y_X0_memberAt k 1) (fun L => [(0, .ref (a 14)), (1, .int (L.1 1)), (2, .int (L.1 2))]) 19 (fun L => [])) ∧ (bC p l e (headSpec w_y_X0_memberAt ({ frames := 63, cells := 0, slots := 0, locals := 1764 })).room s m #[.ref (a 14), .int (L0.1 1), .int (L0.1 2)] below meth c dC dI cy a z A (kI dC dI cy a z A below #[.ref (a 14), .int (L0.1 1), .int (L0.1 2)] s) 5 (y_X0_memberAt k 2) (fun L => [(0, .ref (a 14)), (1, .int (L.1 1)), (2, .int (L.1 2))]) 84 (fun L => [])) ∧ (bC p l e (headSpec w_y_X0_memberAt ({ frames := 63, cells := 0, slots := 0, locals := 1764 })).room s m #[.ref (a 14), .int (L0.1 1), .int (L0.1 2)] below meth c dC dI cy a z A (kI dC dI cy a z A below #[.ref (a 14), .int (L0.1 1), .int (L0.1 2)] s) 5 (y_X0_memberAt k 3) (fun L => [(0, .ref (a 14)), (1, .int (L.1 1)), (2, .int (L.1 2))]) 34 (fun L => [])) ∧ (bC p l e (headSpec w_y_X0_memberAt ({ frames := 63, cells := 0, slots := 0, locals := 1764 })).room s m #[.ref (a 14), .int (L0.1 1), .int (L0.1 2)] below meth c dC dI cy a z A (kI dC dI cy a z A below #[.ref (a 14), .int (L0.1 1), .int (L0.1 2)] s) 5 (y_X0_memberAt k 4) (fun L => [(0, .ref (a 14)), (1, .int (L.1 1)), (2, .int (L.1 2))]) 98 (fun L => [])) ∧ (bC p l e (headSpec w_y_X0_memberAt ({ frames := 63, cells := 0, slots := 0, locals := 1764 })).room s m #[.ref (a 14), .int (L0.1 1), .int (L0.1 2)] below meth c dC dI cy a z A (kI dC dI cy a z A below #[.ref (a 14), .int (L0.1 1), .int (L0.1 2)] s) 5 (y_X0_memberAt k 5) (fun L => [(0, .ref (a 14)), (1, .int (L.1 1)), (4, .int (L.1 4))]) 53 (fun L => [])) ∧ (bC p l e (headSpec w_y_X0_memberAt ({ frames := 63, cells := 0, slots := 0, locals := 1764 })).room s m #[.ref (a 14), .int (L0.1 1), .int (L0.1 2)] below meth c dC dI cy a z A (kI dC dI cy a z A below #[.ref (a 14), .int (L0.1 1), .int (L0.1 2)] s) 5 (y_X0_memberAt k 6) (fun L => []) 142 (fun L => [])) ∧ (bC p l e (headSpec w_y_X0_memberAt ({ frames := 63, cells := 0, slots := 0, locals := 1764 })).room s m #[.ref (a 14), .int (L0.1 1), .int (L0.1 2)] below meth c dC dI cy a z A (kI dC dI cy a z A below #[.ref (a 14), .int (L0.1 1), .int (L0.1 2)] s) 5 (y_X0_memberAt k 7) (fun L => []) 144 (fun L => [.int (L.1 100)])) ∧ (bC p l e (headSpec w_y_X0_memberAt ({ frames := 63, cells := 0, slots := 0, locals := 1764 })).room s m #[.ref (a 14), .int (L0.1 1), .int (L0.1 2)] below meth c dC dI cy a z A (kI dC dI cy a z A below #[.ref (a 14), .int (L0.1 1), .int (L0.1 2)] s) 5 (y_X0_memberAt k 8) (fun L => []) 81 (fun L => [])) ∧ (bC p l e (headSpec w_y_X0_memberAt ({ frames := 63, cells := 0, slots := 0, locals := 1764 })).room s m #[.ref (a 14), .int (L0.1 1), .int (L0.1 2)] below meth c dC dI cy a z A (kI dC dI cy a z A below #[.ref (a 14), .int (L0.1 1), .int (L0.1 2)] s) 5 (y_X0_memberAt k 9) (fun L => []) 83 (fun L => [.int (L.1 100)])) := by
    intro k
    induction k with
    | zero => exact ⟨fun L σ r h => (by cases h), fun L σ r h => (by cases h), fun L σ r h => (by cases h), fun L σ r h => (by cases h), fun L σ r h => (by cases h), fun L σ r h => (by cases h), fun L σ r h => (by cases h), fun L σ r h => (by cases h), fun L σ r h => (by cases h), fun L σ r h => (by cases h)⟩
    | succ k ih =>
      refine ⟨?_, ?_, ?_, ?_, ?_, ?_, ?_, ?_, ?_, ?_⟩
      · intro L σ r h H locs ls hP hD hS hl
        rw [y_X0_memberAt] at h
        refine lv_aload_n hx hb dX0_memberAt_0 rfl (lv_at hl 0 rfl) ?_
        refine hg_14_0 hx hb hts in_y_X0_memberAt_X0 hown hK hP (hts _ (List.mem_cons_of_mem _ (List.mem_append_left _ (List.mem_append_left _ (List.mem_of_getElem? (i := 0) rfl))))) dX0_memberAt_1 ?_
        refine lv_iload_n hx hb dX0_memberAt_4 rfl (lv_at hl 1 rfl) ?_
        obtain ⟨r1, hc1, h⟩ := oc_ex h
        refine kc_i (va_runV (As := [.int (L.1 1)]) (rest := []) ⟨hx, hb, hml, hown, hts⟩ (c_y_X1_kind l dC dI cy a z k (lI lZ 1 ((L.1 1))) σ r1 hc1 H.size) (cwV 1 hts g_y_X0_memberAt_X1_kind_V87 rfl rfl rfl hd_y_X1_kind ⟨Nat.le_of_ble_eq_true rfl, Nat.le_of_ble_eq_true rfl⟩) ⟨nb_blind, va_recv hK hP (ci := 1) (q0 := 0) rfl rfl, (kb_pre hK hG hP hD)⟩ rfl rfl hl.1 rfl (lv_room (Nat.le_of_ble_eq_true rfl)) dX0_memberAt_5 ⟨Nat.le_refl _, Nat.le_refl _⟩) hA hP hD hS (fun H locs hP hD hS => ?_)
        refine lv_istore_n (lv' := [(3, .int r1.1), (0, .ref (a 14)), (1, .int (L.1 1)), (2, .int (L.1 2))]) hx hb dX0_memberAt_8 rfl hl (by decide) rfl (fun ls hl => ?_)
        refine lv_iload_n hx hb dX0_memberAt_9 rfl (lv_at hl 0 rfl) ?_
        refine lv_iconst (v := 4) hx hb dX0_memberAt_10 (by decide) ?_
        refine lv_icmp_eq (tgt := 19) hx hb dX0_memberAt_11 (by decide) (fun c2 => ?_) (fun c2 => ?_)
        · rw [if_pos c2] at h
          exact ih.2.1 L r1.2 r h H locs ls hP hD hS (lv_sub hl [1, 2, 3] rfl)
        · rw [if_neg c2] at h
          refine lv_iload_n hx hb dX0_memberAt_14 rfl (lv_at hl 0 rfl) ?_
          refine lv_iconst (v := 5) hx hb dX0_memberAt_15 (by decide) ?_
          refine lv_icmp_ne (tgt := 84) hx hb dX0_memberAt_16 (by decide) (fun c3 => ?_) (fun c3 => ?_)
          · rw [if_neg c3] at h
            exact ih.2.2.1 L r1.2 r h H locs ls hP hD hS (lv_sub hl [1, 2, 3] rfl)
          · rw [if_pos c3] at h
            exact ih.2.1 L r1.2 r h H locs ls hP hD hS (lv_sub hl [1, 2, 3] rfl)
      · intro L σ r h H locs ls hP hD hS hl
        rw [y_X0_memberAt] at h
        refine lv_aload_n hx hb dX0_memberAt_19 rfl (lv_at hl 0 rfl) ?_
        refine hg_14_0 hx hb hts in_y_X0_memberAt_X0 hown hK hP (hts _ (List.mem_cons_of_mem _ (List.mem_append_left _ (List.mem_append_left _ (List.mem_of_getElem? (i := 0) rfl))))) dX0_memberAt_20 ?_
        refine lv_iload_n hx hb dX0_memberAt_23 rfl (lv_at hl 2 rfl) ?_
        obtain ⟨r1, hc1, h⟩ := oc_ex h
        refine kc_i (va_runV (As := [.int (L.1 2)]) (rest := []) ⟨hx, hb, hml, hown, hts⟩ (c_y_X1_kind l dC dI cy a z k (lI lZ 1 ((L.1 2))) σ r1 hc1 H.size) (cwV 1 hts g_y_X0_memberAt_X1_kind_V87 rfl rfl rfl hd_y_X1_kind ⟨Nat.le_of_ble_eq_true rfl, Nat.le_of_ble_eq_true rfl⟩) ⟨nb_blind, va_recv hK hP (ci := 1) (q0 := 0) rfl rfl, (kb_pre hK hG hP hD)⟩ rfl rfl hl.1 rfl (lv_room (Nat.le_of_ble_eq_true rfl)) dX0_memberAt_24 ⟨Nat.le_refl _, Nat.le_refl _⟩) hA hP hD hS (fun H locs hP hD hS => ?_)
        refine lv_iconst (v := 2) hx hb dX0_memberAt_27 (by decide) ?_
        refine lv_icmp_eq (tgt := 34) hx hb dX0_memberAt_28 (by decide) (fun c2 => ?_) (fun c2 => ?_)
        · rw [if_pos c2] at h
          exact ih.2.2.2.1 L r1.2 r h H locs ls hP hD hS (lv_sub hl [0, 1, 2] rfl)
        · rw [if_neg c2] at h
          refine lv_ldc (v := (-268435455)) hx hb hown (hts _ (List.mem_cons_of_mem _ (List.mem_append_left _ (List.mem_append_left _ (List.mem_of_getElem? (i := 5) rfl))))) dX0_memberAt_31 ?_
          obtain rfl := Option.some.inj h
          exact W.iret (v := (-268435455)) hx hb hr (fun t ht hW => ⟨⟨(-268435455), (), rfl, rfl, by rw [ht]; exact hP, va_K.moved hW.alike hK, hD⟩, hS.F ht⟩) hS.2.2 dX0_memberAt_33
      · intro L σ r h H locs ls hP hD hS hl
        rw [y_X0_memberAt] at h
        refine lv_aload_n hx hb dX0_memberAt_84 rfl (lv_at hl 0 rfl) ?_
        refine hg_14_0 hx hb hts in_y_X0_memberAt_X0 hown hK hP (hts _ (List.mem_cons_of_mem _ (List.mem_append_left _ (List.mem_append_left _ (List.mem_of_getElem? (i := 0) rfl))))) dX0_memberAt_85 ?_
        refine lv_iload_n hx hb dX0_memberAt_88 rfl (lv_at hl 1 rfl) ?_
        obtain ⟨r1, hc1, h⟩ := oc_ex h
        refine kc_i (va_runV (As := [.int (L.1 1)]) (rest := []) ⟨hx, hb, hml, hown, hts⟩ (c_y_X1_isMap l dC dI cy a z k (lI lZ 1 ((L.1 1))) σ r1 hc1 H.size) (cwV 1 hts g_y_X0_memberAt_X1_isMap_V191 rfl rfl rfl hd_y_X1_isMap ⟨Nat.le_of_ble_eq_true rfl, Nat.le_of_ble_eq_true rfl⟩) ⟨nb_blind, va_recv hK hP (ci := 1) (q0 := 0) rfl rfl, (kb_pre hK hG hP hD)⟩ rfl rfl hl.1 rfl (lv_room (Nat.le_of_ble_eq_true rfl)) dX0_memberAt_89 ⟨Nat.le_refl _, Nat.le_refl _⟩) hA hP hD hS (fun H locs hP hD hS => ?_)
        refine lv_if_ne (tgt := 98) hx hb dX0_memberAt_92 (by decide) (fun c2 => ?_) (fun c2 => ?_)
        · rw [if_neg c2] at h
          exact ih.2.2.2.2.1 L r1.2 r h H locs ls hP hD hS (lv_sub hl [0, 1, 2] rfl)
        · rw [if_pos c2] at h
          refine lv_ldc (v := (-268435455)) hx hb hown (hts _ (List.mem_cons_of_mem _ (List.mem_append_left _ (List.mem_append_left _ (List.mem_of_getElem? (i := 5) rfl))))) dX0_memberAt_95 ?_
          obtain rfl := Option.some.inj h
          exact W.iret (v := (-268435455)) hx hb hr (fun t ht hW => ⟨⟨(-268435455), (), rfl, rfl, by rw [ht]; exact hP, va_K.moved hW.alike hK, hD⟩, hS.F ht⟩) hS.2.2 dX0_memberAt_97
      · intro L σ r h H locs ls hP hD hS hl
        rw [y_X0_memberAt] at h
        refine lv_aload_n hx hb dX0_memberAt_34 rfl (lv_at hl 0 rfl) ?_
        refine hg_14_1 hx hb hts in_y_X0_memberAt_X0 hown hK hP (hts _ (List.mem_cons_of_mem _ (List.mem_append_left _ (List.mem_append_left _ (List.mem_of_getElem? (i := 9) rfl))))) dX0_memberAt_35 ?_
        refine lv_iload_n hx hb dX0_memberAt_38 rfl (lv_at hl 2 rfl) ?_
        obtain ⟨r1, hc1, h⟩ := oc_ex h
        refine kc_i (va_runV (As := [.int (L.1 2)]) (rest := []) ⟨hx, hb, hml, hown, hts⟩ (c_y_X10_clamped l dC dI cy a z k (lI lZ 1 ((L.1 2))) σ r1 hc1 H.size) (cwV 1 hts g_y_X0_memberAt_X10_clamped_V133 rfl rfl rfl hd_y_X10_clamped ⟨Nat.le_of_ble_eq_true rfl, Nat.le_of_ble_eq_true rfl⟩) ⟨nb_blind, va_recv hK hP (ci := 9) (q0 := 4) rfl rfl, (kb_pre hK hG hP hD)⟩ rfl rfl hl.1 rfl (lv_room (Nat.le_of_ble_eq_true rfl)) dX0_memberAt_39 ⟨Nat.le_refl _, Nat.le_refl _⟩) hA hP hD hS (fun H locs hP hD hS => ?_)
        refine lv_istore (lv' := [(4, .int r1.1), (0, .ref (a 14)), (1, .int (L.1 1)), (2, .int (L.1 2))]) hx hb dX0_memberAt_42 hl (by decide) rfl (fun ls hl => ?_)
        refine lv_iload hx hb dX0_memberAt_44 (lv_at hl 0 rfl) ?_
        refine lv_iconst (v := 1) hx hb dX0_memberAt_46 (by decide) ?_
        refine lv_icmp_ge (tgt := 53) hx hb dX0_memberAt_47 (by decide) (fun c2 => ?_) (fun c2 => ?_)
        · rw [if_pos c2] at h
          exact ih.2.2.2.2.2.1 (lI L 4 r1.1) r1.2 r h H locs ls hP hD hS (lv_sub hl [1, 2, 0] rfl)
        · rw [if_neg c2] at h
          refine lv_ldc (v := (-268435452)) hx hb hown (hts _ (List.mem_cons_of_mem _ (List.mem_append_left _ (List.mem_append_left _ (List.mem_of_getElem? (i := 14) rfl))))) dX0_memberAt_50 ?_
          obtain rfl := Option.some.inj h
          exact W.iret (v := (-268435452)) hx hb hr (fun t ht hW => ⟨⟨(-268435452), (), rfl, rfl, by rw [ht]; exact hP, va_K.moved hW.alike hK, hD⟩, hS.F ht⟩) hS.2.2 dX0_memberAt_52
      · intro L σ r h H locs ls hP hD hS hl
        rw [y_X0_memberAt] at h
        refine lv_aload_n hx hb dX0_memberAt_98 rfl (lv_at hl 0 rfl) ?_
        refine lv_iload_n hx hb dX0_memberAt_99 rfl (lv_at hl 1 rfl) ?_
        refine lv_iload_n hx hb dX0_memberAt_100 rfl (lv_at hl 2 rfl) ?_
        obtain ⟨r1, hc1, h⟩ := oc_ex h
        refine kc_i (va_runV (As := [.int (L.1 1), .int (L.1 2)]) (rest := []) ⟨hx, hb, hml, hown, hts⟩ (c_y_X0_pairsFrom l dC dI cy a z k (lI (lI lZ 1 ((L.1 1))) 2 ((L.1 2))) σ r1 hc1 H.size) (cwV 2 hts g_y_X0_memberAt_X0_pairsFrom_V267 rfl rfl rfl hd_y_X0_pairsFrom ⟨Nat.le_of_ble_eq_true rfl, Nat.le_of_ble_eq_true rfl⟩) ⟨nb_blind, va_recv hK hP (ci := 0) (q0 := 14) rfl rfl, (kb_pre hK hG hP hD)⟩ rfl rfl hl.1 rfl (lv_room (Nat.le_of_ble_eq_true rfl)) dX0_memberAt_101 ⟨Nat.le_refl _, Nat.le_refl _⟩) hA hP hD hS (fun H locs hP hD hS => ?_)
        refine lv_istore (lv' := [(4, .int r1.1), (0, .ref (a 14)), (1, .int (L.1 1)), (2, .int (L.1 2))]) hx hb dX0_memberAt_104 hl (by decide) rfl (fun ls hl => ?_)
        refine lv_aload_n hx hb dX0_memberAt_106 rfl (lv_at hl 1 rfl) ?_
        refine lv_iload_n hx hb dX0_memberAt_107 rfl (lv_at hl 2 rfl) ?_
        refine lv_iload hx hb dX0_memberAt_108 (lv_at hl 0 rfl) ?_
        refine lv_iload_n hx hb dX0_memberAt_110 rfl (lv_at hl 3 rfl) ?_
        obtain ⟨r2, hc2, h⟩ := oc_ex h
        refine kc_i (va_runV (As := [.int (L.1 1), .int r1.1, .int (L.1 2)]) (rest := []) ⟨hx, hb, hml, hown, hts⟩ (c_y_X0_pairsTo l dC dI cy a z k (lI (lI (lI lZ 1 ((L.1 1))) 2 r1.1) 3 ((L.1 2))) r1.2 r2 hc2 H.size) (cwV 3 hts g_y_X0_memberAt_X0_pairsTo_V270 rfl rfl rfl hd_y_X0_pairsTo ⟨Nat.le_of_ble_eq_true rfl, Nat.le_of_ble_eq_true rfl⟩) ⟨nb_blind, va_recv hK hP (ci := 0) (q0 := 14) rfl rfl, (kb_pre hK hG hP hD)⟩ rfl rfl hl.1 rfl (lv_room (Nat.le_of_ble_eq_true rfl)) dX0_memberAt_111 ⟨Nat.le_refl _, Nat.le_refl _⟩) hA hP hD hS (fun H locs hP hD hS => ?_)
        refine lv_iload hx hb dX0_memberAt_114 (lv_at hl 0 rfl) ?_
        refine lv_iconst (v := 1) hx hb dX0_memberAt_116 (by decide) ?_
        refine lv_iadd hx hb dX0_memberAt_117 ?_
        refine lv_icmp_ne (tgt := 142) hx hb dX0_memberAt_118 (by decide) (fun c3 => ?_) (fun c3 => ?_)
        · rw [if_neg c3] at h
          exact ih.2.2.2.2.2.2.1 L r2.2 r h H locs ls hP hD hS (lv_sub hl [] rfl)
        · rw [if_pos c3] at h
          refine lv_aload_n hx hb dX0_memberAt_121 rfl (lv_at hl 1 rfl) ?_
          refine hg_14_0 hx hb hts in_y_X0_memberAt_X0 hown hK hP (hts _ (List.mem_cons_of_mem _ (List.mem_append_left _ (List.mem_append_left _ (List.mem_of_getElem? (i := 0) rfl))))) dX0_memberAt_122 ?_
          refine lv_aload_n hx hb dX0_memberAt_125 rfl (lv_at hl 1 rfl) ?_
          refine hg_14_0 hx hb hts in_y_X0_memberAt_X0 hown hK hP (hts _ (List.mem_cons_of_mem _ (List.mem_append_left _ (List.mem_append_left _ (List.mem_of_getElem? (i := 0) rfl))))) dX0_memberAt_126 ?_
          refine lv_iload_n hx hb dX0_memberAt_129 rfl (lv_at hl 2 rfl) ?_
          refine lv_iload hx hb dX0_memberAt_130 (lv_at hl 0 rfl) ?_
          obtain ⟨r4, hc4, h⟩ := oc_ex h
          refine kc_i (va_runV (As := [.int (L.1 1), .int r1.1]) (rest := [.ref (a 0)]) ⟨hx, hb, hml, hown, hts⟩ (c_y_X1_member l dC dI cy a z k (lI (lI lZ 1 ((L.1 1))) 2 r1.1) r2.2 r4 hc4 H.size) (cwV 2 hts g_y_X0_memberAt_X1_member_V154 rfl rfl rfl hd_y_X1_member ⟨Nat.le_of_ble_eq_true rfl, Nat.le_of_ble_eq_true rfl⟩) ⟨nb_blind, va_recv hK hP (ci := 1) (q0 := 0) rfl rfl, (kb_pre hK hG hP hD)⟩ rfl rfl hl.1 rfl (lv_room (Nat.le_of_ble_eq_true rfl)) dX0_memberAt_132 ⟨Nat.le_refl _, Nat.le_refl _⟩) hA hP hD hS (fun H locs hP hD hS => ?_)
          refine lv_iconst (v := 1) hx hb dX0_memberAt_135 (by decide) ?_
          obtain ⟨r5, hc5, h⟩ := oc_ex h
          refine kc_i (va_runV (As := [.int r4.1, .int 1]) (rest := []) ⟨hx, hb, hml, hown, hts⟩ (c_y_X1_member l dC dI cy a z k (lI (lI lZ 1 r4.1) 2 1) r4.2 r5 hc5 H.size) (cwV 2 hts g_y_X0_memberAt_X1_member_V154 rfl rfl rfl hd_y_X1_member ⟨Nat.le_of_ble_eq_true rfl, Nat.le_of_ble_eq_true rfl⟩) ⟨nb_blind, va_recv hK hP (ci := 1) (q0 := 0) rfl rfl, (kb_pre hK hG hP hD)⟩ rfl rfl hl.1 rfl (lv_room (Nat.le_of_ble_eq_true rfl)) dX0_memberAt_136 ⟨Nat.le_refl _, Nat.le_refl _⟩) hA hP hD hS (fun H locs hP hD hS => ?_)
          refine lv_goto (tgt := 144) hx hb dX0_memberAt_139 (by decide) ?_
          exact ih.2.2.2.2.2.2.2.1 (lI L 100 r5.1) r5.2 r h H locs ls hP hD hS (lv_sub hl [] rfl)
      · intro L σ r h H locs ls hP hD hS hl
        rw [y_X0_memberAt] at h
        refine lv_iload hx hb dX0_memberAt_53 (lv_at hl 2 rfl) ?_
        refine lv_aload_n hx hb dX0_memberAt_55 rfl (lv_at hl 0 rfl) ?_
        refine hg_14_0 hx hb hts in_y_X0_memberAt_X0 hown hK hP (hts _ (List.mem_cons_of_mem _ (List.mem_append_left _ (List.mem_append_left _ (List.mem_of_getElem? (i := 0) rfl))))) dX0_memberAt_56 ?_
        refine lv_iload_n hx hb dX0_memberAt_59 rfl (lv_at hl 1 rfl) ?_
        obtain ⟨r1, hc1, h⟩ := oc_ex h
        refine kc_i (va_runV (As := [.int (L.1 1)]) (rest := [.int (L.1 4)]) ⟨hx, hb, hml, hown, hts⟩ (c_y_X1_length l dC dI cy a z k (lI lZ 1 ((L.1 1))) σ r1 hc1 H.size) (cwV 1 hts g_y_X0_memberAt_X1_length_V100 rfl rfl rfl hd_y_X1_length ⟨Nat.le_of_ble_eq_true rfl, Nat.le_of_ble_eq_true rfl⟩) ⟨nb_blind, va_recv hK hP (ci := 1) (q0 := 0) rfl rfl, (kb_pre hK hG hP hD)⟩ rfl rfl hl.1 rfl (lv_room (Nat.le_of_ble_eq_true rfl)) dX0_memberAt_60 ⟨Nat.le_refl _, Nat.le_refl _⟩) hA hP hD hS (fun H locs hP hD hS => ?_)
        refine lv_icmp_gt (tgt := 81) hx hb dX0_memberAt_63 (by decide) (fun c2 => ?_) (fun c2 => ?_)
        · rw [if_pos c2] at h
          exact ih.2.2.2.2.2.2.2.2.1 L r1.2 r h H locs ls hP hD hS (lv_sub hl [] rfl)
        · rw [if_neg c2] at h
          refine lv_aload_n hx hb dX0_memberAt_66 rfl (lv_at hl 0 rfl) ?_
          refine hg_14_0 hx hb hts in_y_X0_memberAt_X0 hown hK hP (hts _ (List.mem_cons_of_mem _ (List.mem_append_left _ (List.mem_append_left _ (List.mem_of_getElem? (i := 0) rfl))))) dX0_memberAt_67 ?_
          refine lv_iload_n hx hb dX0_memberAt_70 rfl (lv_at hl 1 rfl) ?_
          refine lv_iload hx hb dX0_memberAt_71 (lv_at hl 2 rfl) ?_
          refine lv_iconst (v := 1) hx hb dX0_memberAt_73 (by decide) ?_
          refine lv_isub hx hb dX0_memberAt_74 ?_
          obtain ⟨r3, hc3, h⟩ := oc_ex h
          refine kc_i (va_runV (As := [.int (L.1 1), .int (((L.1 4)) - 1)]) (rest := []) ⟨hx, hb, hml, hown, hts⟩ (c_y_X1_taken l dC dI cy a z k (lI (lI lZ 1 ((L.1 1))) 2 ((((L.1 4)) - 1))) r1.2 r3 hc3 H.size) (cwV 2 hts g_y_X0_memberAt_X1_taken_V264 rfl rfl rfl hd_y_X1_taken ⟨Nat.le_of_ble_eq_true rfl, Nat.le_of_ble_eq_true rfl⟩) ⟨nb_blind, va_recv hK hP (ci := 1) (q0 := 0) rfl rfl, (kb_pre hK hG hP hD)⟩ rfl rfl hl.1 rfl (lv_room (Nat.le_of_ble_eq_true rfl)) dX0_memberAt_75 ⟨Nat.le_refl _, Nat.le_refl _⟩) hA hP hD hS (fun H locs hP hD hS => ?_)
          refine lv_goto (tgt := 83) hx hb dX0_memberAt_78 (by decide) ?_
          exact ih.2.2.2.2.2.2.2.2.2 (lI L 100 r3.1) r3.2 r h H locs ls hP hD hS (lv_sub hl [] rfl)
      · intro L σ r h H locs ls hP hD hS hl
        rw [y_X0_memberAt] at h
        refine lv_ldc (v := (-2147483648)) hx hb hown (hts _ (List.mem_cons_of_mem _ (List.mem_append_left _ (List.mem_append_left _ (List.mem_of_getElem? (i := 31) rfl))))) dX0_memberAt_142 ?_
        exact ih.2.2.2.2.2.2.2.1 (lI L 100 ((-2147483648))) σ r h H locs ls hP hD hS (lv_sub hl [] rfl)
      · intro L σ r h H locs ls hP hD hS hl
        rw [y_X0_memberAt] at h
        obtain rfl := Option.some.inj h
        exact W.iret (v := (L.1 100)) hx hb hr (fun t ht hW => ⟨⟨(L.1 100), (), rfl, rfl, by rw [ht]; exact hP, va_K.moved hW.alike hK, hD⟩, hS.F ht⟩) hS.2.2 dX0_memberAt_144
      · intro L σ r h H locs ls hP hD hS hl
        rw [y_X0_memberAt] at h
        refine lv_ldc (v := (-2147483648)) hx hb hown (hts _ (List.mem_cons_of_mem _ (List.mem_append_left _ (List.mem_append_left _ (List.mem_of_getElem? (i := 31) rfl))))) dX0_memberAt_81 ?_
        exact ih.2.2.2.2.2.2.2.2.2 (lI L 100 ((-2147483648))) σ r h H locs ls hP hD hS (lv_sub hl [] rfl)
      · intro L σ r h H locs ls hP hD hS hl
        rw [y_X0_memberAt] at h
        obtain rfl := Option.some.inj h
        exact W.iret (v := (L.1 100)) hx hb hr (fun t ht hW => ⟨⟨(L.1 100), (), rfl, rfl, by rw [ht]; exact hP, va_K.moved hW.alike hK, hD⟩, hS.F ht⟩) hS.2.2 dX0_memberAt_83
  exact (blk k0).1 L0 σ0 r0 h0 s.heap [] ls hP hD hS hl
/-! X0_rowError -/
def y_X0_rowError : Nat → Nat → LV → CS → Option (Int32 × CS)
  | 0, _, _, _ => none
  | k + 1, 0, L, σ => oc (y_X1_kind k 0 (lI lZ 1 ((L.1 1))) σ) (fun r1 => if r1.1 = 4 then (y_X0_rowError k 1 L r1.2) else (if r1.1 = 5 then (y_X0_rowError k 1 L r1.2) else (y_X0_rowError k 2 L r1.2)))
  | k + 1, 1, L, σ => oc (y_X1_kind k 0 (lI lZ 1 ((L.1 2))) σ) (fun r1 => if r1.1 = 2 then (oc (y_X1_kind k 0 (lI lZ 1 ((L.1 3))) r1.2) (fun r3 => if r3.1 = 2 then (y_X0_rowError k 3 L r3.2) else (y_X0_rowError k 2 L r3.2))) else (y_X0_rowError k 2 L r1.2))
  | k + 1, 2, L, σ => some ((-268435455), σ)
  | k + 1, 3, L, σ => oc (y_X10_clamped k 0 (lI lZ 1 ((L.1 2))) σ) (fun r1 => oc (y_X10_clamped k 0 (lI lZ 1 ((L.1 3))) r1.2) (fun r2 => if r1.1 < 1 then (y_X0_rowError k 4 L r2.2) else (if r2.1 < ((r1.1 - 1)) then (y_X0_rowError k 4 L r2.2) else (oc (y_X1_length k 0 (lI lZ 1 ((L.1 1))) r2.2) (fun r5 => if r5.1 < r2.1 then (y_X0_rowError k 4 L r5.2) else (y_X0_rowError k 5 (lI L 100 0) r5.2))))))
  | k + 1, 4, L, σ => y_X0_rowError k 5 (lI L 100 ((-268435452))) σ
  | k + 1, 5, L, σ => some ((L.1 100), σ)
  | _ + 1, _ + 6, _, _ => none
def o_y_X0_rowError : List Cond := [.fieldLink RX0 22 "SetHouse$Algebra" "heap" "LSetHouse$Heap;", .methodLink RX0 87 yX1_kind, .instanceMethod yX1_kind, .selects RX1 yX1_kind yX1_kind, .initialized RX1, .constant RX0 56 (-268435455), .fieldLink RX0 26 "SetHouse$Algebra" "wholes" "LSetHouse$Wholes;", .methodLink RX0 133 yX10_clamped, .instanceMethod yX10_clamped, .selects RX10 yX10_clamped yX10_clamped, .initialized RX10, .methodLink RX0 100 yX1_length, .instanceMethod yX1_length, .selects RX1 yX1_length yX1_length, .constant RX0 132 (-268435452)]
theorem o_y_X0_rowError_good : o_y_X0_rowError.all goodWord = true := by decide +kernel
def p_y_X0_rowError : List Cond := o_y_X0_rowError ++ ((.code yX1_kind cX1_kind 2 (some .int) :: p_y_X1_kind) ++ ((.code yX10_clamped cX10_clamped 2 (some .int) :: p_y_X10_clamped) ++ ((.code yX1_length cX1_length 2 (some .int) :: p_y_X1_length) ++ [])))
theorem p_y_X0_rowError_good : p_y_X0_rowError.all goodWord = true := nb_all2 o_y_X0_rowError_good (nb_all2 (nb_allc (by decide +kernel) p_y_X1_kind_good) (nb_all2 (nb_allc (by decide +kernel) p_y_X10_clamped_good) (nb_all2 (nb_allc (by decide +kernel) p_y_X1_length_good) rfl)))
def w_y_X0_rowError : List Cond := .code yX0_rowError cX0_rowError 7 (some .int) :: (p_y_X0_rowError ++ fC)
theorem w_y_X0_rowError_good : w_y_X0_rowError.all goodWord = true := nb_allc (by decide +kernel) (nb_all2 p_y_X0_rowError_good fC_good)
theorem in_y_X0_rowError_X0 : ∀ w ∈ wsX00, w ∈ w_y_X0_rowError := fun _ h => List.mem_cons_of_mem _ (List.mem_append_right _ (List.mem_append_left _ h))
theorem hd_y_X0_rowError : yX0_rowError.cls = RX0 ∧ yX0_rowError.cls ≠ "java/lang/invoke/MethodHandle" ∧ yX0_rowError.cls ≠ "java/lang/invoke/VarHandle" ∧ (parseMethodDescriptor yX0_rowError.desc).map (fun d => d.parameters.length) = some 3 := by decide +kernel
theorem gg_y_X0_rowError_X10_clamped : GoodIn w_y_X0_rowError w_y_X10_clamped := goodIn_sub (fun w h => (List.mem_cons.mp h).elim (fun e => (List.mem_cons_of_mem _ (List.mem_append_left _ (List.mem_append_right _ (List.mem_append_right _ (List.mem_append_left _ (List.mem_cons.mpr (Or.inl e)))))))) (fun h => (List.mem_append.mp h).elim (fun h => (List.mem_cons_of_mem _ (List.mem_append_left _ (List.mem_append_right _ (List.mem_append_right _ (List.mem_append_left _ (List.mem_cons_of_mem _ h))))))) (fun h => List.mem_cons_of_mem _ (List.mem_append_right _ h)))) w_y_X10_clamped_good
theorem g_y_X0_rowError_X10_clamped_V133 : GoodIn w_y_X0_rowError (wsV RX0 133 RX10 yX10_clamped w_y_X10_clamped) := goodIn_app (nb_g4 (List.mem_cons_of_mem _ (List.mem_append_left _ (List.mem_append_left _ (List.mem_of_getElem? (i := 7) rfl)))) (List.mem_cons_of_mem _ (List.mem_append_left _ (List.mem_append_left _ (List.mem_of_getElem? (i := 8) rfl)))) (List.mem_cons_of_mem _ (List.mem_append_left _ (List.mem_append_left _ (List.mem_of_getElem? (i := 9) rfl)))) (List.mem_cons_of_mem _ (List.mem_append_left _ (List.mem_append_left _ (List.mem_of_getElem? (i := 10) rfl)))) (by decide +kernel)) gg_y_X0_rowError_X10_clamped
theorem gg_y_X0_rowError_X1_kind : GoodIn w_y_X0_rowError w_y_X1_kind := goodIn_sub (fun w h => (List.mem_cons.mp h).elim (fun e => (List.mem_cons_of_mem _ (List.mem_append_left _ (List.mem_append_right _ (List.mem_append_left _ (List.mem_cons.mpr (Or.inl e))))))) (fun h => (List.mem_append.mp h).elim (fun h => (List.mem_cons_of_mem _ (List.mem_append_left _ (List.mem_append_right _ (List.mem_append_left _ (List.mem_cons_of_mem _ h)))))) (fun h => List.mem_cons_of_mem _ (List.mem_append_right _ h)))) w_y_X1_kind_good
theorem g_y_X0_rowError_X1_kind_V87 : GoodIn w_y_X0_rowError (wsV RX0 87 RX1 yX1_kind w_y_X1_kind) := goodIn_app (nb_g4 (List.mem_cons_of_mem _ (List.mem_append_left _ (List.mem_append_left _ (List.mem_of_getElem? (i := 1) rfl)))) (List.mem_cons_of_mem _ (List.mem_append_left _ (List.mem_append_left _ (List.mem_of_getElem? (i := 2) rfl)))) (List.mem_cons_of_mem _ (List.mem_append_left _ (List.mem_append_left _ (List.mem_of_getElem? (i := 3) rfl)))) (List.mem_cons_of_mem _ (List.mem_append_left _ (List.mem_append_left _ (List.mem_of_getElem? (i := 4) rfl)))) (by decide +kernel)) gg_y_X0_rowError_X1_kind
theorem gg_y_X0_rowError_X1_length : GoodIn w_y_X0_rowError w_y_X1_length := goodIn_sub (fun w h => (List.mem_cons.mp h).elim (fun e => (List.mem_cons_of_mem _ (List.mem_append_left _ (List.mem_append_right _ (List.mem_append_right _ (List.mem_append_right _ (List.mem_append_left _ (List.mem_cons.mpr (Or.inl e))))))))) (fun h => (List.mem_append.mp h).elim (fun h => (List.mem_cons_of_mem _ (List.mem_append_left _ (List.mem_append_right _ (List.mem_append_right _ (List.mem_append_right _ (List.mem_append_left _ (List.mem_cons_of_mem _ h)))))))) (fun h => List.mem_cons_of_mem _ (List.mem_append_right _ h)))) w_y_X1_length_good
theorem g_y_X0_rowError_X1_length_V100 : GoodIn w_y_X0_rowError (wsV RX0 100 RX1 yX1_length w_y_X1_length) := goodIn_app (nb_g4 (List.mem_cons_of_mem _ (List.mem_append_left _ (List.mem_append_left _ (List.mem_of_getElem? (i := 11) rfl)))) (List.mem_cons_of_mem _ (List.mem_append_left _ (List.mem_append_left _ (List.mem_of_getElem? (i := 12) rfl)))) (List.mem_cons_of_mem _ (List.mem_append_left _ (List.mem_append_left _ (List.mem_of_getElem? (i := 13) rfl)))) (List.mem_cons_of_mem _ (List.mem_append_left _ (List.mem_append_left _ (List.mem_of_getElem? (i := 4) rfl)))) (by decide +kernel)) gg_y_X0_rowError_X1_length
set_option maxHeartbeats 40000000 in
set_option maxRecDepth 100000 in
theorem c_y_X0_rowError (l : Launch) (dC : Nat → ClassId) (dI : Nat → Nat → Nat) (cy : Nat → ClassId) (a z : Nat → Nat) (k0 : Nat) (L0 : LV) (σ0 : CS) (r0 : Int32 × CS) (h0 : y_X0_rowError k0 0 L0 σ0 = some r0) (sz : Nat) : Met l yX0_rowError w_y_X0_rowError ({ frames := 1, cells := 0, slots := 0, locals := 21 }) (va_Pc [.ref (a 14), .int (L0.1 1), .int (L0.1 2), .int (L0.1 3)] (nIn (dC, dI) cy sz (vC cy a z σ0))) (va_Qi (fun (x : Int32) (_ : Unit) => x = r0.1) (fun _ t => nOut (dC, dI) cy (va_A (vC cy a z σ0) sz) (vC cy a z r0.2) t) (va_A (vC cy a z σ0) sz)) 0 0 (va_A (vC cy a z σ0) sz) := by
  refine Met.ofW (cc := cX0_rowError) (maxL := 7) (ret := (some .int)) (by decide) rfl ?_
  intro p e s m args below meth c s₁ B hml hv
  obtain ⟨rfl, hsz, hP, hK, hD0, hG⟩ := hv
  have hx := B.exec
  have hb := B.bytes
  have hr := B.returns
  have hts := atoms_spec (ws := w_y_X0_rowError) B.pre
  have hown : s.vm.findClass RX0 = some m.cls := findClass_of_methodNamed B.named
  have hlocks := B.notSynchronized
  subst hsz
  have hD := hD0.self (sz := s.heap.size)
  generalize hAe : va_A (vC cy a z σ0) s.heap.size = A at hD ⊢
  have hA : ∀ q : Nat, s.heap.size ≤ q → A q := fun q h => by rw [← hAe]; exact Or.inr h
  have hS : va_S A s.heap s.heap [] := va_S.rf
  have hl := lv_entry ([.ref (a 14), .int (L0.1 1), .int (L0.1 2), .int (L0.1 3)]) (n := 7) (Nat.le_of_ble_eq_true rfl)
  rw [lg_entry_eq]
  generalize (lg_sl ([.ref (a 14), .int (L0.1 1), .int (L0.1 2), .int (L0.1 3)]) ++ List.replicate (7 - (lg_sl ([.ref (a 14), .int (L0.1 1), .int (L0.1 2), .int (L0.1 3)])).length) Slot.unset).toArray = ls at hl ⊢
  have hl : lv_has ls 7 [(0, .ref (a 14)), (1, .int (L0.1 1)), (2, .int (L0.1 2)), (3, .int (L0.1 3))] := hl
  have blk : ∀ k : Nat, (bC p l e (headSpec w_y_X0_rowError ({ frames := 1, cells := 0, slots := 0, locals := 21 })).room s m #[.ref (a 14), .int (L0.1 1), .int (L0.1 2), .int (L0.1 3)] below meth c dC dI cy a z A (kI dC dI cy a z A below #[.ref (a 14), .int (L0.1 1), .int (L0.1 2), .int (L0.1 3)] s) 7 (y_X0_rowError k 0) (fun L => [(0, .ref (a 14)), (1, .int (L.1 1)), (2, .int (L.1 2)), (3, .int (L.1 3))]) 0 (fun L => [])) ∧ (bC p l e (headSpec w_y_X0_rowError ({ frames := 1, cells := 0, slots := 0, locals := 21 })).room s m #[.ref (a 14), .int (L0.1 1), .int (L0.1 2), .int (L0.1 3)] below meth c dC dI cy a z A (kI dC dI cy a z A below #[.ref (a 14), .int (L0.1 1), .int (L0.1 2), .int (L0.1 3)] s) 7 (y_X0_rowError k 1) (fun L => [(0, .ref (a 14)), (1, .int (L.1 1)), (2, .int (L.1 2)), (3, .int (L.1 3))]) 22 (fun L => [])) ∧ (bC p l e (headSpec w_y_X0_rowError ({ frames := 1, cells := 0, slots := 0, locals := 21 })).room s m #[.ref (a 14), .int (L0.1 1), .int (L0.1 2), .int (L0.1 3)] below meth c dC dI cy a z A (kI dC dI cy a z A below #[.ref (a 14), .int (L0.1 1), .int (L0.1 2), .int (L0.1 3)] s) 7 (y_X0_rowError k 2) (fun L => []) 46 (fun L => [])) ∧ (bC p l e (headSpec w_y_X0_rowError ({ frames := 1, cells := 0, slots := 0, locals := 21 })).room s m #[.ref (a 14), .int (L0.1 1), .int (L0.1 2), .int (L0.1 3)] below meth c dC dI cy a z A (kI dC dI cy a z A below #[.ref (a 14), .int (L0.1 1), .int (L0.1 2), .int (L0.1 3)] s) 7 (y_X0_rowError k 3) (fun L => [(0, .ref (a 14)), (1, .int (L.1 1)), (2, .int (L.1 2)), (3, .int (L.1 3))]) 49 (fun L => [])) ∧ (bC p l e (headSpec w_y_X0_rowError ({ frames := 1, cells := 0, slots := 0, locals := 21 })).room s m #[.ref (a 14), .int (L0.1 1), .int (L0.1 2), .int (L0.1 3)] below meth c dC dI cy a z A (kI dC dI cy a z A below #[.ref (a 14), .int (L0.1 1), .int (L0.1 2), .int (L0.1 3)] s) 7 (y_X0_rowError k 4) (fun L => []) 101 (fun L => [])) ∧ (bC p l e (headSpec w_y_X0_rowError ({ frames := 1, cells := 0, slots := 0, locals := 21 })).room s m #[.ref (a 14), .int (L0.1 1), .int (L0.1 2), .int (L0.1 3)] below meth c dC dI cy a z A (kI dC dI cy a z A below #[.ref (a 14), .int (L0.1 1), .int (L0.1 2), .int (L0.1 3)] s) 7 (y_X0_rowError k 5) (fun L => []) 103 (fun L => [.int (L.1 100)])) := by
    intro k
    induction k with
    | zero => exact ⟨fun L σ r h => (by cases h), fun L σ r h => (by cases h), fun L σ r h => (by cases h), fun L σ r h => (by cases h), fun L σ r h => (by cases h), fun L σ r h => (by cases h)⟩
    | succ k ih =>
      refine ⟨?_, ?_, ?_, ?_, ?_, ?_⟩
      · intro L σ r h H locs ls hP hD hS hl
        rw [y_X0_rowError] at h
        refine lv_aload_n hx hb dX0_rowError_0 rfl (lv_at hl 0 rfl) ?_
        refine hg_14_0 hx hb hts in_y_X0_rowError_X0 hown hK hP (hts _ (List.mem_cons_of_mem _ (List.mem_append_left _ (List.mem_append_left _ (List.mem_of_getElem? (i := 0) rfl))))) dX0_rowError_1 ?_
        refine lv_iload_n hx hb dX0_rowError_4 rfl (lv_at hl 1 rfl) ?_
        obtain ⟨r1, hc1, h⟩ := oc_ex h
        refine kc_i (va_runV (As := [.int (L.1 1)]) (rest := []) ⟨hx, hb, hml, hown, hts⟩ (c_y_X1_kind l dC dI cy a z k (lI lZ 1 ((L.1 1))) σ r1 hc1 H.size) (cwV 1 hts g_y_X0_rowError_X1_kind_V87 rfl rfl rfl hd_y_X1_kind ⟨Nat.le_of_ble_eq_true rfl, Nat.le_of_ble_eq_true rfl⟩) ⟨nb_blind, va_recv hK hP (ci := 1) (q0 := 0) rfl rfl, (kb_pre hK hG hP hD)⟩ rfl rfl hl.1 rfl (lv_room (Nat.le_of_ble_eq_true rfl)) dX0_rowError_5 ⟨Nat.le_refl _, Nat.le_refl _⟩) hA hP hD hS (fun H locs hP hD hS => ?_)
        refine lv_istore (lv' := [(4, .int r1.1), (0, .ref (a 14)), (1, .int (L.1 1)), (2, .int (L.1 2)), (3, .int (L.1 3))]) hx hb dX0_rowError_8 hl (by decide) rfl (fun ls hl => ?_)
        refine lv_iload hx hb dX0_rowError_10 (lv_at hl 0 rfl) ?_
        refine lv_iconst (v := 4) hx hb dX0_rowError_12 (by decide) ?_
        refine lv_icmp_eq (tgt := 22) hx hb dX0_rowError_13 (by decide) (fun c2 => ?_) (fun c2 => ?_)
        · rw [if_pos c2] at h
          exact ih.2.1 L r1.2 r h H locs ls hP hD hS (lv_sub hl [1, 2, 3, 4] rfl)
        · rw [if_neg c2] at h
          refine lv_iload hx hb dX0_rowError_16 (lv_at hl 0 rfl) ?_
          refine lv_iconst (v := 5) hx hb dX0_rowError_18 (by decide) ?_
          refine lv_icmp_ne (tgt := 46) hx hb dX0_rowError_19 (by decide) (fun c3 => ?_) (fun c3 => ?_)
          · rw [if_neg c3] at h
            exact ih.2.2.1 L r1.2 r h H locs ls hP hD hS (lv_sub hl [] rfl)
          · rw [if_pos c3] at h
            exact ih.2.1 L r1.2 r h H locs ls hP hD hS (lv_sub hl [1, 2, 3, 4] rfl)
      · intro L σ r h H locs ls hP hD hS hl
        rw [y_X0_rowError] at h
        refine lv_aload_n hx hb dX0_rowError_22 rfl (lv_at hl 0 rfl) ?_
        refine hg_14_0 hx hb hts in_y_X0_rowError_X0 hown hK hP (hts _ (List.mem_cons_of_mem _ (List.mem_append_left _ (List.mem_append_left _ (List.mem_of_getElem? (i := 0) rfl))))) dX0_rowError_23 ?_
        refine lv_iload_n hx hb dX0_rowError_26 rfl (lv_at hl 2 rfl) ?_
        obtain ⟨r1, hc1, h⟩ := oc_ex h
        refine kc_i (va_runV (As := [.int (L.1 2)]) (rest := []) ⟨hx, hb, hml, hown, hts⟩ (c_y_X1_kind l dC dI cy a z k (lI lZ 1 ((L.1 2))) σ r1 hc1 H.size) (cwV 1 hts g_y_X0_rowError_X1_kind_V87 rfl rfl rfl hd_y_X1_kind ⟨Nat.le_of_ble_eq_true rfl, Nat.le_of_ble_eq_true rfl⟩) ⟨nb_blind, va_recv hK hP (ci := 1) (q0 := 0) rfl rfl, (kb_pre hK hG hP hD)⟩ rfl rfl hl.1 rfl (lv_room (Nat.le_of_ble_eq_true rfl)) dX0_rowError_27 ⟨Nat.le_refl _, Nat.le_refl _⟩) hA hP hD hS (fun H locs hP hD hS => ?_)
        refine lv_iconst (v := 2) hx hb dX0_rowError_30 (by decide) ?_
        refine lv_icmp_ne (tgt := 46) hx hb dX0_rowError_31 (by decide) (fun c2 => ?_) (fun c2 => ?_)
        · rw [if_neg c2] at h
          exact ih.2.2.1 L r1.2 r h H locs ls hP hD hS (lv_sub hl [] rfl)
        · rw [if_pos c2] at h
          refine lv_aload_n hx hb dX0_rowError_34 rfl (lv_at hl 0 rfl) ?_
          refine hg_14_0 hx hb hts in_y_X0_rowError_X0 hown hK hP (hts _ (List.mem_cons_of_mem _ (List.mem_append_left _ (List.mem_append_left _ (List.mem_of_getElem? (i := 0) rfl))))) dX0_rowError_35 ?_
          refine lv_iload_n hx hb dX0_rowError_38 rfl (lv_at hl 3 rfl) ?_
          obtain ⟨r3, hc3, h⟩ := oc_ex h
          refine kc_i (va_runV (As := [.int (L.1 3)]) (rest := []) ⟨hx, hb, hml, hown, hts⟩ (c_y_X1_kind l dC dI cy a z k (lI lZ 1 ((L.1 3))) r1.2 r3 hc3 H.size) (cwV 1 hts g_y_X0_rowError_X1_kind_V87 rfl rfl rfl hd_y_X1_kind ⟨Nat.le_of_ble_eq_true rfl, Nat.le_of_ble_eq_true rfl⟩) ⟨nb_blind, va_recv hK hP (ci := 1) (q0 := 0) rfl rfl, (kb_pre hK hG hP hD)⟩ rfl rfl hl.1 rfl (lv_room (Nat.le_of_ble_eq_true rfl)) dX0_rowError_39 ⟨Nat.le_refl _, Nat.le_refl _⟩) hA hP hD hS (fun H locs hP hD hS => ?_)
          refine lv_iconst (v := 2) hx hb dX0_rowError_42 (by decide) ?_
          refine lv_icmp_eq (tgt := 49) hx hb dX0_rowError_43 (by decide) (fun c4 => ?_) (fun c4 => ?_)
          · rw [if_pos c4] at h
            exact ih.2.2.2.1 L r3.2 r h H locs ls hP hD hS (lv_sub hl [0, 1, 2, 3] rfl)
          · rw [if_neg c4] at h
            exact ih.2.2.1 L r3.2 r h H locs ls hP hD hS (lv_sub hl [] rfl)
      · intro L σ r h H locs ls hP hD hS hl
        rw [y_X0_rowError] at h
        refine lv_ldc (v := (-268435455)) hx hb hown (hts _ (List.mem_cons_of_mem _ (List.mem_append_left _ (List.mem_append_left _ (List.mem_of_getElem? (i := 5) rfl))))) dX0_rowError_46 ?_
        obtain rfl := Option.some.inj h
        exact W.iret (v := (-268435455)) hx hb hr (fun t ht hW => ⟨⟨(-268435455), (), rfl, rfl, by rw [ht]; exact hP, va_K.moved hW.alike hK, hD⟩, hS.F ht⟩) hS.2.2 dX0_rowError_48
      · intro L σ r h H locs ls hP hD hS hl
        rw [y_X0_rowError] at h
        refine lv_aload_n hx hb dX0_rowError_49 rfl (lv_at hl 0 rfl) ?_
        refine hg_14_1 hx hb hts in_y_X0_rowError_X0 hown hK hP (hts _ (List.mem_cons_of_mem _ (List.mem_append_left _ (List.mem_append_left _ (List.mem_of_getElem? (i := 6) rfl))))) dX0_rowError_50 ?_
        refine lv_iload_n hx hb dX0_rowError_53 rfl (lv_at hl 2 rfl) ?_
        obtain ⟨r1, hc1, h⟩ := oc_ex h
        refine kc_i (va_runV (As := [.int (L.1 2)]) (rest := []) ⟨hx, hb, hml, hown, hts⟩ (c_y_X10_clamped l dC dI cy a z k (lI lZ 1 ((L.1 2))) σ r1 hc1 H.size) (cwV 1 hts g_y_X0_rowError_X10_clamped_V133 rfl rfl rfl hd_y_X10_clamped ⟨Nat.le_of_ble_eq_true rfl, Nat.le_of_ble_eq_true rfl⟩) ⟨nb_blind, va_recv hK hP (ci := 9) (q0 := 4) rfl rfl, (kb_pre hK hG hP hD)⟩ rfl rfl hl.1 rfl (lv_room (Nat.le_of_ble_eq_true rfl)) dX0_rowError_54 ⟨Nat.le_refl _, Nat.le_refl _⟩) hA hP hD hS (fun H locs hP hD hS => ?_)
        refine lv_istore (lv' := [(5, .int r1.1), (0, .ref (a 14)), (1, .int (L.1 1)), (2, .int (L.1 2)), (3, .int (L.1 3))]) hx hb dX0_rowError_57 hl (by decide) rfl (fun ls hl => ?_)
        refine lv_aload_n hx hb dX0_rowError_59 rfl (lv_at hl 1 rfl) ?_
        refine hg_14_1 hx hb hts in_y_X0_rowError_X0 hown hK hP (hts _ (List.mem_cons_of_mem _ (List.mem_append_left _ (List.mem_append_left _ (List.mem_of_getElem? (i := 6) rfl))))) dX0_rowError_60 ?_
        refine lv_iload_n hx hb dX0_rowError_63 rfl (lv_at hl 4 rfl) ?_
        obtain ⟨r2, hc2, h⟩ := oc_ex h
        refine kc_i (va_runV (As := [.int (L.1 3)]) (rest := []) ⟨hx, hb, hml, hown, hts⟩ (c_y_X10_clamped l dC dI cy a z k (lI lZ 1 ((L.1 3))) r1.2 r2 hc2 H.size) (cwV 1 hts g_y_X0_rowError_X10_clamped_V133 rfl rfl rfl hd_y_X10_clamped ⟨Nat.le_of_ble_eq_true rfl, Nat.le_of_ble_eq_true rfl⟩) ⟨nb_blind, va_recv hK hP (ci := 9) (q0 := 4) rfl rfl, (kb_pre hK hG hP hD)⟩ rfl rfl hl.1 rfl (lv_room (Nat.le_of_ble_eq_true rfl)) dX0_rowError_64 ⟨Nat.le_refl _, Nat.le_refl _⟩) hA hP hD hS (fun H locs hP hD hS => ?_)
        refine lv_istore (lv' := [(6, .int r2.1), (5, .int r1.1), (0, .ref (a 14)), (1, .int (L.1 1)), (2, .int (L.1 2)), (3, .int (L.1 3))]) hx hb dX0_rowError_67 hl (by decide) rfl (fun ls hl => ?_)
        refine lv_iload hx hb dX0_rowError_69 (lv_at hl 1 rfl) ?_
        refine lv_iconst (v := 1) hx hb dX0_rowError_71 (by decide) ?_
        refine lv_icmp_lt (tgt := 101) hx hb dX0_rowError_72 (by decide) (fun c3 => ?_) (fun c3 => ?_)
        · rw [if_pos c3] at h
          exact ih.2.2.2.2.1 L r2.2 r h H locs ls hP hD hS (lv_sub hl [] rfl)
        · rw [if_neg c3] at h
          refine lv_iload hx hb dX0_rowError_75 (lv_at hl 1 rfl) ?_
          refine lv_iconst (v := 1) hx hb dX0_rowError_77 (by decide) ?_
          refine lv_isub hx hb dX0_rowError_78 ?_
          refine lv_iload hx hb dX0_rowError_79 (lv_at hl 0 rfl) ?_
          refine lv_icmp_gt (tgt := 101) hx hb dX0_rowError_81 (by decide) (fun c4 => ?_) (fun c4 => ?_)
          · rw [if_pos c4] at h
            exact ih.2.2.2.2.1 L r2.2 r h H locs ls hP hD hS (lv_sub hl [] rfl)
          · rw [if_neg c4] at h
            refine lv_iload hx hb dX0_rowError_84 (lv_at hl 0 rfl) ?_
            refine lv_aload_n hx hb dX0_rowError_86 rfl (lv_at hl 2 rfl) ?_
            refine hg_14_0 hx hb hts in_y_X0_rowError_X0 hown hK hP (hts _ (List.mem_cons_of_mem _ (List.mem_append_left _ (List.mem_append_left _ (List.mem_of_getElem? (i := 0) rfl))))) dX0_rowError_87 ?_
            refine lv_iload_n hx hb dX0_rowError_90 rfl (lv_at hl 3 rfl) ?_
            obtain ⟨r5, hc5, h⟩ := oc_ex h
            refine kc_i (va_runV (As := [.int (L.1 1)]) (rest := [.int r2.1]) ⟨hx, hb, hml, hown, hts⟩ (c_y_X1_length l dC dI cy a z k (lI lZ 1 ((L.1 1))) r2.2 r5 hc5 H.size) (cwV 1 hts g_y_X0_rowError_X1_length_V100 rfl rfl rfl hd_y_X1_length ⟨Nat.le_of_ble_eq_true rfl, Nat.le_of_ble_eq_true rfl⟩) ⟨nb_blind, va_recv hK hP (ci := 1) (q0 := 0) rfl rfl, (kb_pre hK hG hP hD)⟩ rfl rfl hl.1 rfl (lv_room (Nat.le_of_ble_eq_true rfl)) dX0_rowError_91 ⟨Nat.le_refl _, Nat.le_refl _⟩) hA hP hD hS (fun H locs hP hD hS => ?_)
            refine lv_icmp_gt (tgt := 101) hx hb dX0_rowError_94 (by decide) (fun c6 => ?_) (fun c6 => ?_)
            · rw [if_pos c6] at h
              exact ih.2.2.2.2.1 L r5.2 r h H locs ls hP hD hS (lv_sub hl [] rfl)
            · rw [if_neg c6] at h
              refine lv_iconst (v := 0) hx hb dX0_rowError_97 (by decide) ?_
              refine lv_goto (tgt := 103) hx hb dX0_rowError_98 (by decide) ?_
              exact ih.2.2.2.2.2 (lI L 100 0) r5.2 r h H locs ls hP hD hS (lv_sub hl [] rfl)
      · intro L σ r h H locs ls hP hD hS hl
        rw [y_X0_rowError] at h
        refine lv_ldc (v := (-268435452)) hx hb hown (hts _ (List.mem_cons_of_mem _ (List.mem_append_left _ (List.mem_append_left _ (List.mem_of_getElem? (i := 14) rfl))))) dX0_rowError_101 ?_
        exact ih.2.2.2.2.2 (lI L 100 ((-268435452))) σ r h H locs ls hP hD hS (lv_sub hl [] rfl)
      · intro L σ r h H locs ls hP hD hS hl
        rw [y_X0_rowError] at h
        obtain rfl := Option.some.inj h
        exact W.iret (v := (L.1 100)) hx hb hr (fun t ht hW => ⟨⟨(L.1 100), (), rfl, rfl, by rw [ht]; exact hP, va_K.moved hW.alike hK, hD⟩, hS.F ht⟩) hS.2.2 dX0_rowError_103
  exact (blk k0).1 L0 σ0 r0 h0 s.heap [] ls hP hD hS hl
/-! X0_slice -/
def y_X0_slice : Nat → Nat → LV → CS → Option (Int32 × CS)
  | 0, _, _, _ => none
  | k + 1, 0, L, σ => oc (y_X0_rowError k 0 (lI (lI (lI lZ 1 ((L.1 1))) 2 ((L.1 2))) 3 ((L.1 3))) σ) (fun r1 => if r1.1 = 0 then (y_X0_slice k 1 L r1.2) else (some (r1.1, r1.2)))
  | k + 1, 1, L, σ => oc (y_X10_clamped k 0 (lI lZ 1 ((L.1 2))) σ) (fun r1 => oc (y_X10_clamped k 0 (lI lZ 1 ((L.1 3))) r1.2) (fun r2 => oc (y_X1_kind k 0 (lI lZ 1 ((L.1 1))) r2.2) (fun r3 => if r3.1 = 4 then (oc (y_X1_copyBytes__a15 k 0 (lI (lI (lI (lI lZ 1 ((L.1 1))) 2 ((r1.1 - 1))) 3 ((r2.1 - ((r1.1 - 1))))) 5 0) r3.2) (fun r5 => oc (y_X1_makeString__a15 k 0 (lI (lI lZ 2 0) 3 ((r2.1 - ((r1.1 - 1))))) r5.2) (fun r6 => some (r6.1, r6.2)))) else (y_X0_slice k 2 (lI (lI L 5 ((r1.1 - 1))) 6 ((r2.1 - ((r1.1 - 1))))) r3.2))))
  | k + 1, 2, L, σ => oc (y_X0_load k 0 (lI (lI (lI (lI lZ 1 ((L.1 1))) 2 ((L.1 5))) 3 ((((L.1 5)) + ((L.1 6))))) 4 0) σ) (fun r1 => oc (y_X1_makeTuple__a16 k 0 (lI (lI lZ 2 0) 3 ((L.1 6))) r1.2) (fun r2 => some (r2.1, r2.2)))
  | _ + 1, _ + 3, _, _ => none
def o_y_X0_slice : List Cond := [.methodLink RX0 273 yX0_rowError, .instanceMethod yX0_rowError, .selects RX0 yX0_rowError yX0_rowError, .initialized RX0, .fieldLink RX0 26 "SetHouse$Algebra" "wholes" "LSetHouse$Wholes;", .methodLink RX0 133 yX10_clamped, .instanceMethod yX10_clamped, .selects RX10 yX10_clamped yX10_clamped, .initialized RX10, .fieldLink RX0 22 "SetHouse$Algebra" "heap" "LSetHouse$Heap;", .methodLink RX0 87 yX1_kind, .instanceMethod yX1_kind, .selects RX1 yX1_kind yX1_kind, .initialized RX1, .fieldLink RX0 9 "SetHouse$Algebra" "bytes" "[B", .methodLink RX0 114 yX1_copyBytes, .instanceMethod yX1_copyBytes, .selects RX1 yX1_copyBytes yX1_copyBytes, .methodLink RX0 118 yX1_makeString, .instanceMethod yX1_makeString, .selects RX1 yX1_makeString yX1_makeString, .methodLink RX0 103 yX0_load, .instanceMethod yX0_load, .selects RX0 yX0_load yX0_load, .fieldLink RX0 15 "SetHouse$Algebra" "row" "[I", .methodLink RX0 107 yX1_makeTuple, .instanceMethod yX1_makeTuple, .selects RX1 yX1_makeTuple yX1_makeTuple]
theorem o_y_X0_slice_good : o_y_X0_slice.all goodWord = true := by decide +kernel
def p_y_X0_slice : List Cond := o_y_X0_slice ++ ((.code yX0_rowError cX0_rowError 7 (some .int) :: p_y_X0_rowError) ++ ((.code yX10_clamped cX10_clamped 2 (some .int) :: p_y_X10_clamped) ++ ((.code yX1_kind cX1_kind 2 (some .int) :: p_y_X1_kind) ++ ((.code yX1_copyBytes cX1_copyBytes 8 (some .int) :: p_y_X1_copyBytes__a15) ++ ((.code yX1_makeString cX1_makeString 9 (some .int) :: p_y_X1_makeString__a15) ++ ((.code yX0_load cX0_load 6 (some .int) :: p_y_X0_load) ++ ((.code yX1_makeTuple cX1_makeTuple 6 (some .int) :: p_y_X1_makeTuple__a16) ++ [])))))))
theorem p_y_X0_slice_good : p_y_X0_slice.all goodWord = true := nb_all2 o_y_X0_slice_good (nb_all2 (nb_allc (by decide +kernel) p_y_X0_rowError_good) (nb_all2 (nb_allc (by decide +kernel) p_y_X10_clamped_good) (nb_all2 (nb_allc (by decide +kernel) p_y_X1_kind_good) (nb_all2 (nb_allc (by decide +kernel) p_y_X1_copyBytes__a15_good) (nb_all2 (nb_allc (by decide +kernel) p_y_X1_makeString__a15_good) (nb_all2 (nb_allc (by decide +kernel) p_y_X0_load_good) (nb_all2 (nb_allc (by decide +kernel) p_y_X1_makeTuple__a16_good) rfl)))))))
def w_y_X0_slice : List Cond := .code yX0_slice cX0_slice 7 (some .int) :: (p_y_X0_slice ++ fC)
theorem w_y_X0_slice_good : w_y_X0_slice.all goodWord = true := nb_allc (by decide +kernel) (nb_all2 p_y_X0_slice_good fC_good)
theorem in_y_X0_slice_X0 : ∀ w ∈ wsX00, w ∈ w_y_X0_slice := fun _ h => List.mem_cons_of_mem _ (List.mem_append_right _ (List.mem_append_left _ h))
theorem hd_y_X0_slice : yX0_slice.cls = RX0 ∧ yX0_slice.cls ≠ "java/lang/invoke/MethodHandle" ∧ yX0_slice.cls ≠ "java/lang/invoke/VarHandle" ∧ (parseMethodDescriptor yX0_slice.desc).map (fun d => d.parameters.length) = some 3 := by decide +kernel
theorem gg_y_X0_slice_X0_load : GoodIn w_y_X0_slice w_y_X0_load := goodIn_sub (fun w h => (List.mem_cons.mp h).elim (fun e => (List.mem_cons_of_mem _ (List.mem_append_left _ (List.mem_append_right _ (List.mem_append_right _ (List.mem_append_right _ (List.mem_append_right _ (List.mem_append_right _ (List.mem_append_right _ (List.mem_append_left _ (List.mem_cons.mpr (Or.inl e)))))))))))) (fun h => (List.mem_append.mp h).elim (fun h => (List.mem_cons_of_mem _ (List.mem_append_left _ (List.mem_append_right _ (List.mem_append_right _ (List.mem_append_right _ (List.mem_append_right _ (List.mem_append_right _ (List.mem_append_right _ (List.mem_append_left _ (List.mem_cons_of_mem _ h))))))))))) (fun h => List.mem_cons_of_mem _ (List.mem_append_right _ h)))) w_y_X0_load_good
theorem g_y_X0_slice_X0_load_V103 : GoodIn w_y_X0_slice (wsV RX0 103 RX0 yX0_load w_y_X0_load) := goodIn_app (nb_g4 (List.mem_cons_of_mem _ (List.mem_append_left _ (List.mem_append_left _ (List.mem_of_getElem? (i := 21) rfl)))) (List.mem_cons_of_mem _ (List.mem_append_left _ (List.mem_append_left _ (List.mem_of_getElem? (i := 22) rfl)))) (List.mem_cons_of_mem _ (List.mem_append_left _ (List.mem_append_left _ (List.mem_of_getElem? (i := 23) rfl)))) (List.mem_cons_of_mem _ (List.mem_append_left _ (List.mem_append_left _ (List.mem_of_getElem? (i := 3) rfl)))) (by decide +kernel)) gg_y_X0_slice_X0_load
theorem gg_y_X0_slice_X0_rowError : GoodIn w_y_X0_slice w_y_X0_rowError := goodIn_sub (fun w h => (List.mem_cons.mp h).elim (fun e => (List.mem_cons_of_mem _ (List.mem_append_left _ (List.mem_append_right _ (List.mem_append_left _ (List.mem_cons.mpr (Or.inl e))))))) (fun h => (List.mem_append.mp h).elim (fun h => (List.mem_cons_of_mem _ (List.mem_append_left _ (List.mem_append_right _ (List.mem_append_left _ (List.mem_cons_of_mem _ h)))))) (fun h => List.mem_cons_of_mem _ (List.mem_append_right _ h)))) w_y_X0_rowError_good
theorem g_y_X0_slice_X0_rowError_V273 : GoodIn w_y_X0_slice (wsV RX0 273 RX0 yX0_rowError w_y_X0_rowError) := goodIn_app (nb_g4 (List.mem_cons_of_mem _ (List.mem_append_left _ (List.mem_append_left _ (List.mem_of_getElem? (i := 0) rfl)))) (List.mem_cons_of_mem _ (List.mem_append_left _ (List.mem_append_left _ (List.mem_of_getElem? (i := 1) rfl)))) (List.mem_cons_of_mem _ (List.mem_append_left _ (List.mem_append_left _ (List.mem_of_getElem? (i := 2) rfl)))) (List.mem_cons_of_mem _ (List.mem_append_left _ (List.mem_append_left _ (List.mem_of_getElem? (i := 3) rfl)))) (by decide +kernel)) gg_y_X0_slice_X0_rowError
theorem gg_y_X0_slice_X10_clamped : GoodIn w_y_X0_slice w_y_X10_clamped := goodIn_sub (fun w h => (List.mem_cons.mp h).elim (fun e => (List.mem_cons_of_mem _ (List.mem_append_left _ (List.mem_append_right _ (List.mem_append_right _ (List.mem_append_left _ (List.mem_cons.mpr (Or.inl e)))))))) (fun h => (List.mem_append.mp h).elim (fun h => (List.mem_cons_of_mem _ (List.mem_append_left _ (List.mem_append_right _ (List.mem_append_right _ (List.mem_append_left _ (List.mem_cons_of_mem _ h))))))) (fun h => List.mem_cons_of_mem _ (List.mem_append_right _ h)))) w_y_X10_clamped_good
theorem g_y_X0_slice_X10_clamped_V133 : GoodIn w_y_X0_slice (wsV RX0 133 RX10 yX10_clamped w_y_X10_clamped) := goodIn_app (nb_g4 (List.mem_cons_of_mem _ (List.mem_append_left _ (List.mem_append_left _ (List.mem_of_getElem? (i := 5) rfl)))) (List.mem_cons_of_mem _ (List.mem_append_left _ (List.mem_append_left _ (List.mem_of_getElem? (i := 6) rfl)))) (List.mem_cons_of_mem _ (List.mem_append_left _ (List.mem_append_left _ (List.mem_of_getElem? (i := 7) rfl)))) (List.mem_cons_of_mem _ (List.mem_append_left _ (List.mem_append_left _ (List.mem_of_getElem? (i := 8) rfl)))) (by decide +kernel)) gg_y_X0_slice_X10_clamped
theorem gg_y_X0_slice_X1_copyBytes__a15 : GoodIn w_y_X0_slice w_y_X1_copyBytes__a15 := goodIn_sub (fun w h => (List.mem_cons.mp h).elim (fun e => (List.mem_cons_of_mem _ (List.mem_append_left _ (List.mem_append_right _ (List.mem_append_right _ (List.mem_append_right _ (List.mem_append_right _ (List.mem_append_left _ (List.mem_cons.mpr (Or.inl e)))))))))) (fun h => (List.mem_append.mp h).elim (fun h => (List.mem_cons_of_mem _ (List.mem_append_left _ (List.mem_append_right _ (List.mem_append_right _ (List.mem_append_right _ (List.mem_append_right _ (List.mem_append_left _ (List.mem_cons_of_mem _ h))))))))) (fun h => List.mem_cons_of_mem _ (List.mem_append_right _ h)))) w_y_X1_copyBytes__a15_good
theorem g_y_X0_slice_X1_copyBytes__a15_V114 : GoodIn w_y_X0_slice (wsV RX0 114 RX1 yX1_copyBytes w_y_X1_copyBytes__a15) := goodIn_app (nb_g4 (List.mem_cons_of_mem _ (List.mem_append_left _ (List.mem_append_left _ (List.mem_of_getElem? (i := 15) rfl)))) (List.mem_cons_of_mem _ (List.mem_append_left _ (List.mem_append_left _ (List.mem_of_getElem? (i := 16) rfl)))) (List.mem_cons_of_mem _ (List.mem_append_left _ (List.mem_append_left _ (List.mem_of_getElem? (i := 17) rfl)))) (List.mem_cons_of_mem _ (List.mem_append_left _ (List.mem_append_left _ (List.mem_of_getElem? (i := 13) rfl)))) (by decide +kernel)) gg_y_X0_slice_X1_copyBytes__a15
theorem gg_y_X0_slice_X1_kind : GoodIn w_y_X0_slice w_y_X1_kind := goodIn_sub (fun w h => (List.mem_cons.mp h).elim (fun e => (List.mem_cons_of_mem _ (List.mem_append_left _ (List.mem_append_right _ (List.mem_append_right _ (List.mem_append_right _ (List.mem_append_left _ (List.mem_cons.mpr (Or.inl e))))))))) (fun h => (List.mem_append.mp h).elim (fun h => (List.mem_cons_of_mem _ (List.mem_append_left _ (List.mem_append_right _ (List.mem_append_right _ (List.mem_append_right _ (List.mem_append_left _ (List.mem_cons_of_mem _ h)))))))) (fun h => List.mem_cons_of_mem _ (List.mem_append_right _ h)))) w_y_X1_kind_good
theorem g_y_X0_slice_X1_kind_V87 : GoodIn w_y_X0_slice (wsV RX0 87 RX1 yX1_kind w_y_X1_kind) := goodIn_app (nb_g4 (List.mem_cons_of_mem _ (List.mem_append_left _ (List.mem_append_left _ (List.mem_of_getElem? (i := 10) rfl)))) (List.mem_cons_of_mem _ (List.mem_append_left _ (List.mem_append_left _ (List.mem_of_getElem? (i := 11) rfl)))) (List.mem_cons_of_mem _ (List.mem_append_left _ (List.mem_append_left _ (List.mem_of_getElem? (i := 12) rfl)))) (List.mem_cons_of_mem _ (List.mem_append_left _ (List.mem_append_left _ (List.mem_of_getElem? (i := 13) rfl)))) (by decide +kernel)) gg_y_X0_slice_X1_kind
theorem gg_y_X0_slice_X1_makeString__a15 : GoodIn w_y_X0_slice w_y_X1_makeString__a15 := goodIn_sub (fun w h => (List.mem_cons.mp h).elim (fun e => (List.mem_cons_of_mem _ (List.mem_append_left _ (List.mem_append_right _ (List.mem_append_right _ (List.mem_append_right _ (List.mem_append_right _ (List.mem_append_right _ (List.mem_append_left _ (List.mem_cons.mpr (Or.inl e))))))))))) (fun h => (List.mem_append.mp h).elim (fun h => (List.mem_cons_of_mem _ (List.mem_append_left _ (List.mem_append_right _ (List.mem_append_right _ (List.mem_append_right _ (List.mem_append_right _ (List.mem_append_right _ (List.mem_append_left _ (List.mem_cons_of_mem _ h)))))))))) (fun h => List.mem_cons_of_mem _ (List.mem_append_right _ h)))) w_y_X1_makeString__a15_good
theorem g_y_X0_slice_X1_makeString__a15_V118 : GoodIn w_y_X0_slice (wsV RX0 118 RX1 yX1_makeString w_y_X1_makeString__a15) := goodIn_app (nb_g4 (List.mem_cons_of_mem _ (List.mem_append_left _ (List.mem_append_left _ (List.mem_of_getElem? (i := 18) rfl)))) (List.mem_cons_of_mem _ (List.mem_append_left _ (List.mem_append_left _ (List.mem_of_getElem? (i := 19) rfl)))) (List.mem_cons_of_mem _ (List.mem_append_left _ (List.mem_append_left _ (List.mem_of_getElem? (i := 20) rfl)))) (List.mem_cons_of_mem _ (List.mem_append_left _ (List.mem_append_left _ (List.mem_of_getElem? (i := 13) rfl)))) (by decide +kernel)) gg_y_X0_slice_X1_makeString__a15
theorem gg_y_X0_slice_X1_makeTuple__a16 : GoodIn w_y_X0_slice w_y_X1_makeTuple__a16 := goodIn_sub (fun w h => (List.mem_cons.mp h).elim (fun e => (List.mem_cons_of_mem _ (List.mem_append_left _ (List.mem_append_right _ (List.mem_append_right _ (List.mem_append_right _ (List.mem_append_right _ (List.mem_append_right _ (List.mem_append_right _ (List.mem_append_right _ (List.mem_append_left _ (List.mem_cons.mpr (Or.inl e))))))))))))) (fun h => (List.mem_append.mp h).elim (fun h => (List.mem_cons_of_mem _ (List.mem_append_left _ (List.mem_append_right _ (List.mem_append_right _ (List.mem_append_right _ (List.mem_append_right _ (List.mem_append_right _ (List.mem_append_right _ (List.mem_append_right _ (List.mem_append_left _ (List.mem_cons_of_mem _ h)))))))))))) (fun h => List.mem_cons_of_mem _ (List.mem_append_right _ h)))) w_y_X1_makeTuple__a16_good
theorem g_y_X0_slice_X1_makeTuple__a16_V107 : GoodIn w_y_X0_slice (wsV RX0 107 RX1 yX1_makeTuple w_y_X1_makeTuple__a16) := goodIn_app (nb_g4 (List.mem_cons_of_mem _ (List.mem_append_left _ (List.mem_append_left _ (List.mem_of_getElem? (i := 25) rfl)))) (List.mem_cons_of_mem _ (List.mem_append_left _ (List.mem_append_left _ (List.mem_of_getElem? (i := 26) rfl)))) (List.mem_cons_of_mem _ (List.mem_append_left _ (List.mem_append_left _ (List.mem_of_getElem? (i := 27) rfl)))) (List.mem_cons_of_mem _ (List.mem_append_left _ (List.mem_append_left _ (List.mem_of_getElem? (i := 13) rfl)))) (by decide +kernel)) gg_y_X0_slice_X1_makeTuple__a16
set_option maxHeartbeats 40000000 in
set_option maxRecDepth 100000 in
theorem c_y_X0_slice (l : Launch) (dC : Nat → ClassId) (dI : Nat → Nat → Nat) (cy : Nat → ClassId) (a z : Nat → Nat) (k0 : Nat) (L0 : LV) (σ0 : CS) (r0 : Int32 × CS) (h0 : y_X0_slice k0 0 L0 σ0 = some r0) (sz : Nat) : Met l yX0_slice w_y_X0_slice ({ frames := 3, cells := 0, slots := 0, locals := 115 }) (va_Pc [.ref (a 14), .int (L0.1 1), .int (L0.1 2), .int (L0.1 3)] (nIn (dC, dI) cy sz (vC cy a z σ0))) (va_Qi (fun (x : Int32) (_ : Unit) => x = r0.1) (fun _ t => nOut (dC, dI) cy (va_A (vC cy a z σ0) sz) (vC cy a z r0.2) t) (va_A (vC cy a z σ0) sz)) 0 0 (va_A (vC cy a z σ0) sz) := by
  refine Met.ofW (cc := cX0_slice) (maxL := 7) (ret := (some .int)) (by decide) rfl ?_
  intro p e s m args below meth c s₁ B hml hv
  obtain ⟨rfl, hsz, hP, hK, hD0, hG⟩ := hv
  have hx := B.exec
  have hb := B.bytes
  have hr := B.returns
  have hts := atoms_spec (ws := w_y_X0_slice) B.pre
  have hown : s.vm.findClass RX0 = some m.cls := findClass_of_methodNamed B.named
  have hlocks := B.notSynchronized
  subst hsz
  have hD := hD0.self (sz := s.heap.size)
  generalize hAe : va_A (vC cy a z σ0) s.heap.size = A at hD ⊢
  have hA : ∀ q : Nat, s.heap.size ≤ q → A q := fun q h => by rw [← hAe]; exact Or.inr h
  have hS : va_S A s.heap s.heap [] := va_S.rf
  have hl := lv_entry ([.ref (a 14), .int (L0.1 1), .int (L0.1 2), .int (L0.1 3)]) (n := 7) (Nat.le_of_ble_eq_true rfl)
  rw [lg_entry_eq]
  generalize (lg_sl ([.ref (a 14), .int (L0.1 1), .int (L0.1 2), .int (L0.1 3)]) ++ List.replicate (7 - (lg_sl ([.ref (a 14), .int (L0.1 1), .int (L0.1 2), .int (L0.1 3)])).length) Slot.unset).toArray = ls at hl ⊢
  have hl : lv_has ls 7 [(0, .ref (a 14)), (1, .int (L0.1 1)), (2, .int (L0.1 2)), (3, .int (L0.1 3))] := hl
  have blk : ∀ k : Nat, (bC p l e (headSpec w_y_X0_slice ({ frames := 3, cells := 0, slots := 0, locals := 115 })).room s m #[.ref (a 14), .int (L0.1 1), .int (L0.1 2), .int (L0.1 3)] below meth c dC dI cy a z A (kI dC dI cy a z A below #[.ref (a 14), .int (L0.1 1), .int (L0.1 2), .int (L0.1 3)] s) 7 (y_X0_slice k 0) (fun L => [(0, .ref (a 14)), (1, .int (L.1 1)), (2, .int (L.1 2)), (3, .int (L.1 3))]) 0 (fun L => [])) ∧ (bC p l e (headSpec w_y_X0_slice ({ frames := 3, cells := 0, slots := 0, locals := 115 })).room s m #[.ref (a 14), .int (L0.1 1), .int (L0.1 2), .int (L0.1 3)] below meth c dC dI cy a z A (kI dC dI cy a z A below #[.ref (a 14), .int (L0.1 1), .int (L0.1 2), .int (L0.1 3)] s) 7 (y_X0_slice k 1) (fun L => [(0, .ref (a 14)), (1, .int (L.1 1)), (2, .int (L.1 2)), (3, .int (L.1 3))]) 17 (fun L => [])) ∧ (bC p l e (headSpec w_y_X0_slice ({ frames := 3, cells := 0, slots := 0, locals := 115 })).room s m #[.ref (a 14), .int (L0.1 1), .int (L0.1 2), .int (L0.1 3)] below meth c dC dI cy a z A (kI dC dI cy a z A below #[.ref (a 14), .int (L0.1 1), .int (L0.1 2), .int (L0.1 3)] s) 7 (y_X0_slice k 2) (fun L => [(0, .ref (a 14)), (1, .int (L.1 1)), (5, .int (L.1 5)), (6, .int (L.1 6))]) 87 (fun L => [])) := by
    intro k
    induction k with
    | zero => exact ⟨fun L σ r h => (by cases h), fun L σ r h => (by cases h), fun L σ r h => (by cases h)⟩
    | succ k ih =>
      refine ⟨?_, ?_, ?_⟩
      · intro L σ r h H locs ls hP hD hS hl
        rw [y_X0_slice] at h
        refine lv_aload_n hx hb dX0_slice_0 rfl (lv_at hl 0 rfl) ?_
        refine lv_iload_n hx hb dX0_slice_1 rfl (lv_at hl 1 rfl) ?_
        refine lv_iload_n hx hb dX0_slice_2 rfl (lv_at hl 2 rfl) ?_
        refine lv_iload_n hx hb dX0_slice_3 rfl (lv_at hl 3 rfl) ?_
        obtain ⟨r1, hc1, h⟩ := oc_ex h
        refine kc_i (va_runV (As := [.int (L.1 1), .int (L.1 2), .int (L.1 3)]) (rest := []) ⟨hx, hb, hml, hown, hts⟩ (c_y_X0_rowError l dC dI cy a z k (lI (lI (lI lZ 1 ((L.1 1))) 2 ((L.1 2))) 3 ((L.1 3))) σ r1 hc1 H.size) (cwV 3 hts g_y_X0_slice_X0_rowError_V273 rfl rfl rfl hd_y_X0_rowError ⟨Nat.le_of_ble_eq_true rfl, Nat.le_of_ble_eq_true rfl⟩) ⟨nb_blind, va_recv hK hP (ci := 0) (q0 := 14) rfl rfl, (kb_pre hK hG hP hD)⟩ rfl rfl hl.1 rfl (lv_room (Nat.le_of_ble_eq_true rfl)) dX0_slice_4 ⟨Nat.le_refl _, Nat.le_refl _⟩) hA hP hD hS (fun H locs hP hD hS => ?_)
        refine lv_istore (lv' := [(4, .int r1.1), (0, .ref (a 14)), (1, .int (L.1 1)), (2, .int (L.1 2)), (3, .int (L.1 3))]) hx hb dX0_slice_7 hl (by decide) rfl (fun ls hl => ?_)
        refine lv_iload hx hb dX0_slice_9 (lv_at hl 0 rfl) ?_
        refine lv_if_eq (tgt := 17) hx hb dX0_slice_11 (by decide) (fun c2 => ?_) (fun c2 => ?_)
        · rw [if_pos c2] at h
          exact ih.2.1 L r1.2 r h H locs ls hP hD hS (lv_sub hl [1, 2, 3, 4] rfl)
        · rw [if_neg c2] at h
          refine lv_iload hx hb dX0_slice_14 (lv_at hl 0 rfl) ?_
          obtain rfl := Option.some.inj h
          exact W.iret (v := r1.1) hx hb hr (fun t ht hW => ⟨⟨r1.1, (), rfl, rfl, by rw [ht]; exact hP, va_K.moved hW.alike hK, hD⟩, hS.F ht⟩) hS.2.2 dX0_slice_16
      · intro L σ r h H locs ls hP hD hS hl
        rw [y_X0_slice] at h
        refine lv_aload_n hx hb dX0_slice_17 rfl (lv_at hl 0 rfl) ?_
        refine hg_14_1 hx hb hts in_y_X0_slice_X0 hown hK hP (hts _ (List.mem_cons_of_mem _ (List.mem_append_left _ (List.mem_append_left _ (List.mem_of_getElem? (i := 4) rfl))))) dX0_slice_18 ?_
        refine lv_iload_n hx hb dX0_slice_21 rfl (lv_at hl 2 rfl) ?_
        obtain ⟨r1, hc1, h⟩ := oc_ex h
        refine kc_i (va_runV (As := [.int (L.1 2)]) (rest := []) ⟨hx, hb, hml, hown, hts⟩ (c_y_X10_clamped l dC dI cy a z k (lI lZ 1 ((L.1 2))) σ r1 hc1 H.size) (cwV 1 hts g_y_X0_slice_X10_clamped_V133 rfl rfl rfl hd_y_X10_clamped ⟨Nat.le_of_ble_eq_true rfl, Nat.le_of_ble_eq_true rfl⟩) ⟨nb_blind, va_recv hK hP (ci := 9) (q0 := 4) rfl rfl, (kb_pre hK hG hP hD)⟩ rfl rfl hl.1 rfl (lv_room (Nat.le_of_ble_eq_true rfl)) dX0_slice_22 ⟨Nat.le_refl _, Nat.le_refl _⟩) hA hP hD hS (fun H locs hP hD hS => ?_)
        refine lv_iconst (v := 1) hx hb dX0_slice_25 (by decide) ?_
        refine lv_isub hx hb dX0_slice_26 ?_
        refine lv_istore (lv' := [(5, .int (r1.1 - 1)), (0, .ref (a 14)), (1, .int (L.1 1)), (2, .int (L.1 2)), (3, .int (L.1 3))]) hx hb dX0_slice_27 hl (by decide) rfl (fun ls hl => ?_)
        refine lv_aload_n hx hb dX0_slice_29 rfl (lv_at hl 1 rfl) ?_
        refine hg_14_1 hx hb hts in_y_X0_slice_X0 hown hK hP (hts _ (List.mem_cons_of_mem _ (List.mem_append_left _ (List.mem_append_left _ (List.mem_of_getElem? (i := 4) rfl))))) dX0_slice_30 ?_
        refine lv_iload_n hx hb dX0_slice_33 rfl (lv_at hl 4 rfl) ?_
        obtain ⟨r2, hc2, h⟩ := oc_ex h
        refine kc_i (va_runV (As := [.int (L.1 3)]) (rest := []) ⟨hx, hb, hml, hown, hts⟩ (c_y_X10_clamped l dC dI cy a z k (lI lZ 1 ((L.1 3))) r1.2 r2 hc2 H.size) (cwV 1 hts g_y_X0_slice_X10_clamped_V133 rfl rfl rfl hd_y_X10_clamped ⟨Nat.le_of_ble_eq_true rfl, Nat.le_of_ble_eq_true rfl⟩) ⟨nb_blind, va_recv hK hP (ci := 9) (q0 := 4) rfl rfl, (kb_pre hK hG hP hD)⟩ rfl rfl hl.1 rfl (lv_room (Nat.le_of_ble_eq_true rfl)) dX0_slice_34 ⟨Nat.le_refl _, Nat.le_refl _⟩) hA hP hD hS (fun H locs hP hD hS => ?_)
        refine lv_iload hx hb dX0_slice_37 (lv_at hl 0 rfl) ?_
        refine lv_isub hx hb dX0_slice_39 ?_
        refine lv_istore (lv' := [(6, .int (r2.1 - ((r1.1 - 1)))), (5, .int (r1.1 - 1)), (0, .ref (a 14)), (1, .int (L.1 1)), (2, .int (L.1 2)), (3, .int (L.1 3))]) hx hb dX0_slice_40 hl (by decide) rfl (fun ls hl => ?_)
        refine lv_aload_n hx hb dX0_slice_42 rfl (lv_at hl 2 rfl) ?_
        refine hg_14_0 hx hb hts in_y_X0_slice_X0 hown hK hP (hts _ (List.mem_cons_of_mem _ (List.mem_append_left _ (List.mem_append_left _ (List.mem_of_getElem? (i := 9) rfl))))) dX0_slice_43 ?_
        refine lv_iload_n hx hb dX0_slice_46 rfl (lv_at hl 3 rfl) ?_
        obtain ⟨r3, hc3, h⟩ := oc_ex h
        refine kc_i (va_runV (As := [.int (L.1 1)]) (rest := []) ⟨hx, hb, hml, hown, hts⟩ (c_y_X1_kind l dC dI cy a z k (lI lZ 1 ((L.1 1))) r2.2 r3 hc3 H.size) (cwV 1 hts g_y_X0_slice_X1_kind_V87 rfl rfl rfl hd_y_X1_kind ⟨Nat.le_of_ble_eq_true rfl, Nat.le_of_ble_eq_true rfl⟩) ⟨nb_blind, va_recv hK hP (ci := 1) (q0 := 0) rfl rfl, (kb_pre hK hG hP hD)⟩ rfl rfl hl.1 rfl (lv_room (Nat.le_of_ble_eq_true rfl)) dX0_slice_47 ⟨Nat.le_refl _, Nat.le_refl _⟩) hA hP hD hS (fun H locs hP hD hS => ?_)
        refine lv_iconst (v := 4) hx hb dX0_slice_50 (by decide) ?_
        refine lv_icmp_ne (tgt := 87) hx hb dX0_slice_51 (by decide) (fun c4 => ?_) (fun c4 => ?_)
        · rw [if_neg c4] at h
          exact ih.2.2 (lI (lI L 5 ((r1.1 - 1))) 6 ((r2.1 - ((r1.1 - 1))))) r3.2 r h H locs ls hP hD hS (lv_sub hl [2, 3, 1, 0] rfl)
        · rw [if_pos c4] at h
          refine lv_aload_n hx hb dX0_slice_54 rfl (lv_at hl 2 rfl) ?_
          refine hg_14_0 hx hb hts in_y_X0_slice_X0 hown hK hP (hts _ (List.mem_cons_of_mem _ (List.mem_append_left _ (List.mem_append_left _ (List.mem_of_getElem? (i := 9) rfl))))) dX0_slice_55 ?_
          refine lv_iload_n hx hb dX0_slice_58 rfl (lv_at hl 3 rfl) ?_
          refine lv_iload hx hb dX0_slice_59 (lv_at hl 1 rfl) ?_
          refine lv_iload hx hb dX0_slice_61 (lv_at hl 0 rfl) ?_
          refine lv_aload_n hx hb dX0_slice_63 rfl (lv_at hl 2 rfl) ?_
          refine hg_14_3 hx hb hts in_y_X0_slice_X0 hown hK hP (hts _ (List.mem_cons_of_mem _ (List.mem_append_left _ (List.mem_append_left _ (List.mem_of_getElem? (i := 14) rfl))))) dX0_slice_64 ?_
          refine lv_iconst (v := 0) hx hb dX0_slice_67 (by decide) ?_
          obtain ⟨r5, hc5, h⟩ := oc_ex h
          refine kc_i (va_runV (As := [.int (L.1 1), .int (r1.1 - 1), .int (r2.1 - ((r1.1 - 1))), .ref (a 15), .int 0]) (rest := []) ⟨hx, hb, hml, hown, hts⟩ (c_y_X1_copyBytes__a15 l dC dI cy a z k (lI (lI (lI (lI lZ 1 ((L.1 1))) 2 ((r1.1 - 1))) 3 ((r2.1 - ((r1.1 - 1))))) 5 0) r3.2 r5 hc5 H.size) (cwV 5 hts g_y_X0_slice_X1_copyBytes__a15_V114 rfl rfl rfl hd_y_X1_copyBytes__a15 ⟨Nat.le_of_ble_eq_true rfl, Nat.le_of_ble_eq_true rfl⟩) ⟨nb_blind, va_recv hK hP (ci := 1) (q0 := 0) rfl rfl, (kb_pre hK hG hP hD)⟩ rfl rfl hl.1 rfl (lv_room (Nat.le_of_ble_eq_true rfl)) dX0_slice_68 ⟨Nat.le_refl _, Nat.le_refl _⟩) hA hP hD hS (fun H locs hP hD hS => ?_)
          refine lv_pop hx hb dX0_slice_71 rfl ?_
          refine lv_aload_n hx hb dX0_slice_72 rfl (lv_at hl 2 rfl) ?_
          refine hg_14_0 hx hb hts in_y_X0_slice_X0 hown hK hP (hts _ (List.mem_cons_of_mem _ (List.mem_append_left _ (List.mem_append_left _ (List.mem_of_getElem? (i := 9) rfl))))) dX0_slice_73 ?_
          refine lv_aload_n hx hb dX0_slice_76 rfl (lv_at hl 2 rfl) ?_
          refine hg_14_3 hx hb hts in_y_X0_slice_X0 hown hK hP (hts _ (List.mem_cons_of_mem _ (List.mem_append_left _ (List.mem_append_left _ (List.mem_of_getElem? (i := 14) rfl))))) dX0_slice_77 ?_
          refine lv_iconst (v := 0) hx hb dX0_slice_80 (by decide) ?_
          refine lv_iload hx hb dX0_slice_81 (lv_at hl 0 rfl) ?_
          obtain ⟨r6, hc6, h⟩ := oc_ex h
          refine kc_i (va_runV (As := [.ref (a 15), .int 0, .int (r2.1 - ((r1.1 - 1)))]) (rest := []) ⟨hx, hb, hml, hown, hts⟩ (c_y_X1_makeString__a15 l dC dI cy a z k (lI (lI lZ 2 0) 3 ((r2.1 - ((r1.1 - 1))))) r5.2 r6 hc6 H.size) (cwV 3 hts g_y_X0_slice_X1_makeString__a15_V118 rfl rfl rfl hd_y_X1_makeString__a15 ⟨Nat.le_of_ble_eq_true rfl, Nat.le_of_ble_eq_true rfl⟩) ⟨nb_blind, va_recv hK hP (ci := 1) (q0 := 0) rfl rfl, (kb_pre hK hG hP hD)⟩ rfl rfl hl.1 rfl (lv_room (Nat.le_of_ble_eq_true rfl)) dX0_slice_83 ⟨Nat.le_refl _, Nat.le_refl _⟩) hA hP hD hS (fun H locs hP hD hS => ?_)
          obtain rfl := Option.some.inj h
          exact W.iret (v := r6.1) hx hb hr (fun t ht hW => ⟨⟨r6.1, (), rfl, rfl, by rw [ht]; exact hP, va_K.moved hW.alike hK, hD⟩, hS.F ht⟩) hS.2.2 dX0_slice_86
      · intro L σ r h H locs ls hP hD hS hl
        rw [y_X0_slice] at h
        refine lv_aload_n hx hb dX0_slice_87 rfl (lv_at hl 0 rfl) ?_
        refine lv_iload_n hx hb dX0_slice_88 rfl (lv_at hl 1 rfl) ?_
        refine lv_iload hx hb dX0_slice_89 (lv_at hl 2 rfl) ?_
        refine lv_iload hx hb dX0_slice_91 (lv_at hl 2 rfl) ?_
        refine lv_iload hx hb dX0_slice_93 (lv_at hl 3 rfl) ?_
        refine lv_iadd hx hb dX0_slice_95 ?_
        refine lv_iconst (v := 0) hx hb dX0_slice_96 (by decide) ?_
        obtain ⟨r1, hc1, h⟩ := oc_ex h
        refine kc_i (va_runV (As := [.int (L.1 1), .int (L.1 5), .int (((L.1 5)) + ((L.1 6))), .int 0]) (rest := []) ⟨hx, hb, hml, hown, hts⟩ (c_y_X0_load l dC dI cy a z k (lI (lI (lI (lI lZ 1 ((L.1 1))) 2 ((L.1 5))) 3 ((((L.1 5)) + ((L.1 6))))) 4 0) σ r1 hc1 H.size) (cwV 4 hts g_y_X0_slice_X0_load_V103 rfl rfl rfl hd_y_X0_load ⟨Nat.le_of_ble_eq_true rfl, Nat.le_of_ble_eq_true rfl⟩) ⟨nb_blind, va_recv hK hP (ci := 0) (q0 := 14) rfl rfl, (kb_pre hK hG hP hD)⟩ rfl rfl hl.1 rfl (lv_room (Nat.le_of_ble_eq_true rfl)) dX0_slice_97 ⟨Nat.le_refl _, Nat.le_refl _⟩) hA hP hD hS (fun H locs hP hD hS => ?_)
        refine lv_pop hx hb dX0_slice_100 rfl ?_
        refine lv_aload_n hx hb dX0_slice_101 rfl (lv_at hl 0 rfl) ?_
        refine hg_14_0 hx hb hts in_y_X0_slice_X0 hown hK hP (hts _ (List.mem_cons_of_mem _ (List.mem_append_left _ (List.mem_append_left _ (List.mem_of_getElem? (i := 9) rfl))))) dX0_slice_102 ?_
        refine lv_aload_n hx hb dX0_slice_105 rfl (lv_at hl 0 rfl) ?_
        refine hg_14_4 hx hb hts in_y_X0_slice_X0 hown hK hP (hts _ (List.mem_cons_of_mem _ (List.mem_append_left _ (List.mem_append_left _ (List.mem_of_getElem? (i := 24) rfl))))) dX0_slice_106 ?_
        refine lv_iconst (v := 0) hx hb dX0_slice_109 (by decide) ?_
        refine lv_iload hx hb dX0_slice_110 (lv_at hl 3 rfl) ?_
        obtain ⟨r2, hc2, h⟩ := oc_ex h
        refine kc_i (va_runV (As := [.ref (a 16), .int 0, .int (L.1 6)]) (rest := []) ⟨hx, hb, hml, hown, hts⟩ (c_y_X1_makeTuple__a16 l dC dI cy a z k (lI (lI lZ 2 0) 3 ((L.1 6))) r1.2 r2 hc2 H.size) (cwV 3 hts g_y_X0_slice_X1_makeTuple__a16_V107 rfl rfl rfl hd_y_X1_makeTuple__a16 ⟨Nat.le_of_ble_eq_true rfl, Nat.le_of_ble_eq_true rfl⟩) ⟨nb_blind, va_recv hK hP (ci := 1) (q0 := 0) rfl rfl, (kb_pre hK hG hP hD)⟩ rfl rfl hl.1 rfl (lv_room (Nat.le_of_ble_eq_true rfl)) dX0_slice_112 ⟨Nat.le_refl _, Nat.le_refl _⟩) hA hP hD hS (fun H locs hP hD hS => ?_)
        obtain rfl := Option.some.inj h
        exact W.iret (v := r2.1) hx hb hr (fun t ht hW => ⟨⟨r2.1, (), rfl, rfl, by rw [ht]; exact hP, va_K.moved hW.alike hK, hD⟩, hS.F ht⟩) hS.2.2 dX0_slice_115
  exact (blk k0).1 L0 σ0 r0 h0 s.heap [] ls hP hD hS hl
/-! X0_images -/
def y_X0_images : Nat → Nat → LV → CS → Option (Int32 × CS)
  | 0, _, _, _ => none
  | k + 1, 0, L, σ => oc (y_X0_pairsFrom k 0 (lI (lI lZ 1 ((L.1 1))) 2 ((L.1 2))) σ) (fun r1 => oc (y_X0_pairsTo k 0 (lI (lI (lI lZ 1 ((L.1 1))) 2 r1.1) 3 ((L.1 2))) r1.2) (fun r2 => y_X0_images k 1 (lI (lI (lI L 4 r2.1) 5 0) 6 r1.1) r2.2))
  | k + 1, 1, L, σ => if ((L.1 4)) ≤ ((L.1 6)) then (y_X0_images k 2 L σ) else (if ((Int32.ofNat 2048)) ≤ ((L.1 5)) then (y_X0_images k 2 L σ) else (oc (y_X1_member k 0 (lI (lI lZ 1 ((L.1 1))) 2 ((L.1 6))) σ) (fun r3 => oc (y_X1_member k 0 (lI (lI lZ 1 r3.1) 2 1) r3.2) (fun r4 => if ¬ (((L.1 5)) < 0 ∨ 2048 ≤ ((L.1 5)).toNatClampNeg) then (y_X0_images k 1 (lI (lI L 5 ((((L.1 5)) + 1))) 6 ((((L.1 6)) + 1))) (uA r4.2 16 ((L.1 5)).toNatClampNeg r4.1)) else none))))
  | k + 1, 2, L, σ => oc (y_X1_makeRow__a16 k 0 (lI (lI (lI lZ 1 6) 3 0) 4 ((L.1 5))) σ) (fun r1 => some (r1.1, r1.2))
  | _ + 1, _ + 3, _, _ => none
def o_y_X0_images : List Cond := [.methodLink RX0 267 yX0_pairsFrom, .instanceMethod yX0_pairsFrom, .selects RX0 yX0_pairsFrom yX0_pairsFrom, .initialized RX0, .methodLink RX0 270 yX0_pairsTo, .instanceMethod yX0_pairsTo, .selects RX0 yX0_pairsTo yX0_pairsTo, .fieldLink RX0 15 "SetHouse$Algebra" "row" "[I", .fieldLink RX0 22 "SetHouse$Algebra" "heap" "LSetHouse$Heap;", .methodLink RX0 154 yX1_member, .instanceMethod yX1_member, .selects RX1 yX1_member yX1_member, .initialized RX1, .methodLink RX0 160 yX1_makeRow, .instanceMethod yX1_makeRow, .selects RX1 yX1_makeRow yX1_makeRow]
theorem o_y_X0_images_good : o_y_X0_images.all goodWord = true := by decide +kernel
def p_y_X0_images : List Cond := o_y_X0_images ++ ((.code yX0_pairsFrom cX0_pairsFrom 7 (some .int) :: p_y_X0_pairsFrom) ++ ((.code yX0_pairsTo cX0_pairsTo 6 (some .int) :: p_y_X0_pairsTo) ++ ((.code yX1_member cX1_member 3 (some .int) :: p_y_X1_member) ++ ((.code yX1_makeRow cX1_makeRow 11 (some .int) :: p_y_X1_makeRow__a16) ++ []))))
theorem p_y_X0_images_good : p_y_X0_images.all goodWord = true := nb_all2 o_y_X0_images_good (nb_all2 (nb_allc (by decide +kernel) p_y_X0_pairsFrom_good) (nb_all2 (nb_allc (by decide +kernel) p_y_X0_pairsTo_good) (nb_all2 (nb_allc (by decide +kernel) p_y_X1_member_good) (nb_all2 (nb_allc (by decide +kernel) p_y_X1_makeRow__a16_good) rfl))))
def w_y_X0_images : List Cond := .code yX0_images cX0_images 7 (some .int) :: (p_y_X0_images ++ fC)
theorem w_y_X0_images_good : w_y_X0_images.all goodWord = true := nb_allc (by decide +kernel) (nb_all2 p_y_X0_images_good fC_good)
theorem in_y_X0_images_X0 : ∀ w ∈ wsX00, w ∈ w_y_X0_images := fun _ h => List.mem_cons_of_mem _ (List.mem_append_right _ (List.mem_append_left _ h))
theorem hd_y_X0_images : yX0_images.cls = RX0 ∧ yX0_images.cls ≠ "java/lang/invoke/MethodHandle" ∧ yX0_images.cls ≠ "java/lang/invoke/VarHandle" ∧ (parseMethodDescriptor yX0_images.desc).map (fun d => d.parameters.length) = some 2 := by decide +kernel
theorem gg_y_X0_images_X0_pairsFrom : GoodIn w_y_X0_images w_y_X0_pairsFrom := goodIn_sub (fun w h => (List.mem_cons.mp h).elim (fun e => (List.mem_cons_of_mem _ (List.mem_append_left _ (List.mem_append_right _ (List.mem_append_left _ (List.mem_cons.mpr (Or.inl e))))))) (fun h => (List.mem_append.mp h).elim (fun h => (List.mem_cons_of_mem _ (List.mem_append_left _ (List.mem_append_right _ (List.mem_append_left _ (List.mem_cons_of_mem _ h)))))) (fun h => List.mem_cons_of_mem _ (List.mem_append_right _ h)))) w_y_X0_pairsFrom_good
theorem g_y_X0_images_X0_pairsFrom_V267 : GoodIn w_y_X0_images (wsV RX0 267 RX0 yX0_pairsFrom w_y_X0_pairsFrom) := goodIn_app (nb_g4 (List.mem_cons_of_mem _ (List.mem_append_left _ (List.mem_append_left _ (List.mem_of_getElem? (i := 0) rfl)))) (List.mem_cons_of_mem _ (List.mem_append_left _ (List.mem_append_left _ (List.mem_of_getElem? (i := 1) rfl)))) (List.mem_cons_of_mem _ (List.mem_append_left _ (List.mem_append_left _ (List.mem_of_getElem? (i := 2) rfl)))) (List.mem_cons_of_mem _ (List.mem_append_left _ (List.mem_append_left _ (List.mem_of_getElem? (i := 3) rfl)))) (by decide +kernel)) gg_y_X0_images_X0_pairsFrom
theorem gg_y_X0_images_X0_pairsTo : GoodIn w_y_X0_images w_y_X0_pairsTo := goodIn_sub (fun w h => (List.mem_cons.mp h).elim (fun e => (List.mem_cons_of_mem _ (List.mem_append_left _ (List.mem_append_right _ (List.mem_append_right _ (List.mem_append_left _ (List.mem_cons.mpr (Or.inl e)))))))) (fun h => (List.mem_append.mp h).elim (fun h => (List.mem_cons_of_mem _ (List.mem_append_left _ (List.mem_append_right _ (List.mem_append_right _ (List.mem_append_left _ (List.mem_cons_of_mem _ h))))))) (fun h => List.mem_cons_of_mem _ (List.mem_append_right _ h)))) w_y_X0_pairsTo_good
theorem g_y_X0_images_X0_pairsTo_V270 : GoodIn w_y_X0_images (wsV RX0 270 RX0 yX0_pairsTo w_y_X0_pairsTo) := goodIn_app (nb_g4 (List.mem_cons_of_mem _ (List.mem_append_left _ (List.mem_append_left _ (List.mem_of_getElem? (i := 4) rfl)))) (List.mem_cons_of_mem _ (List.mem_append_left _ (List.mem_append_left _ (List.mem_of_getElem? (i := 5) rfl)))) (List.mem_cons_of_mem _ (List.mem_append_left _ (List.mem_append_left _ (List.mem_of_getElem? (i := 6) rfl)))) (List.mem_cons_of_mem _ (List.mem_append_left _ (List.mem_append_left _ (List.mem_of_getElem? (i := 3) rfl)))) (by decide +kernel)) gg_y_X0_images_X0_pairsTo
theorem gg_y_X0_images_X1_makeRow__a16 : GoodIn w_y_X0_images w_y_X1_makeRow__a16 := goodIn_sub (fun w h => (List.mem_cons.mp h).elim (fun e => (List.mem_cons_of_mem _ (List.mem_append_left _ (List.mem_append_right _ (List.mem_append_right _ (List.mem_append_right _ (List.mem_append_right _ (List.mem_append_left _ (List.mem_cons.mpr (Or.inl e)))))))))) (fun h => (List.mem_append.mp h).elim (fun h => (List.mem_cons_of_mem _ (List.mem_append_left _ (List.mem_append_right _ (List.mem_append_right _ (List.mem_append_right _ (List.mem_append_right _ (List.mem_append_left _ (List.mem_cons_of_mem _ h))))))))) (fun h => List.mem_cons_of_mem _ (List.mem_append_right _ h)))) w_y_X1_makeRow__a16_good
theorem g_y_X0_images_X1_makeRow__a16_V160 : GoodIn w_y_X0_images (wsV RX0 160 RX1 yX1_makeRow w_y_X1_makeRow__a16) := goodIn_app (nb_g4 (List.mem_cons_of_mem _ (List.mem_append_left _ (List.mem_append_left _ (List.mem_of_getElem? (i := 13) rfl)))) (List.mem_cons_of_mem _ (List.mem_append_left _ (List.mem_append_left _ (List.mem_of_getElem? (i := 14) rfl)))) (List.mem_cons_of_mem _ (List.mem_append_left _ (List.mem_append_left _ (List.mem_of_getElem? (i := 15) rfl)))) (List.mem_cons_of_mem _ (List.mem_append_left _ (List.mem_append_left _ (List.mem_of_getElem? (i := 12) rfl)))) (by decide +kernel)) gg_y_X0_images_X1_makeRow__a16
theorem gg_y_X0_images_X1_member : GoodIn w_y_X0_images w_y_X1_member := goodIn_sub (fun w h => (List.mem_cons.mp h).elim (fun e => (List.mem_cons_of_mem _ (List.mem_append_left _ (List.mem_append_right _ (List.mem_append_right _ (List.mem_append_right _ (List.mem_append_left _ (List.mem_cons.mpr (Or.inl e))))))))) (fun h => (List.mem_append.mp h).elim (fun h => (List.mem_cons_of_mem _ (List.mem_append_left _ (List.mem_append_right _ (List.mem_append_right _ (List.mem_append_right _ (List.mem_append_left _ (List.mem_cons_of_mem _ h)))))))) (fun h => List.mem_cons_of_mem _ (List.mem_append_right _ h)))) w_y_X1_member_good
theorem g_y_X0_images_X1_member_V154 : GoodIn w_y_X0_images (wsV RX0 154 RX1 yX1_member w_y_X1_member) := goodIn_app (nb_g4 (List.mem_cons_of_mem _ (List.mem_append_left _ (List.mem_append_left _ (List.mem_of_getElem? (i := 9) rfl)))) (List.mem_cons_of_mem _ (List.mem_append_left _ (List.mem_append_left _ (List.mem_of_getElem? (i := 10) rfl)))) (List.mem_cons_of_mem _ (List.mem_append_left _ (List.mem_append_left _ (List.mem_of_getElem? (i := 11) rfl)))) (List.mem_cons_of_mem _ (List.mem_append_left _ (List.mem_append_left _ (List.mem_of_getElem? (i := 12) rfl)))) (by decide +kernel)) gg_y_X0_images_X1_member
set_option maxHeartbeats 40000000 in
set_option maxRecDepth 100000 in
theorem c_y_X0_images (l : Launch) (dC : Nat → ClassId) (dI : Nat → Nat → Nat) (cy : Nat → ClassId) (a z : Nat → Nat) (k0 : Nat) (L0 : LV) (σ0 : CS) (r0 : Int32 × CS) (h0 : y_X0_images k0 0 L0 σ0 = some r0) (sz : Nat) : Met l yX0_images w_y_X0_images ({ frames := 63, cells := 0, slots := 0, locals := 1764 }) (va_Pc [.ref (a 14), .int (L0.1 1), .int (L0.1 2)] (nIn (dC, dI) cy sz (vC cy a z σ0))) (va_Qi (fun (x : Int32) (_ : Unit) => x = r0.1) (fun _ t => nOut (dC, dI) cy (va_A (vC cy a z σ0) sz) (vC cy a z r0.2) t) (va_A (vC cy a z σ0) sz)) 0 0 (va_A (vC cy a z σ0) sz) := by
  refine Met.ofW (cc := cX0_images) (maxL := 7) (ret := (some .int)) (by decide) rfl ?_
  intro p e s m args below meth c s₁ B hml hv
  obtain ⟨rfl, hsz, hP, hK, hD0, hG⟩ := hv
  have hx := B.exec
  have hb := B.bytes
  have hr := B.returns
  have hts := atoms_spec (ws := w_y_X0_images) B.pre
  have hown : s.vm.findClass RX0 = some m.cls := findClass_of_methodNamed B.named
  have hlocks := B.notSynchronized
  subst hsz
  have hD := hD0.self (sz := s.heap.size)
  generalize hAe : va_A (vC cy a z σ0) s.heap.size = A at hD ⊢
  have hA : ∀ q : Nat, s.heap.size ≤ q → A q := fun q h => by rw [← hAe]; exact Or.inr h
  have hS : va_S A s.heap s.heap [] := va_S.rf
  have hl := lv_entry ([.ref (a 14), .int (L0.1 1), .int (L0.1 2)]) (n := 7) (Nat.le_of_ble_eq_true rfl)
  rw [lg_entry_eq]
  generalize (lg_sl ([.ref (a 14), .int (L0.1 1), .int (L0.1 2)]) ++ List.replicate (7 - (lg_sl ([.ref (a 14), .int (L0.1 1), .int (L0.1 2)])).length) Slot.unset).toArray = ls at hl ⊢
  have hl : lv_has ls 7 [(0, .ref (a 14)), (1, .int (L0.1 1)), (2, .int (L0.1 2))] := hl
  have blk : ∀ k : Nat, (bC p l e (headSpec w_y_X0_images ({ frames := 63, cells := 0, slots := 0, locals := 1764 })).room s m #[.ref (a 14), .int (L0.1 1), .int (L0.1 2)] below meth c dC dI cy a z A (kI dC dI cy a z A below #[.ref (a 14), .int (L0.1 1), .int (L0.1 2)] s) 7 (y_X0_images k 0) (fun L => [(0, .ref (a 14)), (1, .int (L.1 1)), (2, .int (L.1 2))]) 0 (fun L => [])) ∧ (bC p l e (headSpec w_y_X0_images ({ frames := 63, cells := 0, slots := 0, locals := 1764 })).room s m #[.ref (a 14), .int (L0.1 1), .int (L0.1 2)] below meth c dC dI cy a z A (kI dC dI cy a z A below #[.ref (a 14), .int (L0.1 1), .int (L0.1 2)] s) 7 (y_X0_images k 1) (fun L => [(0, .ref (a 14)), (1, .int (L.1 1)), (4, .int (L.1 4)), (5, .int (L.1 5)), (6, .int (L.1 6))]) 22 (fun L => [])) ∧ (bC p l e (headSpec w_y_X0_images ({ frames := 63, cells := 0, slots := 0, locals := 1764 })).room s m #[.ref (a 14), .int (L0.1 1), .int (L0.1 2)] below meth c dC dI cy a z A (kI dC dI cy a z A below #[.ref (a 14), .int (L0.1 1), .int (L0.1 2)] s) 7 (y_X0_images k 2) (fun L => [(0, .ref (a 14)), (5, .int (L.1 5))]) 73 (fun L => [])) := by
    intro k
    induction k with
    | zero => exact ⟨fun L σ r h => (by cases h), fun L σ r h => (by cases h), fun L σ r h => (by cases h)⟩
    | succ k ih =>
      refine ⟨?_, ?_, ?_⟩
      · intro L σ r h H locs ls hP hD hS hl
        rw [y_X0_images] at h
        refine lv_aload_n hx hb dX0_images_0 rfl (lv_at hl 0 rfl) ?_
        refine lv_iload_n hx hb dX0_images_1 rfl (lv_at hl 1 rfl) ?_
        refine lv_iload_n hx hb dX0_images_2 rfl (lv_at hl 2 rfl) ?_
        obtain ⟨r1, hc1, h⟩ := oc_ex h
        refine kc_i (va_runV (As := [.int (L.1 1), .int (L.1 2)]) (rest := []) ⟨hx, hb, hml, hown, hts⟩ (c_y_X0_pairsFrom l dC dI cy a z k (lI (lI lZ 1 ((L.1 1))) 2 ((L.1 2))) σ r1 hc1 H.size) (cwV 2 hts g_y_X0_images_X0_pairsFrom_V267 rfl rfl rfl hd_y_X0_pairsFrom ⟨Nat.le_of_ble_eq_true rfl, Nat.le_of_ble_eq_true rfl⟩) ⟨nb_blind, va_recv hK hP (ci := 0) (q0 := 14) rfl rfl, (kb_pre hK hG hP hD)⟩ rfl rfl hl.1 rfl (lv_room (Nat.le_of_ble_eq_true rfl)) dX0_images_3 ⟨Nat.le_refl _, Nat.le_refl _⟩) hA hP hD hS (fun H locs hP hD hS => ?_)
        refine lv_istore_n (lv' := [(3, .int r1.1), (0, .ref (a 14)), (1, .int (L.1 1)), (2, .int (L.1 2))]) hx hb dX0_images_6 rfl hl (by decide) rfl (fun ls hl => ?_)
        refine lv_aload_n hx hb dX0_images_7 rfl (lv_at hl 1 rfl) ?_
        refine lv_iload_n hx hb dX0_images_8 rfl (lv_at hl 2 rfl) ?_
        refine lv_iload_n hx hb dX0_images_9 rfl (lv_at hl 0 rfl) ?_
        refine lv_iload_n hx hb dX0_images_10 rfl (lv_at hl 3 rfl) ?_
        obtain ⟨r2, hc2, h⟩ := oc_ex h
        refine kc_i (va_runV (As := [.int (L.1 1), .int r1.1, .int (L.1 2)]) (rest := []) ⟨hx, hb, hml, hown, hts⟩ (c_y_X0_pairsTo l dC dI cy a z k (lI (lI (lI lZ 1 ((L.1 1))) 2 r1.1) 3 ((L.1 2))) r1.2 r2 hc2 H.size) (cwV 3 hts g_y_X0_images_X0_pairsTo_V270 rfl rfl rfl hd_y_X0_pairsTo ⟨Nat.le_of_ble_eq_true rfl, Nat.le_of_ble_eq_true rfl⟩) ⟨nb_blind, va_recv hK hP (ci := 0) (q0 := 14) rfl rfl, (kb_pre hK hG hP hD)⟩ rfl rfl hl.1 rfl (lv_room (Nat.le_of_ble_eq_true rfl)) dX0_images_11 ⟨Nat.le_refl _, Nat.le_refl _⟩) hA hP hD hS (fun H locs hP hD hS => ?_)
        refine lv_istore (lv' := [(4, .int r2.1), (3, .int r1.1), (0, .ref (a 14)), (1, .int (L.1 1)), (2, .int (L.1 2))]) hx hb dX0_images_14 hl (by decide) rfl (fun ls hl => ?_)
        refine lv_iconst (v := 0) hx hb dX0_images_16 (by decide) ?_
        refine lv_istore (lv' := [(5, .int 0), (4, .int r2.1), (3, .int r1.1), (0, .ref (a 14)), (1, .int (L.1 1)), (2, .int (L.1 2))]) hx hb dX0_images_17 hl (by decide) rfl (fun ls hl => ?_)
        refine lv_iload_n hx hb dX0_images_19 rfl (lv_at hl 2 rfl) ?_
        refine lv_istore (lv' := [(6, .int r1.1), (5, .int 0), (4, .int r2.1), (3, .int r1.1), (0, .ref (a 14)), (1, .int (L.1 1)), (2, .int (L.1 2))]) hx hb dX0_images_20 hl (by decide) rfl (fun ls hl => ?_)
        exact ih.2.1 (lI (lI (lI L 4 r2.1) 5 0) 6 r1.1) r2.2 r h H locs ls hP hD hS (lv_sub hl [4, 5, 2, 1, 0] rfl)
      · intro L σ r h H locs ls hP hD hS hl
        rw [y_X0_images] at h
        refine lv_iload hx hb dX0_images_22 (lv_at hl 4 rfl) ?_
        refine lv_iload hx hb dX0_images_24 (lv_at hl 2 rfl) ?_
        refine lv_icmp_ge (tgt := 73) hx hb dX0_images_26 (by decide) (fun c1 => ?_) (fun c1 => ?_)
        · rw [if_pos c1] at h
          exact ih.2.2 L σ r h H locs ls hP hD hS (lv_sub hl [0, 3] rfl)
        · rw [if_neg c1] at h
          refine lv_iload hx hb dX0_images_29 (lv_at hl 3 rfl) ?_
          refine lv_aload_n hx hb dX0_images_31 rfl (lv_at hl 0 rfl) ?_
          refine hg_14_4 hx hb hts in_y_X0_images_X0 hown hK hP (hts _ (List.mem_cons_of_mem _ (List.mem_append_left _ (List.mem_append_left _ (List.mem_of_getElem? (i := 7) rfl))))) dX0_images_32 ?_
          refine hn_16 hx hb hK hP dX0_images_35 ?_
          refine lv_icmp_ge (tgt := 73) hx hb dX0_images_36 (by decide) (fun c2 => ?_) (fun c2 => ?_)
          · rw [if_pos c2] at h
            exact ih.2.2 L σ r h H locs ls hP hD hS (lv_sub hl [0, 3] rfl)
          · rw [if_neg c2] at h
            refine lv_aload_n hx hb dX0_images_39 rfl (lv_at hl 0 rfl) ?_
            refine hg_14_4 hx hb hts in_y_X0_images_X0 hown hK hP (hts _ (List.mem_cons_of_mem _ (List.mem_append_left _ (List.mem_append_left _ (List.mem_of_getElem? (i := 7) rfl))))) dX0_images_40 ?_
            refine lv_iload hx hb dX0_images_43 (lv_at hl 3 rfl) ?_
            refine lv_aload_n hx hb dX0_images_45 rfl (lv_at hl 0 rfl) ?_
            refine hg_14_0 hx hb hts in_y_X0_images_X0 hown hK hP (hts _ (List.mem_cons_of_mem _ (List.mem_append_left _ (List.mem_append_left _ (List.mem_of_getElem? (i := 8) rfl))))) dX0_images_46 ?_
            refine lv_aload_n hx hb dX0_images_49 rfl (lv_at hl 0 rfl) ?_
            refine hg_14_0 hx hb hts in_y_X0_images_X0 hown hK hP (hts _ (List.mem_cons_of_mem _ (List.mem_append_left _ (List.mem_append_left _ (List.mem_of_getElem? (i := 8) rfl))))) dX0_images_50 ?_
            refine lv_iload_n hx hb dX0_images_53 rfl (lv_at hl 1 rfl) ?_
            refine lv_iload hx hb dX0_images_54 (lv_at hl 4 rfl) ?_
            obtain ⟨r3, hc3, h⟩ := oc_ex h
            refine kc_i (va_runV (As := [.int (L.1 1), .int (L.1 6)]) (rest := [.ref (a 0), .int (L.1 5), .ref (a 16)]) ⟨hx, hb, hml, hown, hts⟩ (c_y_X1_member l dC dI cy a z k (lI (lI lZ 1 ((L.1 1))) 2 ((L.1 6))) σ r3 hc3 H.size) (cwV 2 hts g_y_X0_images_X1_member_V154 rfl rfl rfl hd_y_X1_member ⟨Nat.le_of_ble_eq_true rfl, Nat.le_of_ble_eq_true rfl⟩) ⟨nb_blind, va_recv hK hP (ci := 1) (q0 := 0) rfl rfl, (kb_pre hK hG hP hD)⟩ rfl rfl hl.1 rfl (lv_room (Nat.le_of_ble_eq_true rfl)) dX0_images_56 ⟨Nat.le_refl _, Nat.le_refl _⟩) hA hP hD hS (fun H locs hP hD hS => ?_)
            refine lv_iconst (v := 1) hx hb dX0_images_59 (by decide) ?_
            obtain ⟨r4, hc4, h⟩ := oc_ex h
            refine kc_i (va_runV (As := [.int r3.1, .int 1]) (rest := [.int (L.1 5), .ref (a 16)]) ⟨hx, hb, hml, hown, hts⟩ (c_y_X1_member l dC dI cy a z k (lI (lI lZ 1 r3.1) 2 1) r3.2 r4 hc4 H.size) (cwV 2 hts g_y_X0_images_X1_member_V154 rfl rfl rfl hd_y_X1_member ⟨Nat.le_of_ble_eq_true rfl, Nat.le_of_ble_eq_true rfl⟩) ⟨nb_blind, va_recv hK hP (ci := 1) (q0 := 0) rfl rfl, (kb_pre hK hG hP hD)⟩ rfl rfl hl.1 rfl (lv_room (Nat.le_of_ble_eq_true rfl)) dX0_images_60 ⟨Nat.le_refl _, Nat.le_refl _⟩) hA hP hD hS (fun H locs hP hD hS => ?_)
            obtain ⟨q5, h⟩ := kb_ite1 h
            refine hs_16 hx hb hK hP hD hS q5 dX0_images_63 (fun H locs hP hD hS => ?_)
            refine lv_iinc (v := ((L.1 5)) + 1) (lv' := [(5, .int (((L.1 5)) + 1)), (0, .ref (a 14)), (1, .int (L.1 1)), (4, .int (L.1 4)), (6, .int (L.1 6))]) hx hb dX0_images_64 hl (k := 3) rfl rfl (by decide) rfl (fun ls hl => ?_)
            refine lv_iinc (v := ((L.1 6)) + 1) (lv' := [(6, .int (((L.1 6)) + 1)), (5, .int (((L.1 5)) + 1)), (0, .ref (a 14)), (1, .int (L.1 1)), (4, .int (L.1 4))]) hx hb dX0_images_67 hl (k := 4) rfl rfl (by decide) rfl (fun ls hl => ?_)
            refine lv_goto (tgt := 22) hx hb dX0_images_70 (by decide) ?_
            exact ih.2.1 (lI (lI L 5 ((((L.1 5)) + 1))) 6 ((((L.1 6)) + 1))) (uA r4.2 16 ((L.1 5)).toNatClampNeg r4.1) r h H locs ls hP hD hS (lv_sub hl [2, 3, 4, 1, 0] rfl)
      · intro L σ r h H locs ls hP hD hS hl
        rw [y_X0_images] at h
        refine lv_aload_n hx hb dX0_images_73 rfl (lv_at hl 0 rfl) ?_
        refine hg_14_0 hx hb hts in_y_X0_images_X0 hown hK hP (hts _ (List.mem_cons_of_mem _ (List.mem_append_left _ (List.mem_append_left _ (List.mem_of_getElem? (i := 8) rfl))))) dX0_images_74 ?_
        refine lv_bipush (v := 6) hx hb dX0_images_77 (by decide) ?_
        refine lv_aload_n hx hb dX0_images_79 rfl (lv_at hl 0 rfl) ?_
        refine hg_14_4 hx hb hts in_y_X0_images_X0 hown hK hP (hts _ (List.mem_cons_of_mem _ (List.mem_append_left _ (List.mem_append_left _ (List.mem_of_getElem? (i := 7) rfl))))) dX0_images_80 ?_
        refine lv_iconst (v := 0) hx hb dX0_images_83 (by decide) ?_
        refine lv_iload hx hb dX0_images_84 (lv_at hl 1 rfl) ?_
        obtain ⟨r1, hc1, h⟩ := oc_ex h
        refine kc_i (va_runV (As := [.int 6, .ref (a 16), .int 0, .int (L.1 5)]) (rest := []) ⟨hx, hb, hml, hown, hts⟩ (c_y_X1_makeRow__a16 l dC dI cy a z k (lI (lI (lI lZ 1 6) 3 0) 4 ((L.1 5))) σ r1 hc1 H.size) (cwV 4 hts g_y_X0_images_X1_makeRow__a16_V160 rfl rfl rfl hd_y_X1_makeRow__a16 ⟨Nat.le_of_ble_eq_true rfl, Nat.le_of_ble_eq_true rfl⟩) ⟨nb_blind, va_recv hK hP (ci := 1) (q0 := 0) rfl rfl, (kb_pre hK hG hP hD)⟩ rfl rfl hl.1 rfl (lv_room (Nat.le_of_ble_eq_true rfl)) dX0_images_86 ⟨Nat.le_refl _, Nat.le_refl _⟩) hA hP hD hS (fun H locs hP hD hS => ?_)
        obtain rfl := Option.some.inj h
        exact W.iret (v := r1.1) hx hb hr (fun t ht hW => ⟨⟨r1.1, (), rfl, rfl, by rw [ht]; exact hP, va_K.moved hW.alike hK, hD⟩, hS.F ht⟩) hS.2.2 dX0_images_89
  exact (blk k0).1 L0 σ0 r0 h0 s.heap [] ls hP hD hS hl

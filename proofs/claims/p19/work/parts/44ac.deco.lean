/-! isRelation -/
def x_isRelation : Nat → Nat → (Nat → Int32) → MS → Option (Int32 × MS)
  | 0, _, _, _ => none
  | k + 1, 0, L, σ => if ((σ.1 6)) = 4 then (if ((σ.1 7)) < 17 then (x_isRelation k 1 L σ) else (if ((σ.1 7)) ≤ 22 then (x_isRelation k 2 L σ) else (x_isRelation k 1 L σ))) else (x_isRelation k 1 L σ)
  | k + 1, 1, L, σ => ob (x_isWord k 0 (upd (fun _ => 0) 1 14) σ) (fun r1 => if r1.1 = 0 then (ob (x_isWord k 0 (upd (fun _ => 0) 1 15) r1.2) (fun r3 => if r3.1 = 0 then (ob (x_isWord k 0 (upd (fun _ => 0) 1 16) r3.2) (fun r5 => if r5.1 = 0 then (x_isRelation k 3 L r5.2) else (x_isRelation k 2 L r5.2))) else (x_isRelation k 2 L r3.2))) else (x_isRelation k 2 L r1.2))
  | k + 1, 2, L, σ => x_isRelation k 4 (upd L 100 1) σ
  | k + 1, 3, L, σ => x_isRelation k 4 (upd L 100 0) σ
  | k + 1, 4, L, σ => if ((L 100)) = 0 ∨ ((L 100)) = 1 then some ((L 100), σ) else none
  | _ + 1, _ + 5, _, _ => none
def o_x_isRelation : List Cond := [.fieldLink RX12 35 "SetHouseModel" "tKind" "I", .fieldLink RX12 49 "SetHouseModel" "tWhat" "I", .methodLink RX12 74 yX12_isWord, .instanceMethod yX12_isWord, .selects RX12 yX12_isWord yX12_isWord, .initialized RX12]
theorem o_x_isRelation_good : o_x_isRelation.all goodWord = true := by decide +kernel
def p_x_isRelation : List Cond := o_x_isRelation ++ ((.code yX12_isWord cX12_isWord 2 (some .boolean) :: p_x_isWord) ++ [])
theorem p_x_isRelation_good : p_x_isRelation.all goodWord = true := nb_all2 o_x_isRelation_good (nb_all2 (nb_allc (by decide +kernel) p_x_isWord_good) rfl)
def w_x_isRelation : List Cond := .code yX12_isRelation cX12_isRelation 1 (some .boolean) :: (p_x_isRelation ++ fM)
theorem w_x_isRelation_good : w_x_isRelation.all goodWord = true := nb_allc (by decide +kernel) (nb_all2 p_x_isRelation_good fM_good)
theorem in_x_isRelation : ∀ w ∈ wsX120, w ∈ w_x_isRelation := fun _ h => List.mem_cons_of_mem _ (List.mem_append_right _ h)
theorem hd_x_isRelation : yX12_isRelation.cls = RX12 ∧ yX12_isRelation.cls ≠ "java/lang/invoke/MethodHandle" ∧ yX12_isRelation.cls ≠ "java/lang/invoke/VarHandle" ∧ (parseMethodDescriptor yX12_isRelation.desc).map (fun d => d.parameters.length) = some 0 := by decide +kernel
theorem gg_x_isRelation_isWord : GoodIn w_x_isRelation w_x_isWord := goodIn_sub (fun w h => (List.mem_cons.mp h).elim (fun e => (List.mem_cons_of_mem _ (List.mem_append_left _ (List.mem_append_right _ (List.mem_append_left _ (List.mem_cons.mpr (Or.inl e))))))) (fun h => (List.mem_append.mp h).elim (fun h => (List.mem_cons_of_mem _ (List.mem_append_left _ (List.mem_append_right _ (List.mem_append_left _ (List.mem_cons_of_mem _ h)))))) (fun h => List.mem_cons_of_mem _ (List.mem_append_right _ h)))) w_x_isWord_good
theorem g_x_isRelation_isWord_74 : GoodIn w_x_isRelation (wsV RX12 74 RX12 yX12_isWord w_x_isWord) := goodIn_app (nb_g4 (List.mem_cons_of_mem _ (List.mem_append_left _ (List.mem_append_left _ (List.mem_of_getElem? (i := 2) rfl)))) (List.mem_cons_of_mem _ (List.mem_append_left _ (List.mem_append_left _ (List.mem_of_getElem? (i := 3) rfl)))) (List.mem_cons_of_mem _ (List.mem_append_left _ (List.mem_append_left _ (List.mem_of_getElem? (i := 4) rfl)))) (List.mem_cons_of_mem _ (List.mem_append_left _ (List.mem_append_left _ (List.mem_of_getElem? (i := 5) rfl)))) (by decide +kernel)) gg_x_isRelation_isWord
set_option maxHeartbeats 40000000 in
set_option maxRecDepth 100000 in
theorem c_x_isRelation (l : Launch) (dC : Nat → ClassId) (dI : Nat → Nat → Nat) (cy : Nat → ClassId) (a : Nat → Nat) (k0 : Nat) (L0 : Nat → Int32) (σ0 : MS) (r0 : Int32 × MS) (h0 : x_isRelation k0 0 L0 σ0 = some r0) (sz : Nat) : Met l yX12_isRelation w_x_isRelation ({ frames := 1, cells := 0, slots := 0, locals := 21 }) (va_Pc [.ref (a 0)] (nIn (dC, dI) cy sz (vM cy a σ0))) (va_Qi (fun (z : Int32) (_ : Unit) => z = r0.1) (fun _ t => nOut (dC, dI) cy (va_A (vM cy a σ0) sz) (vM cy a r0.2) t) (va_A (vM cy a σ0) sz)) 0 0 (va_A (vM cy a σ0) sz) := by
  refine Met.ofW (cc := cX12_isRelation) (maxL := 1) (ret := (some .boolean)) (by decide) rfl ?_
  intro p e s m args below meth c s₁ B hml hv
  obtain ⟨rfl, hsz, hP, hK, hD0, hG⟩ := hv
  have hx := B.exec
  have hb := B.bytes
  have hr := B.returns
  have hts := atoms_spec (ws := w_x_isRelation) B.pre
  have hown : s.vm.findClass RX12 = some m.cls := findClass_of_methodNamed B.named
  have hlocks := B.notSynchronized
  subst hsz
  have hD := hD0.self (sz := s.heap.size)
  generalize hAe : va_A (vM cy a σ0) s.heap.size = A at hD ⊢
  have hA : ∀ q : Nat, s.heap.size ≤ q → A q := fun q h => by rw [← hAe]; exact Or.inr h
  have hS : va_S A s.heap s.heap [] := va_S.rf
  have hl := lv_entry ([.ref (a 0)]) (n := 1) (Nat.le_of_ble_eq_true rfl)
  rw [lg_entry_eq]
  generalize (lg_sl ([.ref (a 0)]) ++ List.replicate (1 - (lg_sl ([.ref (a 0)])).length) Slot.unset).toArray = ls at hl ⊢
  have hl : lv_has ls 1 [(0, .ref (a 0))] := hl
  have blk : ∀ k : Nat, (bT p l e (headSpec w_x_isRelation ({ frames := 1, cells := 0, slots := 0, locals := 21 })).room s m #[.ref (a 0)] below meth c dC dI cy a A (qI dC dI cy a A below #[.ref (a 0)] s) 1 (x_isRelation k 0) (fun L => [(0, .ref (a 0))]) 0 (fun L => [])) ∧ (bT p l e (headSpec w_x_isRelation ({ frames := 1, cells := 0, slots := 0, locals := 21 })).room s m #[.ref (a 0)] below meth c dC dI cy a A (qI dC dI cy a A below #[.ref (a 0)] s) 1 (x_isRelation k 1) (fun L => [(0, .ref (a 0))]) 26 (fun L => [])) ∧ (bT p l e (headSpec w_x_isRelation ({ frames := 1, cells := 0, slots := 0, locals := 21 })).room s m #[.ref (a 0)] below meth c dC dI cy a A (qI dC dI cy a A below #[.ref (a 0)] s) 1 (x_isRelation k 2) (fun L => [(0, .ref (a 0))]) 53 (fun L => [])) ∧ (bT p l e (headSpec w_x_isRelation ({ frames := 1, cells := 0, slots := 0, locals := 21 })).room s m #[.ref (a 0)] below meth c dC dI cy a A (qI dC dI cy a A below #[.ref (a 0)] s) 1 (x_isRelation k 3) (fun L => [(0, .ref (a 0))]) 57 (fun L => [])) ∧ (bT p l e (headSpec w_x_isRelation ({ frames := 1, cells := 0, slots := 0, locals := 21 })).room s m #[.ref (a 0)] below meth c dC dI cy a A (qI dC dI cy a A below #[.ref (a 0)] s) 1 (x_isRelation k 4) (fun L => [(0, .ref (a 0))]) 58 (fun L => [.int (L 100)])) := by
    intro k
    induction k with
    | zero => exact ⟨fun L σ r h => (by cases h), fun L σ r h => (by cases h), fun L σ r h => (by cases h), fun L σ r h => (by cases h), fun L σ r h => (by cases h)⟩
    | succ k ih =>
      refine ⟨?_, ?_, ?_, ?_, ?_⟩
      · intro L σ r h H locs ls hP hD hS hl
        rw [x_isRelation] at h
        refine lv_aload_n hx hb dX12_isRelation_0 rfl (lv_at hl 0 rfl) ?_
        refine ng_6 hx hb hts in_x_isRelation hown hK hP (hts _ (List.mem_cons_of_mem _ (List.mem_append_left _ (List.mem_append_left _ (List.mem_of_getElem? (i := 0) rfl))))) dX12_isRelation_1 ?_
        refine lv_iconst (v := 4) hx hb dX12_isRelation_4 (by decide) ?_
        refine lv_icmp_ne (tgt := 26) hx hb dX12_isRelation_5 (by decide) (fun c1 => ?_) (fun c1 => ?_)
        · rw [if_neg c1] at h
          exact ih.2.1 L σ r h H locs ls hP hD hS (lv_sub hl [0] rfl)
        · rw [if_pos c1] at h
          refine lv_aload_n hx hb dX12_isRelation_8 rfl (lv_at hl 0 rfl) ?_
          refine ng_7 hx hb hts in_x_isRelation hown hK hP (hts _ (List.mem_cons_of_mem _ (List.mem_append_left _ (List.mem_append_left _ (List.mem_of_getElem? (i := 1) rfl))))) dX12_isRelation_9 ?_
          refine lv_bipush (v := 17) hx hb dX12_isRelation_12 (by decide) ?_
          refine lv_icmp_lt (tgt := 26) hx hb dX12_isRelation_14 (by decide) (fun c2 => ?_) (fun c2 => ?_)
          · rw [if_pos c2] at h
            exact ih.2.1 L σ r h H locs ls hP hD hS (lv_sub hl [0] rfl)
          · rw [if_neg c2] at h
            refine lv_aload_n hx hb dX12_isRelation_17 rfl (lv_at hl 0 rfl) ?_
            refine ng_7 hx hb hts in_x_isRelation hown hK hP (hts _ (List.mem_cons_of_mem _ (List.mem_append_left _ (List.mem_append_left _ (List.mem_of_getElem? (i := 1) rfl))))) dX12_isRelation_18 ?_
            refine lv_bipush (v := 22) hx hb dX12_isRelation_21 (by decide) ?_
            refine lv_icmp_le (tgt := 53) hx hb dX12_isRelation_23 (by decide) (fun c3 => ?_) (fun c3 => ?_)
            · rw [if_pos c3] at h
              exact ih.2.2.1 L σ r h H locs ls hP hD hS (lv_sub hl [0] rfl)
            · rw [if_neg c3] at h
              exact ih.2.1 L σ r h H locs ls hP hD hS (lv_sub hl [0] rfl)
      · intro L σ r h H locs ls hP hD hS hl
        rw [x_isRelation] at h
        refine lv_aload_n hx hb dX12_isRelation_26 rfl (lv_at hl 0 rfl) ?_
        refine lv_bipush (v := 14) hx hb dX12_isRelation_27 (by decide) ?_
        obtain ⟨r1, hc1, h⟩ := ob_ex h
        refine nc_Vi (As := [.int 14]) (rest := []) ⟨hx, hb, hml, hown, hts⟩ (c_x_isWord l dC dI cy a k (upd (fun _ => 0) 1 14) σ r1 hc1 H.size) (cwV 1 hts g_x_isRelation_isWord_74 rfl rfl rfl hd_x_isWord ⟨Nat.le_of_ble_eq_true rfl, Nat.le_of_ble_eq_true rfl⟩) hK hG hA hP hD hS rfl hl.1 rfl (Nat.le_of_ble_eq_true rfl) dX12_isRelation_29 ⟨Nat.le_refl _, Nat.le_refl _⟩ (fun H locs hP hD hS => ?_)
        refine lv_if_ne (tgt := 53) hx hb dX12_isRelation_32 (by decide) (fun c2 => ?_) (fun c2 => ?_)
        · rw [if_neg c2] at h
          exact ih.2.2.1 L r1.2 r h H locs ls hP hD hS (lv_sub hl [0] rfl)
        · rw [if_pos c2] at h
          refine lv_aload_n hx hb dX12_isRelation_35 rfl (lv_at hl 0 rfl) ?_
          refine lv_bipush (v := 15) hx hb dX12_isRelation_36 (by decide) ?_
          obtain ⟨r3, hc3, h⟩ := ob_ex h
          refine nc_Vi (As := [.int 15]) (rest := []) ⟨hx, hb, hml, hown, hts⟩ (c_x_isWord l dC dI cy a k (upd (fun _ => 0) 1 15) r1.2 r3 hc3 H.size) (cwV 1 hts g_x_isRelation_isWord_74 rfl rfl rfl hd_x_isWord ⟨Nat.le_of_ble_eq_true rfl, Nat.le_of_ble_eq_true rfl⟩) hK hG hA hP hD hS rfl hl.1 rfl (Nat.le_of_ble_eq_true rfl) dX12_isRelation_38 ⟨Nat.le_refl _, Nat.le_refl _⟩ (fun H locs hP hD hS => ?_)
          refine lv_if_ne (tgt := 53) hx hb dX12_isRelation_41 (by decide) (fun c4 => ?_) (fun c4 => ?_)
          · rw [if_neg c4] at h
            exact ih.2.2.1 L r3.2 r h H locs ls hP hD hS (lv_sub hl [0] rfl)
          · rw [if_pos c4] at h
            refine lv_aload_n hx hb dX12_isRelation_44 rfl (lv_at hl 0 rfl) ?_
            refine lv_bipush (v := 16) hx hb dX12_isRelation_45 (by decide) ?_
            obtain ⟨r5, hc5, h⟩ := ob_ex h
            refine nc_Vi (As := [.int 16]) (rest := []) ⟨hx, hb, hml, hown, hts⟩ (c_x_isWord l dC dI cy a k (upd (fun _ => 0) 1 16) r3.2 r5 hc5 H.size) (cwV 1 hts g_x_isRelation_isWord_74 rfl rfl rfl hd_x_isWord ⟨Nat.le_of_ble_eq_true rfl, Nat.le_of_ble_eq_true rfl⟩) hK hG hA hP hD hS rfl hl.1 rfl (Nat.le_of_ble_eq_true rfl) dX12_isRelation_47 ⟨Nat.le_refl _, Nat.le_refl _⟩ (fun H locs hP hD hS => ?_)
            refine lv_if_eq (tgt := 57) hx hb dX12_isRelation_50 (by decide) (fun c6 => ?_) (fun c6 => ?_)
            · rw [if_pos c6] at h
              exact ih.2.2.2.1 L r5.2 r h H locs ls hP hD hS (lv_sub hl [0] rfl)
            · rw [if_neg c6] at h
              exact ih.2.2.1 L r5.2 r h H locs ls hP hD hS (lv_sub hl [0] rfl)
      · intro L σ r h H locs ls hP hD hS hl
        rw [x_isRelation] at h
        refine lv_iconst (v := 1) hx hb dX12_isRelation_53 (by decide) ?_
        refine lv_goto (tgt := 58) hx hb dX12_isRelation_54 (by decide) ?_
        exact ih.2.2.2.2 (upd L 100 1) σ r h H locs ls hP hD hS (lv_sub hl [0] rfl)
      · intro L σ r h H locs ls hP hD hS hl
        rw [x_isRelation] at h
        refine lv_iconst (v := 0) hx hb dX12_isRelation_57 (by decide) ?_
        exact ih.2.2.2.2 (upd L 100 0) σ r h H locs ls hP hD hS (lv_sub hl [0] rfl)
      · intro L σ r h H locs ls hP hD hS hl
        rw [x_isRelation] at h
        obtain ⟨q1, h⟩ := nb_ite1 h
        cases h
        exact W.zret (v := (L 100)) hx hb hr (nb_bz q1) (fun t ht hW => ⟨⟨(L 100), (), rfl, rfl, by rw [ht]; exact hP, va_K.moved hW.alike hK, hD⟩, hS.F ht⟩) hS.2.2 dX12_isRelation_58
  exact (blk k0).1 L0 σ0 r0 h0 s.heap [] ls hP hD hS hl
/-! operator -/
def x_operator : Nat → Nat → (Nat → Int32) → MS → Option (Int32 × MS)
  | 0, _, _, _ => none
  | k + 1, 0, L, σ => if ((σ.1 6)) = 4 then (x_operator k 2 (upd L 100 ((σ.1 7))) σ) else (x_operator k 1 L σ)
  | k + 1, 1, L, σ => x_operator k 2 (upd L 100 ((100 + ((σ.1 7))))) σ
  | k + 1, 2, L, σ => some ((L 100), σ)
  | _ + 1, _ + 3, _, _ => none
def o_x_operator : List Cond := [.fieldLink RX12 35 "SetHouseModel" "tKind" "I", .fieldLink RX12 49 "SetHouseModel" "tWhat" "I"]
theorem o_x_operator_good : o_x_operator.all goodWord = true := by decide +kernel
def p_x_operator : List Cond := o_x_operator ++ []
theorem p_x_operator_good : p_x_operator.all goodWord = true := nb_all2 o_x_operator_good rfl
def w_x_operator : List Cond := .code yX12_operator cX12_operator 1 (some .int) :: (p_x_operator ++ fM)
theorem w_x_operator_good : w_x_operator.all goodWord = true := nb_allc (by decide +kernel) (nb_all2 p_x_operator_good fM_good)
theorem in_x_operator : ∀ w ∈ wsX120, w ∈ w_x_operator := fun _ h => List.mem_cons_of_mem _ (List.mem_append_right _ h)
theorem hd_x_operator : yX12_operator.cls = RX12 ∧ yX12_operator.cls ≠ "java/lang/invoke/MethodHandle" ∧ yX12_operator.cls ≠ "java/lang/invoke/VarHandle" ∧ (parseMethodDescriptor yX12_operator.desc).map (fun d => d.parameters.length) = some 0 := by decide +kernel
set_option maxHeartbeats 40000000 in
set_option maxRecDepth 100000 in
theorem c_x_operator (l : Launch) (dC : Nat → ClassId) (dI : Nat → Nat → Nat) (cy : Nat → ClassId) (a : Nat → Nat) (k0 : Nat) (L0 : Nat → Int32) (σ0 : MS) (r0 : Int32 × MS) (h0 : x_operator k0 0 L0 σ0 = some r0) (sz : Nat) : Met l yX12_operator w_x_operator ({ frames := 0, cells := 0, slots := 0, locals := 0 }) (va_Pc [.ref (a 0)] (nIn (dC, dI) cy sz (vM cy a σ0))) (va_Qi (fun (z : Int32) (_ : Unit) => z = r0.1) (fun _ t => nOut (dC, dI) cy (va_A (vM cy a σ0) sz) (vM cy a r0.2) t) (va_A (vM cy a σ0) sz)) 0 0 (va_A (vM cy a σ0) sz) := by
  refine Met.ofW (cc := cX12_operator) (maxL := 1) (ret := (some .int)) (by decide) rfl ?_
  intro p e s m args below meth c s₁ B hml hv
  obtain ⟨rfl, hsz, hP, hK, hD0, hG⟩ := hv
  have hx := B.exec
  have hb := B.bytes
  have hr := B.returns
  have hts := atoms_spec (ws := w_x_operator) B.pre
  have hown : s.vm.findClass RX12 = some m.cls := findClass_of_methodNamed B.named
  have hlocks := B.notSynchronized
  subst hsz
  have hD := hD0.self (sz := s.heap.size)
  generalize hAe : va_A (vM cy a σ0) s.heap.size = A at hD ⊢
  have hA : ∀ q : Nat, s.heap.size ≤ q → A q := fun q h => by rw [← hAe]; exact Or.inr h
  have hS : va_S A s.heap s.heap [] := va_S.rf
  have hl := lv_entry ([.ref (a 0)]) (n := 1) (Nat.le_of_ble_eq_true rfl)
  rw [lg_entry_eq]
  generalize (lg_sl ([.ref (a 0)]) ++ List.replicate (1 - (lg_sl ([.ref (a 0)])).length) Slot.unset).toArray = ls at hl ⊢
  have hl : lv_has ls 1 [(0, .ref (a 0))] := hl
  have blk : ∀ k : Nat, (bT p l e (headSpec w_x_operator ({ frames := 0, cells := 0, slots := 0, locals := 0 })).room s m #[.ref (a 0)] below meth c dC dI cy a A (qI dC dI cy a A below #[.ref (a 0)] s) 1 (x_operator k 0) (fun L => [(0, .ref (a 0))]) 0 (fun L => [])) ∧ (bT p l e (headSpec w_x_operator ({ frames := 0, cells := 0, slots := 0, locals := 0 })).room s m #[.ref (a 0)] below meth c dC dI cy a A (qI dC dI cy a A below #[.ref (a 0)] s) 1 (x_operator k 1) (fun L => [(0, .ref (a 0))]) 15 (fun L => [])) ∧ (bT p l e (headSpec w_x_operator ({ frames := 0, cells := 0, slots := 0, locals := 0 })).room s m #[.ref (a 0)] below meth c dC dI cy a A (qI dC dI cy a A below #[.ref (a 0)] s) 1 (x_operator k 2) (fun L => [(0, .ref (a 0))]) 22 (fun L => [.int (L 100)])) := by
    intro k
    induction k with
    | zero => exact ⟨fun L σ r h => (by cases h), fun L σ r h => (by cases h), fun L σ r h => (by cases h)⟩
    | succ k ih =>
      refine ⟨?_, ?_, ?_⟩
      · intro L σ r h H locs ls hP hD hS hl
        rw [x_operator] at h
        refine lv_aload_n hx hb dX12_operator_0 rfl (lv_at hl 0 rfl) ?_
        refine ng_6 hx hb hts in_x_operator hown hK hP (hts _ (List.mem_cons_of_mem _ (List.mem_append_left _ (List.mem_append_left _ (List.mem_of_getElem? (i := 0) rfl))))) dX12_operator_1 ?_
        refine lv_iconst (v := 4) hx hb dX12_operator_4 (by decide) ?_
        refine lv_icmp_ne (tgt := 15) hx hb dX12_operator_5 (by decide) (fun c1 => ?_) (fun c1 => ?_)
        · rw [if_neg c1] at h
          exact ih.2.1 L σ r h H locs ls hP hD hS (lv_sub hl [0] rfl)
        · rw [if_pos c1] at h
          refine lv_aload_n hx hb dX12_operator_8 rfl (lv_at hl 0 rfl) ?_
          refine ng_7 hx hb hts in_x_operator hown hK hP (hts _ (List.mem_cons_of_mem _ (List.mem_append_left _ (List.mem_append_left _ (List.mem_of_getElem? (i := 1) rfl))))) dX12_operator_9 ?_
          refine lv_goto (tgt := 22) hx hb dX12_operator_12 (by decide) ?_
          exact ih.2.2 (upd L 100 ((σ.1 7))) σ r h H locs ls hP hD hS (lv_sub hl [0] rfl)
      · intro L σ r h H locs ls hP hD hS hl
        rw [x_operator] at h
        refine lv_bipush (v := 100) hx hb dX12_operator_15 (by decide) ?_
        refine lv_aload_n hx hb dX12_operator_17 rfl (lv_at hl 0 rfl) ?_
        refine ng_7 hx hb hts in_x_operator hown hK hP (hts _ (List.mem_cons_of_mem _ (List.mem_append_left _ (List.mem_append_left _ (List.mem_of_getElem? (i := 1) rfl))))) dX12_operator_18 ?_
        refine lv_iadd hx hb dX12_operator_21 ?_
        exact ih.2.2 (upd L 100 ((100 + ((σ.1 7))))) σ r h H locs ls hP hD hS (lv_sub hl [0] rfl)
      · intro L σ r h H locs ls hP hD hS hl
        rw [x_operator] at h
        cases h
        exact W.iret (v := (L 100)) hx hb hr (fun t ht hW => ⟨⟨(L 100), (), rfl, rfl, by rw [ht]; exact hP, va_K.moved hW.alike hK, hD⟩, hS.F ht⟩) hS.2.2 dX12_operator_22
  exact (blk k0).1 L0 σ0 r0 h0 s.heap [] ls hP hD hS hl
/-! tellName -/
def x_tellName : Nat → Nat → (Nat → Int32) → MS → Option (Int32 × MS)
  | 0, _, _, _ => none
  | k + 1, 0, L, σ => ob (x_wantName k 0 (fun _ => 0) σ) (fun r1 => if ((r1.2.1 10)) = 0 then (x_tellName k 1 L r1.2) else (some (0, r1.2)))
  | k + 1, 1, L, σ => x_tellName k 2 (upd L 3 ((L 1))) σ
  | k + 1, 2, L, σ => if ((σ.1 52)) ≤ ((L 3)) then (x_tellName k 4 L σ) else (if ¬ (((L 3)) < 0 ∨ 4000 ≤ ((L 3)).toNatClampNeg) then (if ¬ (((L 3)) < 0 ∨ 4000 ≤ ((L 3)).toNatClampNeg) then (ob (x_isNamed k 0 (upd (upd (fun _ => 0) 1 ((σ.2.2 25 ((L 3)).toNatClampNeg))) 2 ((σ.2.2 26 ((L 3)).toNatClampNeg))) σ) (fun r4 => if r4.1 = 0 then (x_tellName k 3 L r4.2) else (ob (x_fault k 0 (upd (upd (fun _ => 0) 1 4) 2 ((r4.2.1 8))) r4.2) (fun r6 => x_tellName k 3 L r6.2)))) else none) else none)
  | k + 1, 3, L, σ => x_tellName k 2 (upd L 3 (((L 3)) + 1)) σ
  | k + 1, 4, L, σ => if ((σ.1 10)) = 0 then (x_tellName k 5 L σ) else (x_tellName k 6 (upd L 100 0) σ)
  | k + 1, 5, L, σ => ob (x_newSlot k 0 (upd (fun _ => 0) 1 ((L 2))) σ) (fun r1 => x_tellName k 6 (upd L 100 r1.1) r1.2)
  | k + 1, 6, L, σ => if ((σ.1 10)) = 0 then (x_tellName k 7 (upd L 3 ((L 100))) σ) else (some (0, σ))
  | k + 1, 7, L, σ => ob (x_keep k 0 (upd (upd (fun _ => 0) 1 ((σ.1 8))) 2 ((σ.1 9))) σ) (fun r1 => if ¬ (((σ.1 52)) < 0 ∨ 4000 ≤ ((σ.1 52)).toNatClampNeg) then (x_tellName k 8 L (r1.2.1, r1.2.2.1, updG r1.2.2.2 25 (upd (r1.2.2.2 25) ((σ.1 52)).toNatClampNeg r1.1))) else none)
  | k + 1, 8, L, σ => if ¬ (((σ.1 52)) < 0 ∨ 4000 ≤ ((σ.1 52)).toNatClampNeg) then (x_tellName k 9 L (σ.1, σ.2.1, updG σ.2.2 26 (upd (σ.2.2 26) ((σ.1 52)).toNatClampNeg ((((σ.1 9)) - ((σ.1 8))))))) else none
  | k + 1, 9, L, σ => if ¬ (((σ.1 52)) < 0 ∨ 4000 ≤ ((σ.1 52)).toNatClampNeg) then (x_tellName k 10 L (σ.1, σ.2.1, updG σ.2.2 27 (upd (σ.2.2 27) ((σ.1 52)).toNatClampNeg ((L 3))))) else none
  | k + 1, 10, L, σ => x_tellName k 11 L (upd σ.1 52 ((((σ.1 52)) + 1)), σ.2.1, σ.2.2)
  | k + 1, 11, L, σ => if ((σ.1 37)) ≤ 0 then (x_tellName k 12 (upd L 100 31) σ) else (x_tellName k 13 (upd (upd L 100 1) 101 31) σ)
  | k + 1, 12, L, σ => x_tellName k 13 (upd (upd L 100 0) 101 ((L 100))) σ
  | k + 1, 13, L, σ => ob (x_node k 0 (upd (upd (upd (upd (fun _ => 0) 1 ((L 101))) 2 ((L 100))) 3 ((L 3))) 4 0) σ) (fun r1 => ob (x_take k 0 (fun _ => 0) r1.2) (fun r2 => some (r1.1, r2.2)))
  | _ + 1, _ + 14, _, _ => none
def o_x_tellName : List Cond := [.methodLink RX12 279 yX12_wantName, .instanceMethod yX12_wantName, .selects RX12 yX12_wantName yX12_wantName, .initialized RX12, .fieldLink RX12 11 "SetHouseModel" "bad" "Z", .fieldLink RX12 256 "SetHouseModel" "rowNames" "I", .fieldLink RX12 266 "SetHouseModel" "rowFrom" "[I", .fieldLink RX12 269 "SetHouseModel" "rowSize" "[I", .methodLink RX12 123 yX12_isNamed, .instanceMethod yX12_isNamed, .selects RX12 yX12_isNamed yX12_isNamed, .fieldLink RX12 32 "SetHouseModel" "tFrom" "I", .methodLink RX12 58 yX12_fault, .instanceMethod yX12_fault, .selects RX12 yX12_fault yX12_fault, .methodLink RX12 282 yX12_newSlot, .instanceMethod yX12_newSlot, .selects RX12 yX12_newSlot yX12_newSlot, .fieldLink RX12 55 "SetHouseModel" "tTo" "I", .methodLink RX12 154 yX12_keep, .instanceMethod yX12_keep, .selects RX12 yX12_keep yX12_keep, .fieldLink RX12 272 "SetHouseModel" "rowSlot" "[I", .fieldLink RX12 133 "SetHouseModel" "owner" "I", .methodLink RX12 101 yX12_node, .instanceMethod yX12_node, .selects RX12 yX12_node yX12_node, .methodLink RX12 71 yX12_take, .instanceMethod yX12_take, .selects RX12 yX12_take yX12_take]
theorem o_x_tellName_good : o_x_tellName.all goodWord = true := by decide +kernel
def p_x_tellName : List Cond := o_x_tellName ++ ((.code yX12_wantName cX12_wantName 1 none :: p_x_wantName) ++ ((.code yX12_isNamed cX12_isNamed 4 (some .boolean) :: p_x_isNamed) ++ ((.code yX12_fault cX12_fault 3 none :: p_x_fault) ++ ((.code yX12_newSlot cX12_newSlot 2 (some .int) :: p_x_newSlot) ++ ((.code yX12_keep cX12_keep 5 (some .int) :: p_x_keep) ++ ((.code yX12_node cX12_node 6 (some .int) :: p_x_node) ++ ((.code yX12_take cX12_take 2 none :: p_x_take) ++ [])))))))
theorem p_x_tellName_good : p_x_tellName.all goodWord = true := nb_all2 o_x_tellName_good (nb_all2 (nb_allc (by decide +kernel) p_x_wantName_good) (nb_all2 (nb_allc (by decide +kernel) p_x_isNamed_good) (nb_all2 (nb_allc (by decide +kernel) p_x_fault_good) (nb_all2 (nb_allc (by decide +kernel) p_x_newSlot_good) (nb_all2 (nb_allc (by decide +kernel) p_x_keep_good) (nb_all2 (nb_allc (by decide +kernel) p_x_node_good) (nb_all2 (nb_allc (by decide +kernel) p_x_take_good) rfl)))))))
def w_x_tellName : List Cond := .code yX12_tellName cX12_tellName 5 (some .int) :: (p_x_tellName ++ fM)
theorem w_x_tellName_good : w_x_tellName.all goodWord = true := nb_allc (by decide +kernel) (nb_all2 p_x_tellName_good fM_good)
theorem in_x_tellName : ∀ w ∈ wsX120, w ∈ w_x_tellName := fun _ h => List.mem_cons_of_mem _ (List.mem_append_right _ h)
theorem hd_x_tellName : yX12_tellName.cls = RX12 ∧ yX12_tellName.cls ≠ "java/lang/invoke/MethodHandle" ∧ yX12_tellName.cls ≠ "java/lang/invoke/VarHandle" ∧ (parseMethodDescriptor yX12_tellName.desc).map (fun d => d.parameters.length) = some 2 := by decide +kernel
theorem gg_x_tellName_fault : GoodIn w_x_tellName w_x_fault := goodIn_sub (fun w h => (List.mem_cons.mp h).elim (fun e => (List.mem_cons_of_mem _ (List.mem_append_left _ (List.mem_append_right _ (List.mem_append_right _ (List.mem_append_right _ (List.mem_append_left _ (List.mem_cons.mpr (Or.inl e))))))))) (fun h => (List.mem_append.mp h).elim (fun h => (List.mem_cons_of_mem _ (List.mem_append_left _ (List.mem_append_right _ (List.mem_append_right _ (List.mem_append_right _ (List.mem_append_left _ (List.mem_cons_of_mem _ h)))))))) (fun h => List.mem_cons_of_mem _ (List.mem_append_right _ h)))) w_x_fault_good
theorem g_x_tellName_fault_58 : GoodIn w_x_tellName (wsV RX12 58 RX12 yX12_fault w_x_fault) := goodIn_app (nb_g4 (List.mem_cons_of_mem _ (List.mem_append_left _ (List.mem_append_left _ (List.mem_of_getElem? (i := 12) rfl)))) (List.mem_cons_of_mem _ (List.mem_append_left _ (List.mem_append_left _ (List.mem_of_getElem? (i := 13) rfl)))) (List.mem_cons_of_mem _ (List.mem_append_left _ (List.mem_append_left _ (List.mem_of_getElem? (i := 14) rfl)))) (List.mem_cons_of_mem _ (List.mem_append_left _ (List.mem_append_left _ (List.mem_of_getElem? (i := 3) rfl)))) (by decide +kernel)) gg_x_tellName_fault
theorem gg_x_tellName_isNamed : GoodIn w_x_tellName w_x_isNamed := goodIn_sub (fun w h => (List.mem_cons.mp h).elim (fun e => (List.mem_cons_of_mem _ (List.mem_append_left _ (List.mem_append_right _ (List.mem_append_right _ (List.mem_append_left _ (List.mem_cons.mpr (Or.inl e)))))))) (fun h => (List.mem_append.mp h).elim (fun h => (List.mem_cons_of_mem _ (List.mem_append_left _ (List.mem_append_right _ (List.mem_append_right _ (List.mem_append_left _ (List.mem_cons_of_mem _ h))))))) (fun h => List.mem_cons_of_mem _ (List.mem_append_right _ h)))) w_x_isNamed_good
theorem g_x_tellName_isNamed_123 : GoodIn w_x_tellName (wsV RX12 123 RX12 yX12_isNamed w_x_isNamed) := goodIn_app (nb_g4 (List.mem_cons_of_mem _ (List.mem_append_left _ (List.mem_append_left _ (List.mem_of_getElem? (i := 8) rfl)))) (List.mem_cons_of_mem _ (List.mem_append_left _ (List.mem_append_left _ (List.mem_of_getElem? (i := 9) rfl)))) (List.mem_cons_of_mem _ (List.mem_append_left _ (List.mem_append_left _ (List.mem_of_getElem? (i := 10) rfl)))) (List.mem_cons_of_mem _ (List.mem_append_left _ (List.mem_append_left _ (List.mem_of_getElem? (i := 3) rfl)))) (by decide +kernel)) gg_x_tellName_isNamed
theorem gg_x_tellName_keep : GoodIn w_x_tellName w_x_keep := goodIn_sub (fun w h => (List.mem_cons.mp h).elim (fun e => (List.mem_cons_of_mem _ (List.mem_append_left _ (List.mem_append_right _ (List.mem_append_right _ (List.mem_append_right _ (List.mem_append_right _ (List.mem_append_right _ (List.mem_append_left _ (List.mem_cons.mpr (Or.inl e))))))))))) (fun h => (List.mem_append.mp h).elim (fun h => (List.mem_cons_of_mem _ (List.mem_append_left _ (List.mem_append_right _ (List.mem_append_right _ (List.mem_append_right _ (List.mem_append_right _ (List.mem_append_right _ (List.mem_append_left _ (List.mem_cons_of_mem _ h)))))))))) (fun h => List.mem_cons_of_mem _ (List.mem_append_right _ h)))) w_x_keep_good
theorem g_x_tellName_keep_154 : GoodIn w_x_tellName (wsV RX12 154 RX12 yX12_keep w_x_keep) := goodIn_app (nb_g4 (List.mem_cons_of_mem _ (List.mem_append_left _ (List.mem_append_left _ (List.mem_of_getElem? (i := 19) rfl)))) (List.mem_cons_of_mem _ (List.mem_append_left _ (List.mem_append_left _ (List.mem_of_getElem? (i := 20) rfl)))) (List.mem_cons_of_mem _ (List.mem_append_left _ (List.mem_append_left _ (List.mem_of_getElem? (i := 21) rfl)))) (List.mem_cons_of_mem _ (List.mem_append_left _ (List.mem_append_left _ (List.mem_of_getElem? (i := 3) rfl)))) (by decide +kernel)) gg_x_tellName_keep
theorem gg_x_tellName_newSlot : GoodIn w_x_tellName w_x_newSlot := goodIn_sub (fun w h => (List.mem_cons.mp h).elim (fun e => (List.mem_cons_of_mem _ (List.mem_append_left _ (List.mem_append_right _ (List.mem_append_right _ (List.mem_append_right _ (List.mem_append_right _ (List.mem_append_left _ (List.mem_cons.mpr (Or.inl e)))))))))) (fun h => (List.mem_append.mp h).elim (fun h => (List.mem_cons_of_mem _ (List.mem_append_left _ (List.mem_append_right _ (List.mem_append_right _ (List.mem_append_right _ (List.mem_append_right _ (List.mem_append_left _ (List.mem_cons_of_mem _ h))))))))) (fun h => List.mem_cons_of_mem _ (List.mem_append_right _ h)))) w_x_newSlot_good
theorem g_x_tellName_newSlot_282 : GoodIn w_x_tellName (wsV RX12 282 RX12 yX12_newSlot w_x_newSlot) := goodIn_app (nb_g4 (List.mem_cons_of_mem _ (List.mem_append_left _ (List.mem_append_left _ (List.mem_of_getElem? (i := 15) rfl)))) (List.mem_cons_of_mem _ (List.mem_append_left _ (List.mem_append_left _ (List.mem_of_getElem? (i := 16) rfl)))) (List.mem_cons_of_mem _ (List.mem_append_left _ (List.mem_append_left _ (List.mem_of_getElem? (i := 17) rfl)))) (List.mem_cons_of_mem _ (List.mem_append_left _ (List.mem_append_left _ (List.mem_of_getElem? (i := 3) rfl)))) (by decide +kernel)) gg_x_tellName_newSlot
theorem gg_x_tellName_node : GoodIn w_x_tellName w_x_node := goodIn_sub (fun w h => (List.mem_cons.mp h).elim (fun e => (List.mem_cons_of_mem _ (List.mem_append_left _ (List.mem_append_right _ (List.mem_append_right _ (List.mem_append_right _ (List.mem_append_right _ (List.mem_append_right _ (List.mem_append_right _ (List.mem_append_left _ (List.mem_cons.mpr (Or.inl e)))))))))))) (fun h => (List.mem_append.mp h).elim (fun h => (List.mem_cons_of_mem _ (List.mem_append_left _ (List.mem_append_right _ (List.mem_append_right _ (List.mem_append_right _ (List.mem_append_right _ (List.mem_append_right _ (List.mem_append_right _ (List.mem_append_left _ (List.mem_cons_of_mem _ h))))))))))) (fun h => List.mem_cons_of_mem _ (List.mem_append_right _ h)))) w_x_node_good
theorem g_x_tellName_node_101 : GoodIn w_x_tellName (wsV RX12 101 RX12 yX12_node w_x_node) := goodIn_app (nb_g4 (List.mem_cons_of_mem _ (List.mem_append_left _ (List.mem_append_left _ (List.mem_of_getElem? (i := 24) rfl)))) (List.mem_cons_of_mem _ (List.mem_append_left _ (List.mem_append_left _ (List.mem_of_getElem? (i := 25) rfl)))) (List.mem_cons_of_mem _ (List.mem_append_left _ (List.mem_append_left _ (List.mem_of_getElem? (i := 26) rfl)))) (List.mem_cons_of_mem _ (List.mem_append_left _ (List.mem_append_left _ (List.mem_of_getElem? (i := 3) rfl)))) (by decide +kernel)) gg_x_tellName_node
theorem gg_x_tellName_take : GoodIn w_x_tellName w_x_take := goodIn_sub (fun w h => (List.mem_cons.mp h).elim (fun e => (List.mem_cons_of_mem _ (List.mem_append_left _ (List.mem_append_right _ (List.mem_append_right _ (List.mem_append_right _ (List.mem_append_right _ (List.mem_append_right _ (List.mem_append_right _ (List.mem_append_right _ (List.mem_append_left _ (List.mem_cons.mpr (Or.inl e))))))))))))) (fun h => (List.mem_append.mp h).elim (fun h => (List.mem_cons_of_mem _ (List.mem_append_left _ (List.mem_append_right _ (List.mem_append_right _ (List.mem_append_right _ (List.mem_append_right _ (List.mem_append_right _ (List.mem_append_right _ (List.mem_append_right _ (List.mem_append_left _ (List.mem_cons_of_mem _ h)))))))))))) (fun h => List.mem_cons_of_mem _ (List.mem_append_right _ h)))) w_x_take_good
theorem g_x_tellName_take_71 : GoodIn w_x_tellName (wsV RX12 71 RX12 yX12_take w_x_take) := goodIn_app (nb_g4 (List.mem_cons_of_mem _ (List.mem_append_left _ (List.mem_append_left _ (List.mem_of_getElem? (i := 27) rfl)))) (List.mem_cons_of_mem _ (List.mem_append_left _ (List.mem_append_left _ (List.mem_of_getElem? (i := 28) rfl)))) (List.mem_cons_of_mem _ (List.mem_append_left _ (List.mem_append_left _ (List.mem_of_getElem? (i := 29) rfl)))) (List.mem_cons_of_mem _ (List.mem_append_left _ (List.mem_append_left _ (List.mem_of_getElem? (i := 3) rfl)))) (by decide +kernel)) gg_x_tellName_take
theorem gg_x_tellName_wantName : GoodIn w_x_tellName w_x_wantName := goodIn_sub (fun w h => (List.mem_cons.mp h).elim (fun e => (List.mem_cons_of_mem _ (List.mem_append_left _ (List.mem_append_right _ (List.mem_append_left _ (List.mem_cons.mpr (Or.inl e))))))) (fun h => (List.mem_append.mp h).elim (fun h => (List.mem_cons_of_mem _ (List.mem_append_left _ (List.mem_append_right _ (List.mem_append_left _ (List.mem_cons_of_mem _ h)))))) (fun h => List.mem_cons_of_mem _ (List.mem_append_right _ h)))) w_x_wantName_good
theorem g_x_tellName_wantName_279 : GoodIn w_x_tellName (wsV RX12 279 RX12 yX12_wantName w_x_wantName) := goodIn_app (nb_g4 (List.mem_cons_of_mem _ (List.mem_append_left _ (List.mem_append_left _ (List.mem_of_getElem? (i := 0) rfl)))) (List.mem_cons_of_mem _ (List.mem_append_left _ (List.mem_append_left _ (List.mem_of_getElem? (i := 1) rfl)))) (List.mem_cons_of_mem _ (List.mem_append_left _ (List.mem_append_left _ (List.mem_of_getElem? (i := 2) rfl)))) (List.mem_cons_of_mem _ (List.mem_append_left _ (List.mem_append_left _ (List.mem_of_getElem? (i := 3) rfl)))) (by decide +kernel)) gg_x_tellName_wantName
set_option maxHeartbeats 40000000 in
set_option maxRecDepth 100000 in
theorem c_x_tellName (l : Launch) (dC : Nat → ClassId) (dI : Nat → Nat → Nat) (cy : Nat → ClassId) (a : Nat → Nat) (k0 : Nat) (L0 : Nat → Int32) (σ0 : MS) (r0 : Int32 × MS) (h0 : x_tellName k0 0 L0 σ0 = some r0) (sz : Nat) : Met l yX12_tellName w_x_tellName ({ frames := 3, cells := 0, slots := 0, locals := 64 }) (va_Pc [.ref (a 0), .int (L0 1), .int (L0 2)] (nIn (dC, dI) cy sz (vM cy a σ0))) (va_Qi (fun (z : Int32) (_ : Unit) => z = r0.1) (fun _ t => nOut (dC, dI) cy (va_A (vM cy a σ0) sz) (vM cy a r0.2) t) (va_A (vM cy a σ0) sz)) 0 0 (va_A (vM cy a σ0) sz) := by
  refine Met.ofW (cc := cX12_tellName) (maxL := 5) (ret := (some .int)) (by decide) rfl ?_
  intro p e s m args below meth c s₁ B hml hv
  obtain ⟨rfl, hsz, hP, hK, hD0, hG⟩ := hv
  have hx := B.exec
  have hb := B.bytes
  have hr := B.returns
  have hts := atoms_spec (ws := w_x_tellName) B.pre
  have hown : s.vm.findClass RX12 = some m.cls := findClass_of_methodNamed B.named
  have hlocks := B.notSynchronized
  subst hsz
  have hD := hD0.self (sz := s.heap.size)
  generalize hAe : va_A (vM cy a σ0) s.heap.size = A at hD ⊢
  have hA : ∀ q : Nat, s.heap.size ≤ q → A q := fun q h => by rw [← hAe]; exact Or.inr h
  have hS : va_S A s.heap s.heap [] := va_S.rf
  have hl := lv_entry ([.ref (a 0), .int (L0 1), .int (L0 2)]) (n := 5) (Nat.le_of_ble_eq_true rfl)
  rw [lg_entry_eq]
  generalize (lg_sl ([.ref (a 0), .int (L0 1), .int (L0 2)]) ++ List.replicate (5 - (lg_sl ([.ref (a 0), .int (L0 1), .int (L0 2)])).length) Slot.unset).toArray = ls at hl ⊢
  have hl : lv_has ls 5 [(0, .ref (a 0)), (1, .int (L0 1)), (2, .int (L0 2))] := hl
  have blk : ∀ k : Nat, (bT p l e (headSpec w_x_tellName ({ frames := 3, cells := 0, slots := 0, locals := 64 })).room s m #[.ref (a 0), .int (L0 1), .int (L0 2)] below meth c dC dI cy a A (qI dC dI cy a A below #[.ref (a 0), .int (L0 1), .int (L0 2)] s) 5 (x_tellName k 0) (fun L => [(0, .ref (a 0)), (1, .int (L 1)), (2, .int (L 2))]) 0 (fun L => [])) ∧ (bT p l e (headSpec w_x_tellName ({ frames := 3, cells := 0, slots := 0, locals := 64 })).room s m #[.ref (a 0), .int (L0 1), .int (L0 2)] below meth c dC dI cy a A (qI dC dI cy a A below #[.ref (a 0), .int (L0 1), .int (L0 2)] s) 5 (x_tellName k 1) (fun L => [(0, .ref (a 0)), (1, .int (L 1)), (2, .int (L 2))]) 13 (fun L => [])) ∧ (bT p l e (headSpec w_x_tellName ({ frames := 3, cells := 0, slots := 0, locals := 64 })).room s m #[.ref (a 0), .int (L0 1), .int (L0 2)] below meth c dC dI cy a A (qI dC dI cy a A below #[.ref (a 0), .int (L0 1), .int (L0 2)] s) 5 (x_tellName k 2) (fun L => [(0, .ref (a 0)), (1, .int (L 1)), (2, .int (L 2)), (3, .int (L 3))]) 15 (fun L => [])) ∧ (bT p l e (headSpec w_x_tellName ({ frames := 3, cells := 0, slots := 0, locals := 64 })).room s m #[.ref (a 0), .int (L0 1), .int (L0 2)] below meth c dC dI cy a A (qI dC dI cy a A below #[.ref (a 0), .int (L0 1), .int (L0 2)] s) 5 (x_tellName k 3) (fun L => [(0, .ref (a 0)), (1, .int (L 1)), (2, .int (L 2)), (3, .int (L 3))]) 51 (fun L => [])) ∧ (bT p l e (headSpec w_x_tellName ({ frames := 3, cells := 0, slots := 0, locals := 64 })).room s m #[.ref (a 0), .int (L0 1), .int (L0 2)] below meth c dC dI cy a A (qI dC dI cy a A below #[.ref (a 0), .int (L0 1), .int (L0 2)] s) 5 (x_tellName k 4) (fun L => [(0, .ref (a 0)), (1, .int (L 1)), (2, .int (L 2)), (3, .int (L 3))]) 57 (fun L => [])) ∧ (bT p l e (headSpec w_x_tellName ({ frames := 3, cells := 0, slots := 0, locals := 64 })).room s m #[.ref (a 0), .int (L0 1), .int (L0 2)] below meth c dC dI cy a A (qI dC dI cy a A below #[.ref (a 0), .int (L0 1), .int (L0 2)] s) 5 (x_tellName k 5) (fun L => [(0, .ref (a 0)), (1, .int (L 1)), (2, .int (L 2)), (3, .int (L 3))]) 68 (fun L => [])) ∧ (bT p l e (headSpec w_x_tellName ({ frames := 3, cells := 0, slots := 0, locals := 64 })).room s m #[.ref (a 0), .int (L0 1), .int (L0 2)] below meth c dC dI cy a A (qI dC dI cy a A below #[.ref (a 0), .int (L0 1), .int (L0 2)] s) 5 (x_tellName k 6) (fun L => [(0, .ref (a 0)), (1, .int (L 1)), (2, .int (L 2)), (3, .int (L 3))]) 73 (fun L => [.int (L 100)])) ∧ (bT p l e (headSpec w_x_tellName ({ frames := 3, cells := 0, slots := 0, locals := 64 })).room s m #[.ref (a 0), .int (L0 1), .int (L0 2)] below meth c dC dI cy a A (qI dC dI cy a A below #[.ref (a 0), .int (L0 1), .int (L0 2)] s) 5 (x_tellName k 7) (fun L => [(0, .ref (a 0)), (1, .int (L 1)), (2, .int (L 2)), (3, .int (L 3))]) 83 (fun L => [])) ∧ (bT p l e (headSpec w_x_tellName ({ frames := 3, cells := 0, slots := 0, locals := 64 })).room s m #[.ref (a 0), .int (L0 1), .int (L0 2)] below meth c dC dI cy a A (qI dC dI cy a A below #[.ref (a 0), .int (L0 1), .int (L0 2)] s) 5 (x_tellName k 8) (fun L => [(0, .ref (a 0)), (1, .int (L 1)), (2, .int (L 2)), (3, .int (L 3))]) 104 (fun L => [])) ∧ (bT p l e (headSpec w_x_tellName ({ frames := 3, cells := 0, slots := 0, locals := 64 })).room s m #[.ref (a 0), .int (L0 1), .int (L0 2)] below meth c dC dI cy a A (qI dC dI cy a A below #[.ref (a 0), .int (L0 1), .int (L0 2)] s) 5 (x_tellName k 9) (fun L => [(0, .ref (a 0)), (1, .int (L 1)), (2, .int (L 2)), (3, .int (L 3))]) 122 (fun L => [])) ∧ (bT p l e (headSpec w_x_tellName ({ frames := 3, cells := 0, slots := 0, locals := 64 })).room s m #[.ref (a 0), .int (L0 1), .int (L0 2)] below meth c dC dI cy a A (qI dC dI cy a A below #[.ref (a 0), .int (L0 1), .int (L0 2)] s) 5 (x_tellName k 10) (fun L => [(0, .ref (a 0)), (1, .int (L 1)), (2, .int (L 2)), (3, .int (L 3))]) 132 (fun L => [])) ∧ (bT p l e (headSpec w_x_tellName ({ frames := 3, cells := 0, slots := 0, locals := 64 })).room s m #[.ref (a 0), .int (L0 1), .int (L0 2)] below meth c dC dI cy a A (qI dC dI cy a A below #[.ref (a 0), .int (L0 1), .int (L0 2)] s) 5 (x_tellName k 11) (fun L => [(0, .ref (a 0)), (1, .int (L 1)), (2, .int (L 2)), (3, .int (L 3))]) 142 (fun L => [])) ∧ (bT p l e (headSpec w_x_tellName ({ frames := 3, cells := 0, slots := 0, locals := 64 })).room s m #[.ref (a 0), .int (L0 1), .int (L0 2)] below meth c dC dI cy a A (qI dC dI cy a A below #[.ref (a 0), .int (L0 1), .int (L0 2)] s) 5 (x_tellName k 12) (fun L => [(0, .ref (a 0)), (1, .int (L 1)), (2, .int (L 2)), (3, .int (L 3))]) 156 (fun L => [.int (L 100), .ref (a 0)])) ∧ (bT p l e (headSpec w_x_tellName ({ frames := 3, cells := 0, slots := 0, locals := 64 })).room s m #[.ref (a 0), .int (L0 1), .int (L0 2)] below meth c dC dI cy a A (qI dC dI cy a A below #[.ref (a 0), .int (L0 1), .int (L0 2)] s) 5 (x_tellName k 13) (fun L => [(0, .ref (a 0)), (1, .int (L 1)), (2, .int (L 2)), (3, .int (L 3))]) 157 (fun L => [.int (L 100), .int (L 101), .ref (a 0)])) := by
    intro k
    induction k with
    | zero => exact ⟨fun L σ r h => (by cases h), fun L σ r h => (by cases h), fun L σ r h => (by cases h), fun L σ r h => (by cases h), fun L σ r h => (by cases h), fun L σ r h => (by cases h), fun L σ r h => (by cases h), fun L σ r h => (by cases h), fun L σ r h => (by cases h), fun L σ r h => (by cases h), fun L σ r h => (by cases h), fun L σ r h => (by cases h), fun L σ r h => (by cases h), fun L σ r h => (by cases h)⟩
    | succ k ih =>
      refine ⟨?_, ?_, ?_, ?_, ?_, ?_, ?_, ?_, ?_, ?_, ?_, ?_, ?_, ?_⟩
      · intro L σ r h H locs ls hP hD hS hl
        rw [x_tellName] at h
        refine lv_aload_n hx hb dX12_tellName_0 rfl (lv_at hl 0 rfl) ?_
        obtain ⟨r1, hc1, h⟩ := ob_ex h
        refine nc_Vv (As := []) (rest := []) ⟨hx, hb, hml, hown, hts⟩ (c_x_wantName l dC dI cy a k (fun _ => 0) σ r1 hc1 H.size) (cwV 0 hts g_x_tellName_wantName_279 rfl rfl rfl hd_x_wantName ⟨Nat.le_of_ble_eq_true rfl, Nat.le_of_ble_eq_true rfl⟩) hK hG hA hP hD hS rfl hl.1 rfl (Nat.le_of_ble_eq_true rfl) dX12_tellName_1 ⟨Nat.le_refl _, Nat.le_refl _⟩ (fun H locs hP hD hS => ?_)
        refine lv_aload_n hx hb dX12_tellName_4 rfl (lv_at hl 0 rfl) ?_
        refine ng_10 hx hb hts in_x_tellName hown hK hP (hts _ (List.mem_cons_of_mem _ (List.mem_append_left _ (List.mem_append_left _ (List.mem_of_getElem? (i := 4) rfl))))) dX12_tellName_5 ?_
        refine lv_if_eq (tgt := 13) hx hb dX12_tellName_8 (by decide) (fun c2 => ?_) (fun c2 => ?_)
        · rw [if_pos c2] at h
          exact ih.2.1 L r1.2 r h H locs ls hP hD hS (lv_sub hl [0, 1, 2] rfl)
        · rw [if_neg c2] at h
          refine lv_iconst (v := 0) hx hb dX12_tellName_11 (by decide) ?_
          cases h
          exact W.iret (v := 0) hx hb hr (fun t ht hW => ⟨⟨0, (), rfl, rfl, by rw [ht]; exact hP, va_K.moved hW.alike hK, hD⟩, hS.F ht⟩) hS.2.2 dX12_tellName_12
      · intro L σ r h H locs ls hP hD hS hl
        rw [x_tellName] at h
        refine lv_iload_n hx hb dX12_tellName_13 rfl (lv_at hl 1 rfl) ?_
        refine lv_istore_n (lv' := [(3, .int (L 1)), (0, .ref (a 0)), (1, .int (L 1)), (2, .int (L 2))]) hx hb dX12_tellName_14 rfl hl (by decide) rfl (fun ls hl => ?_)
        exact ih.2.2.1 (upd L 3 ((L 1))) σ r h H locs ls hP hD hS (lv_sub hl [1, 2, 3, 0] rfl)
      · intro L σ r h H locs ls hP hD hS hl
        rw [x_tellName] at h
        refine lv_iload_n hx hb dX12_tellName_15 rfl (lv_at hl 3 rfl) ?_
        refine lv_aload_n hx hb dX12_tellName_16 rfl (lv_at hl 0 rfl) ?_
        refine ng_52 hx hb hts in_x_tellName hown hK hP (hts _ (List.mem_cons_of_mem _ (List.mem_append_left _ (List.mem_append_left _ (List.mem_of_getElem? (i := 5) rfl))))) dX12_tellName_17 ?_
        refine lv_icmp_ge (tgt := 57) hx hb dX12_tellName_20 (by decide) (fun c1 => ?_) (fun c1 => ?_)
        · rw [if_pos c1] at h
          exact ih.2.2.2.2.1 L σ r h H locs ls hP hD hS (lv_sub hl [0, 1, 2, 3] rfl)
        · rw [if_neg c1] at h
          refine lv_aload_n hx hb dX12_tellName_23 rfl (lv_at hl 0 rfl) ?_
          refine lv_aload_n hx hb dX12_tellName_24 rfl (lv_at hl 0 rfl) ?_
          refine ng_49 hx hb hts in_x_tellName hown hK hP (hts _ (List.mem_cons_of_mem _ (List.mem_append_left _ (List.mem_append_left _ (List.mem_of_getElem? (i := 6) rfl))))) dX12_tellName_25 ?_
          refine lv_iload_n hx hb dX12_tellName_28 rfl (lv_at hl 3 rfl) ?_
          obtain ⟨q2, h⟩ := nb_ite1 h
          refine nl_25 hx hb hK hP q2 dX12_tellName_29 ?_
          refine lv_aload_n hx hb dX12_tellName_30 rfl (lv_at hl 0 rfl) ?_
          refine ng_50 hx hb hts in_x_tellName hown hK hP (hts _ (List.mem_cons_of_mem _ (List.mem_append_left _ (List.mem_append_left _ (List.mem_of_getElem? (i := 7) rfl))))) dX12_tellName_31 ?_
          refine lv_iload_n hx hb dX12_tellName_34 rfl (lv_at hl 3 rfl) ?_
          obtain ⟨q3, h⟩ := nb_ite1 h
          refine nl_26 hx hb hK hP q3 dX12_tellName_35 ?_
          obtain ⟨r4, hc4, h⟩ := ob_ex h
          refine nc_Vi (As := [.int (σ.2.2 25 ((L 3)).toNatClampNeg), .int (σ.2.2 26 ((L 3)).toNatClampNeg)]) (rest := []) ⟨hx, hb, hml, hown, hts⟩ (c_x_isNamed l dC dI cy a k (upd (upd (fun _ => 0) 1 ((σ.2.2 25 ((L 3)).toNatClampNeg))) 2 ((σ.2.2 26 ((L 3)).toNatClampNeg))) σ r4 hc4 H.size) (cwV 2 hts g_x_tellName_isNamed_123 rfl rfl rfl hd_x_isNamed ⟨Nat.le_of_ble_eq_true rfl, Nat.le_of_ble_eq_true rfl⟩) hK hG hA hP hD hS rfl hl.1 rfl (Nat.le_of_ble_eq_true rfl) dX12_tellName_36 ⟨Nat.le_refl _, Nat.le_refl _⟩ (fun H locs hP hD hS => ?_)
          refine lv_if_eq (tgt := 51) hx hb dX12_tellName_39 (by decide) (fun c5 => ?_) (fun c5 => ?_)
          · rw [if_pos c5] at h
            exact ih.2.2.2.1 L r4.2 r h H locs ls hP hD hS (lv_sub hl [0, 1, 2, 3] rfl)
          · rw [if_neg c5] at h
            refine lv_aload_n hx hb dX12_tellName_42 rfl (lv_at hl 0 rfl) ?_
            refine lv_iconst (v := 4) hx hb dX12_tellName_43 (by decide) ?_
            refine lv_aload_n hx hb dX12_tellName_44 rfl (lv_at hl 0 rfl) ?_
            refine ng_8 hx hb hts in_x_tellName hown hK hP (hts _ (List.mem_cons_of_mem _ (List.mem_append_left _ (List.mem_append_left _ (List.mem_of_getElem? (i := 11) rfl))))) dX12_tellName_45 ?_
            obtain ⟨r6, hc6, h⟩ := ob_ex h
            refine nc_Vv (As := [.int 4, .int (r4.2.1 8)]) (rest := []) ⟨hx, hb, hml, hown, hts⟩ (c_x_fault l dC dI cy a k (upd (upd (fun _ => 0) 1 4) 2 ((r4.2.1 8))) r4.2 r6 hc6 H.size) (cwV 2 hts g_x_tellName_fault_58 rfl rfl rfl hd_x_fault ⟨Nat.le_of_ble_eq_true rfl, Nat.le_of_ble_eq_true rfl⟩) hK hG hA hP hD hS rfl hl.1 rfl (Nat.le_of_ble_eq_true rfl) dX12_tellName_48 ⟨Nat.le_refl _, Nat.le_refl _⟩ (fun H locs hP hD hS => ?_)
            exact ih.2.2.2.1 L r6.2 r h H locs ls hP hD hS (lv_sub hl [0, 1, 2, 3] rfl)
      · intro L σ r h H locs ls hP hD hS hl
        rw [x_tellName] at h
        refine lv_iinc (v := ((L 3)) + 1) (lv' := [(3, .int (((L 3)) + 1)), (0, .ref (a 0)), (1, .int (L 1)), (2, .int (L 2))]) hx hb dX12_tellName_51 hl (k := 3) rfl rfl (by decide) rfl (fun ls hl => ?_)
        refine lv_goto (tgt := 15) hx hb dX12_tellName_54 (by decide) ?_
        exact ih.2.2.1 (upd L 3 (((L 3)) + 1)) σ r h H locs ls hP hD hS (lv_sub hl [1, 2, 3, 0] rfl)
      · intro L σ r h H locs ls hP hD hS hl
        rw [x_tellName] at h
        refine lv_aload_n hx hb dX12_tellName_57 rfl (lv_at hl 0 rfl) ?_
        refine ng_10 hx hb hts in_x_tellName hown hK hP (hts _ (List.mem_cons_of_mem _ (List.mem_append_left _ (List.mem_append_left _ (List.mem_of_getElem? (i := 4) rfl))))) dX12_tellName_58 ?_
        refine lv_if_eq (tgt := 68) hx hb dX12_tellName_61 (by decide) (fun c1 => ?_) (fun c1 => ?_)
        · rw [if_pos c1] at h
          exact ih.2.2.2.2.2.1 L σ r h H locs ls hP hD hS (lv_sub hl [0, 1, 2, 3] rfl)
        · rw [if_neg c1] at h
          refine lv_iconst (v := 0) hx hb dX12_tellName_64 (by decide) ?_
          refine lv_goto (tgt := 73) hx hb dX12_tellName_65 (by decide) ?_
          exact ih.2.2.2.2.2.2.1 (upd L 100 0) σ r h H locs ls hP hD hS (lv_sub hl [0, 1, 2, 3] rfl)
      · intro L σ r h H locs ls hP hD hS hl
        rw [x_tellName] at h
        refine lv_aload_n hx hb dX12_tellName_68 rfl (lv_at hl 0 rfl) ?_
        refine lv_iload_n hx hb dX12_tellName_69 rfl (lv_at hl 2 rfl) ?_
        obtain ⟨r1, hc1, h⟩ := ob_ex h
        refine nc_Vi (As := [.int (L 2)]) (rest := []) ⟨hx, hb, hml, hown, hts⟩ (c_x_newSlot l dC dI cy a k (upd (fun _ => 0) 1 ((L 2))) σ r1 hc1 H.size) (cwV 1 hts g_x_tellName_newSlot_282 rfl rfl rfl hd_x_newSlot ⟨Nat.le_of_ble_eq_true rfl, Nat.le_of_ble_eq_true rfl⟩) hK hG hA hP hD hS rfl hl.1 rfl (Nat.le_of_ble_eq_true rfl) dX12_tellName_70 ⟨Nat.le_refl _, Nat.le_refl _⟩ (fun H locs hP hD hS => ?_)
        exact ih.2.2.2.2.2.2.1 (upd L 100 r1.1) r1.2 r h H locs ls hP hD hS (lv_sub hl [0, 1, 2, 3] rfl)
      · intro L σ r h H locs ls hP hD hS hl
        rw [x_tellName] at h
        refine lv_istore_n (lv' := [(3, .int (L 100)), (0, .ref (a 0)), (1, .int (L 1)), (2, .int (L 2))]) hx hb dX12_tellName_73 rfl hl (by decide) rfl (fun ls hl => ?_)
        refine lv_aload_n hx hb dX12_tellName_74 rfl (lv_at hl 1 rfl) ?_
        refine ng_10 hx hb hts in_x_tellName hown hK hP (hts _ (List.mem_cons_of_mem _ (List.mem_append_left _ (List.mem_append_left _ (List.mem_of_getElem? (i := 4) rfl))))) dX12_tellName_75 ?_
        refine lv_if_eq (tgt := 83) hx hb dX12_tellName_78 (by decide) (fun c1 => ?_) (fun c1 => ?_)
        · rw [if_pos c1] at h
          exact ih.2.2.2.2.2.2.2.1 (upd L 3 ((L 100))) σ r h H locs ls hP hD hS (lv_sub hl [1, 2, 3, 0] rfl)
        · rw [if_neg c1] at h
          refine lv_iconst (v := 0) hx hb dX12_tellName_81 (by decide) ?_
          cases h
          exact W.iret (v := 0) hx hb hr (fun t ht hW => ⟨⟨0, (), rfl, rfl, by rw [ht]; exact hP, va_K.moved hW.alike hK, hD⟩, hS.F ht⟩) hS.2.2 dX12_tellName_82
      · intro L σ r h H locs ls hP hD hS hl
        rw [x_tellName] at h
        refine lv_aload_n hx hb dX12_tellName_83 rfl (lv_at hl 0 rfl) ?_
        refine ng_49 hx hb hts in_x_tellName hown hK hP (hts _ (List.mem_cons_of_mem _ (List.mem_append_left _ (List.mem_append_left _ (List.mem_of_getElem? (i := 6) rfl))))) dX12_tellName_84 ?_
        refine lv_aload_n hx hb dX12_tellName_87 rfl (lv_at hl 0 rfl) ?_
        refine ng_52 hx hb hts in_x_tellName hown hK hP (hts _ (List.mem_cons_of_mem _ (List.mem_append_left _ (List.mem_append_left _ (List.mem_of_getElem? (i := 5) rfl))))) dX12_tellName_88 ?_
        refine lv_aload_n hx hb dX12_tellName_91 rfl (lv_at hl 0 rfl) ?_
        refine lv_aload_n hx hb dX12_tellName_92 rfl (lv_at hl 0 rfl) ?_
        refine ng_8 hx hb hts in_x_tellName hown hK hP (hts _ (List.mem_cons_of_mem _ (List.mem_append_left _ (List.mem_append_left _ (List.mem_of_getElem? (i := 11) rfl))))) dX12_tellName_93 ?_
        refine lv_aload_n hx hb dX12_tellName_96 rfl (lv_at hl 0 rfl) ?_
        refine ng_9 hx hb hts in_x_tellName hown hK hP (hts _ (List.mem_cons_of_mem _ (List.mem_append_left _ (List.mem_append_left _ (List.mem_of_getElem? (i := 18) rfl))))) dX12_tellName_97 ?_
        obtain ⟨r1, hc1, h⟩ := ob_ex h
        refine nc_Vi (As := [.int (σ.1 8), .int (σ.1 9)]) (rest := [.int (σ.1 52), .ref (a 25)]) ⟨hx, hb, hml, hown, hts⟩ (c_x_keep l dC dI cy a k (upd (upd (fun _ => 0) 1 ((σ.1 8))) 2 ((σ.1 9))) σ r1 hc1 H.size) (cwV 2 hts g_x_tellName_keep_154 rfl rfl rfl hd_x_keep ⟨Nat.le_of_ble_eq_true rfl, Nat.le_of_ble_eq_true rfl⟩) hK hG hA hP hD hS rfl hl.1 rfl (Nat.le_of_ble_eq_true rfl) dX12_tellName_100 ⟨Nat.le_refl _, Nat.le_refl _⟩ (fun H locs hP hD hS => ?_)
        obtain ⟨q2, h⟩ := nb_ite1 h
        refine ns_25 hx hb hK hP hD hS q2 dX12_tellName_103 (fun H locs hP hD hS => ?_)
        exact ih.2.2.2.2.2.2.2.2.1 L (r1.2.1, r1.2.2.1, updG r1.2.2.2 25 (upd (r1.2.2.2 25) ((σ.1 52)).toNatClampNeg r1.1)) r h H locs ls hP hD hS (lv_sub hl [0, 1, 2, 3] rfl)
      · intro L σ r h H locs ls hP hD hS hl
        rw [x_tellName] at h
        refine lv_aload_n hx hb dX12_tellName_104 rfl (lv_at hl 0 rfl) ?_
        refine ng_50 hx hb hts in_x_tellName hown hK hP (hts _ (List.mem_cons_of_mem _ (List.mem_append_left _ (List.mem_append_left _ (List.mem_of_getElem? (i := 7) rfl))))) dX12_tellName_105 ?_
        refine lv_aload_n hx hb dX12_tellName_108 rfl (lv_at hl 0 rfl) ?_
        refine ng_52 hx hb hts in_x_tellName hown hK hP (hts _ (List.mem_cons_of_mem _ (List.mem_append_left _ (List.mem_append_left _ (List.mem_of_getElem? (i := 5) rfl))))) dX12_tellName_109 ?_
        refine lv_aload_n hx hb dX12_tellName_112 rfl (lv_at hl 0 rfl) ?_
        refine ng_9 hx hb hts in_x_tellName hown hK hP (hts _ (List.mem_cons_of_mem _ (List.mem_append_left _ (List.mem_append_left _ (List.mem_of_getElem? (i := 18) rfl))))) dX12_tellName_113 ?_
        refine lv_aload_n hx hb dX12_tellName_116 rfl (lv_at hl 0 rfl) ?_
        refine ng_8 hx hb hts in_x_tellName hown hK hP (hts _ (List.mem_cons_of_mem _ (List.mem_append_left _ (List.mem_append_left _ (List.mem_of_getElem? (i := 11) rfl))))) dX12_tellName_117 ?_
        refine lv_isub hx hb dX12_tellName_120 ?_
        obtain ⟨q1, h⟩ := nb_ite1 h
        refine ns_26 hx hb hK hP hD hS q1 dX12_tellName_121 (fun H locs hP hD hS => ?_)
        exact ih.2.2.2.2.2.2.2.2.2.1 L (σ.1, σ.2.1, updG σ.2.2 26 (upd (σ.2.2 26) ((σ.1 52)).toNatClampNeg ((((σ.1 9)) - ((σ.1 8)))))) r h H locs ls hP hD hS (lv_sub hl [0, 1, 2, 3] rfl)
      · intro L σ r h H locs ls hP hD hS hl
        rw [x_tellName] at h
        refine lv_aload_n hx hb dX12_tellName_122 rfl (lv_at hl 0 rfl) ?_
        refine ng_51 hx hb hts in_x_tellName hown hK hP (hts _ (List.mem_cons_of_mem _ (List.mem_append_left _ (List.mem_append_left _ (List.mem_of_getElem? (i := 22) rfl))))) dX12_tellName_123 ?_
        refine lv_aload_n hx hb dX12_tellName_126 rfl (lv_at hl 0 rfl) ?_
        refine ng_52 hx hb hts in_x_tellName hown hK hP (hts _ (List.mem_cons_of_mem _ (List.mem_append_left _ (List.mem_append_left _ (List.mem_of_getElem? (i := 5) rfl))))) dX12_tellName_127 ?_
        refine lv_iload_n hx hb dX12_tellName_130 rfl (lv_at hl 3 rfl) ?_
        obtain ⟨q1, h⟩ := nb_ite1 h
        refine ns_27 hx hb hK hP hD hS q1 dX12_tellName_131 (fun H locs hP hD hS => ?_)
        exact ih.2.2.2.2.2.2.2.2.2.2.1 L (σ.1, σ.2.1, updG σ.2.2 27 (upd (σ.2.2 27) ((σ.1 52)).toNatClampNeg ((L 3)))) r h H locs ls hP hD hS (lv_sub hl [0, 1, 2, 3] rfl)
      · intro L σ r h H locs ls hP hD hS hl
        rw [x_tellName] at h
        refine lv_aload_n hx hb dX12_tellName_132 rfl (lv_at hl 0 rfl) ?_
        refine lv_dup hx hb dX12_tellName_133 rfl ?_
        refine ng_52 hx hb hts in_x_tellName hown hK hP (hts _ (List.mem_cons_of_mem _ (List.mem_append_left _ (List.mem_append_left _ (List.mem_of_getElem? (i := 5) rfl))))) dX12_tellName_134 ?_
        refine lv_iconst (v := 1) hx hb dX12_tellName_137 (by decide) ?_
        refine lv_iadd hx hb dX12_tellName_138 ?_
        refine np_52 hx hb hts in_x_tellName hown hK hP hD hS (hts _ (List.mem_cons_of_mem _ (List.mem_append_left _ (List.mem_append_left _ (List.mem_of_getElem? (i := 5) rfl))))) dX12_tellName_139 (fun H locs hP hD hS => ?_)
        exact ih.2.2.2.2.2.2.2.2.2.2.2.1 L (upd σ.1 52 ((((σ.1 52)) + 1)), σ.2.1, σ.2.2) r h H locs ls hP hD hS (lv_sub hl [0, 1, 2, 3] rfl)
      · intro L σ r h H locs ls hP hD hS hl
        rw [x_tellName] at h
        refine lv_aload_n hx hb dX12_tellName_142 rfl (lv_at hl 0 rfl) ?_
        refine lv_bipush (v := 31) hx hb dX12_tellName_143 (by decide) ?_
        refine lv_aload_n hx hb dX12_tellName_145 rfl (lv_at hl 0 rfl) ?_
        refine ng_37 hx hb hts in_x_tellName hown hK hP (hts _ (List.mem_cons_of_mem _ (List.mem_append_left _ (List.mem_append_left _ (List.mem_of_getElem? (i := 23) rfl))))) dX12_tellName_146 ?_
        refine lv_if_le (tgt := 156) hx hb dX12_tellName_149 (by decide) (fun c1 => ?_) (fun c1 => ?_)
        · rw [if_pos c1] at h
          exact ih.2.2.2.2.2.2.2.2.2.2.2.2.1 (upd L 100 31) σ r h H locs ls hP hD hS (lv_sub hl [0, 1, 2, 3] rfl)
        · rw [if_neg c1] at h
          refine lv_iconst (v := 1) hx hb dX12_tellName_152 (by decide) ?_
          refine lv_goto (tgt := 157) hx hb dX12_tellName_153 (by decide) ?_
          exact ih.2.2.2.2.2.2.2.2.2.2.2.2.2 (upd (upd L 100 1) 101 31) σ r h H locs ls hP hD hS (lv_sub hl [0, 1, 2, 3] rfl)
      · intro L σ r h H locs ls hP hD hS hl
        rw [x_tellName] at h
        refine lv_iconst (v := 0) hx hb dX12_tellName_156 (by decide) ?_
        exact ih.2.2.2.2.2.2.2.2.2.2.2.2.2 (upd (upd L 100 0) 101 ((L 100))) σ r h H locs ls hP hD hS (lv_sub hl [0, 1, 2, 3] rfl)
      · intro L σ r h H locs ls hP hD hS hl
        rw [x_tellName] at h
        refine lv_iload_n hx hb dX12_tellName_157 rfl (lv_at hl 3 rfl) ?_
        refine lv_iconst (v := 0) hx hb dX12_tellName_158 (by decide) ?_
        obtain ⟨r1, hc1, h⟩ := ob_ex h
        refine nc_Vi (As := [.int (L 101), .int (L 100), .int (L 3), .int 0]) (rest := []) ⟨hx, hb, hml, hown, hts⟩ (c_x_node l dC dI cy a k (upd (upd (upd (upd (fun _ => 0) 1 ((L 101))) 2 ((L 100))) 3 ((L 3))) 4 0) σ r1 hc1 H.size) (cwV 4 hts g_x_tellName_node_101 rfl rfl rfl hd_x_node ⟨Nat.le_of_ble_eq_true rfl, Nat.le_of_ble_eq_true rfl⟩) hK hG hA hP hD hS rfl hl.1 rfl (Nat.le_of_ble_eq_true rfl) dX12_tellName_159 ⟨Nat.le_refl _, Nat.le_refl _⟩ (fun H locs hP hD hS => ?_)
        refine lv_istore (lv' := [(4, .int r1.1), (0, .ref (a 0)), (1, .int (L 1)), (2, .int (L 2)), (3, .int (L 3))]) hx hb dX12_tellName_162 hl (by decide) rfl (fun ls hl => ?_)
        refine lv_aload_n hx hb dX12_tellName_164 rfl (lv_at hl 1 rfl) ?_
        obtain ⟨r2, hc2, h⟩ := ob_ex h
        refine nc_Vv (As := []) (rest := []) ⟨hx, hb, hml, hown, hts⟩ (c_x_take l dC dI cy a k (fun _ => 0) r1.2 r2 hc2 H.size) (cwV 0 hts g_x_tellName_take_71 rfl rfl rfl hd_x_take ⟨Nat.le_of_ble_eq_true rfl, Nat.le_of_ble_eq_true rfl⟩) hK hG hA hP hD hS rfl hl.1 rfl (Nat.le_of_ble_eq_true rfl) dX12_tellName_165 ⟨Nat.le_refl _, Nat.le_refl _⟩ (fun H locs hP hD hS => ?_)
        refine lv_iload hx hb dX12_tellName_168 (lv_at hl 0 rfl) ?_
        cases h
        exact W.iret (v := r1.1) hx hb hr (fun t ht hW => ⟨⟨r1.1, (), rfl, rfl, by rw [ht]; exact hP, va_K.moved hW.alike hK, hD⟩, hS.F ht⟩) hS.2.2 dX12_tellName_170
  exact (blk k0).1 L0 σ0 r0 h0 s.heap [] ls hP hD hS hl
/-! pattern -/
def x_pattern : Nat → Nat → (Nat → Int32) → MS → Option (Int32 × MS)
  | 0, _, _, _ => none
  | k + 1, 0, L, σ => ob (x_open k 0 (fun _ => 0) σ) (fun r1 => if ((r1.2.1 10)) = 0 then (ob (x_take k 0 (fun _ => 0) r1.2) (fun r3 => x_pattern k 1 L r3.2)) else (x_pattern k 1 L r1.2))
  | k + 1, 1, L, σ => ob (x_tellName k 0 (upd (upd (fun _ => 0) 1 ((L 1))) 2 ((L 2))) σ) (fun r1 => x_pattern k 2 (upd (upd L 3 r1.1) 4 r1.1) r1.2)
  | k + 1, 2, L, σ => if ((σ.1 10)) = 0 then (ob (x_isSign k 0 (upd (fun _ => 0) 1 12) σ) (fun r2 => if r2.1 = 0 then (x_pattern k 5 L r2.2) else (ob (x_take k 0 (fun _ => 0) r2.2) (fun r4 => ob (x_tellName k 0 (upd (upd (fun _ => 0) 1 ((L 1))) 2 ((L 2))) r4.2) (fun r5 => if ((r5.2.1 10)) = 0 then (if ¬ (((L 4)) < 0 ∨ 70000 ≤ ((L 4)).toNatClampNeg) then (x_pattern k 3 (upd L 5 r5.1) (r5.2.1, r5.2.2.1, updG r5.2.2.2 9 (upd (r5.2.2.2 9) ((L 4)).toNatClampNeg r5.1))) else none) else (x_pattern k 4 (upd L 5 r5.1) r5.2)))))) else (x_pattern k 5 L σ)
  | k + 1, 3, L, σ => x_pattern k 4 (upd L 4 ((L 5))) σ
  | k + 1, 4, L, σ => x_pattern k 2 L σ
  | k + 1, 5, L, σ => ob (x_want k 0 (upd (fun _ => 0) 1 11) σ) (fun r1 => x_pattern k 6 L (upd r1.2.1 13 ((((r1.2.1 13)) - 1)), r1.2.2.1, r1.2.2.2))
  | k + 1, 6, L, σ => some ((L 3), σ)
  | _ + 1, _ + 7, _, _ => none
def o_x_pattern : List Cond := [.methodLink RX12 177 yX12_open, .instanceMethod yX12_open, .selects RX12 yX12_open yX12_open, .initialized RX12, .fieldLink RX12 11 "SetHouseModel" "bad" "Z", .methodLink RX12 71 yX12_take, .instanceMethod yX12_take, .selects RX12 yX12_take yX12_take, .methodLink RX12 263 yX12_tellName, .instanceMethod yX12_tellName, .selects RX12 yX12_tellName yX12_tellName, .methodLink RX12 65 yX12_isSign, .instanceMethod yX12_isSign, .selects RX12 yX12_isSign yX12_isSign, .fieldLink RX12 98 "SetHouseModel" "next" "[I", .methodLink RX12 199 yX12_want, .instanceMethod yX12_want, .selects RX12 yX12_want yX12_want, .fieldLink RX12 77 "SetHouseModel" "opened" "I"]
theorem o_x_pattern_good : o_x_pattern.all goodWord = true := by decide +kernel
def p_x_pattern : List Cond := o_x_pattern ++ ((.code yX12_open cX12_open 1 none :: p_x_open) ++ ((.code yX12_take cX12_take 2 none :: p_x_take) ++ ((.code yX12_tellName cX12_tellName 5 (some .int) :: p_x_tellName) ++ ((.code yX12_isSign cX12_isSign 2 (some .boolean) :: p_x_isSign) ++ ((.code yX12_want cX12_want 2 none :: p_x_want) ++ [])))))
theorem p_x_pattern_good : p_x_pattern.all goodWord = true := nb_all2 o_x_pattern_good (nb_all2 (nb_allc (by decide +kernel) p_x_open_good) (nb_all2 (nb_allc (by decide +kernel) p_x_take_good) (nb_all2 (nb_allc (by decide +kernel) p_x_tellName_good) (nb_all2 (nb_allc (by decide +kernel) p_x_isSign_good) (nb_all2 (nb_allc (by decide +kernel) p_x_want_good) rfl)))))
def w_x_pattern : List Cond := .code yX12_pattern cX12_pattern 6 (some .int) :: (p_x_pattern ++ fM)
theorem w_x_pattern_good : w_x_pattern.all goodWord = true := nb_allc (by decide +kernel) (nb_all2 p_x_pattern_good fM_good)
theorem in_x_pattern : ∀ w ∈ wsX120, w ∈ w_x_pattern := fun _ h => List.mem_cons_of_mem _ (List.mem_append_right _ h)
theorem hd_x_pattern : yX12_pattern.cls = RX12 ∧ yX12_pattern.cls ≠ "java/lang/invoke/MethodHandle" ∧ yX12_pattern.cls ≠ "java/lang/invoke/VarHandle" ∧ (parseMethodDescriptor yX12_pattern.desc).map (fun d => d.parameters.length) = some 2 := by decide +kernel
theorem gg_x_pattern_isSign : GoodIn w_x_pattern w_x_isSign := goodIn_sub (fun w h => (List.mem_cons.mp h).elim (fun e => (List.mem_cons_of_mem _ (List.mem_append_left _ (List.mem_append_right _ (List.mem_append_right _ (List.mem_append_right _ (List.mem_append_right _ (List.mem_append_left _ (List.mem_cons.mpr (Or.inl e)))))))))) (fun h => (List.mem_append.mp h).elim (fun h => (List.mem_cons_of_mem _ (List.mem_append_left _ (List.mem_append_right _ (List.mem_append_right _ (List.mem_append_right _ (List.mem_append_right _ (List.mem_append_left _ (List.mem_cons_of_mem _ h))))))))) (fun h => List.mem_cons_of_mem _ (List.mem_append_right _ h)))) w_x_isSign_good
theorem g_x_pattern_isSign_65 : GoodIn w_x_pattern (wsV RX12 65 RX12 yX12_isSign w_x_isSign) := goodIn_app (nb_g4 (List.mem_cons_of_mem _ (List.mem_append_left _ (List.mem_append_left _ (List.mem_of_getElem? (i := 11) rfl)))) (List.mem_cons_of_mem _ (List.mem_append_left _ (List.mem_append_left _ (List.mem_of_getElem? (i := 12) rfl)))) (List.mem_cons_of_mem _ (List.mem_append_left _ (List.mem_append_left _ (List.mem_of_getElem? (i := 13) rfl)))) (List.mem_cons_of_mem _ (List.mem_append_left _ (List.mem_append_left _ (List.mem_of_getElem? (i := 3) rfl)))) (by decide +kernel)) gg_x_pattern_isSign
theorem gg_x_pattern_open : GoodIn w_x_pattern w_x_open := goodIn_sub (fun w h => (List.mem_cons.mp h).elim (fun e => (List.mem_cons_of_mem _ (List.mem_append_left _ (List.mem_append_right _ (List.mem_append_left _ (List.mem_cons.mpr (Or.inl e))))))) (fun h => (List.mem_append.mp h).elim (fun h => (List.mem_cons_of_mem _ (List.mem_append_left _ (List.mem_append_right _ (List.mem_append_left _ (List.mem_cons_of_mem _ h)))))) (fun h => List.mem_cons_of_mem _ (List.mem_append_right _ h)))) w_x_open_good
theorem g_x_pattern_open_177 : GoodIn w_x_pattern (wsV RX12 177 RX12 yX12_open w_x_open) := goodIn_app (nb_g4 (List.mem_cons_of_mem _ (List.mem_append_left _ (List.mem_append_left _ (List.mem_of_getElem? (i := 0) rfl)))) (List.mem_cons_of_mem _ (List.mem_append_left _ (List.mem_append_left _ (List.mem_of_getElem? (i := 1) rfl)))) (List.mem_cons_of_mem _ (List.mem_append_left _ (List.mem_append_left _ (List.mem_of_getElem? (i := 2) rfl)))) (List.mem_cons_of_mem _ (List.mem_append_left _ (List.mem_append_left _ (List.mem_of_getElem? (i := 3) rfl)))) (by decide +kernel)) gg_x_pattern_open
theorem gg_x_pattern_take : GoodIn w_x_pattern w_x_take := goodIn_sub (fun w h => (List.mem_cons.mp h).elim (fun e => (List.mem_cons_of_mem _ (List.mem_append_left _ (List.mem_append_right _ (List.mem_append_right _ (List.mem_append_left _ (List.mem_cons.mpr (Or.inl e)))))))) (fun h => (List.mem_append.mp h).elim (fun h => (List.mem_cons_of_mem _ (List.mem_append_left _ (List.mem_append_right _ (List.mem_append_right _ (List.mem_append_left _ (List.mem_cons_of_mem _ h))))))) (fun h => List.mem_cons_of_mem _ (List.mem_append_right _ h)))) w_x_take_good
theorem g_x_pattern_take_71 : GoodIn w_x_pattern (wsV RX12 71 RX12 yX12_take w_x_take) := goodIn_app (nb_g4 (List.mem_cons_of_mem _ (List.mem_append_left _ (List.mem_append_left _ (List.mem_of_getElem? (i := 5) rfl)))) (List.mem_cons_of_mem _ (List.mem_append_left _ (List.mem_append_left _ (List.mem_of_getElem? (i := 6) rfl)))) (List.mem_cons_of_mem _ (List.mem_append_left _ (List.mem_append_left _ (List.mem_of_getElem? (i := 7) rfl)))) (List.mem_cons_of_mem _ (List.mem_append_left _ (List.mem_append_left _ (List.mem_of_getElem? (i := 3) rfl)))) (by decide +kernel)) gg_x_pattern_take
theorem gg_x_pattern_tellName : GoodIn w_x_pattern w_x_tellName := goodIn_sub (fun w h => (List.mem_cons.mp h).elim (fun e => (List.mem_cons_of_mem _ (List.mem_append_left _ (List.mem_append_right _ (List.mem_append_right _ (List.mem_append_right _ (List.mem_append_left _ (List.mem_cons.mpr (Or.inl e))))))))) (fun h => (List.mem_append.mp h).elim (fun h => (List.mem_cons_of_mem _ (List.mem_append_left _ (List.mem_append_right _ (List.mem_append_right _ (List.mem_append_right _ (List.mem_append_left _ (List.mem_cons_of_mem _ h)))))))) (fun h => List.mem_cons_of_mem _ (List.mem_append_right _ h)))) w_x_tellName_good
theorem g_x_pattern_tellName_263 : GoodIn w_x_pattern (wsV RX12 263 RX12 yX12_tellName w_x_tellName) := goodIn_app (nb_g4 (List.mem_cons_of_mem _ (List.mem_append_left _ (List.mem_append_left _ (List.mem_of_getElem? (i := 8) rfl)))) (List.mem_cons_of_mem _ (List.mem_append_left _ (List.mem_append_left _ (List.mem_of_getElem? (i := 9) rfl)))) (List.mem_cons_of_mem _ (List.mem_append_left _ (List.mem_append_left _ (List.mem_of_getElem? (i := 10) rfl)))) (List.mem_cons_of_mem _ (List.mem_append_left _ (List.mem_append_left _ (List.mem_of_getElem? (i := 3) rfl)))) (by decide +kernel)) gg_x_pattern_tellName
theorem gg_x_pattern_want : GoodIn w_x_pattern w_x_want := goodIn_sub (fun w h => (List.mem_cons.mp h).elim (fun e => (List.mem_cons_of_mem _ (List.mem_append_left _ (List.mem_append_right _ (List.mem_append_right _ (List.mem_append_right _ (List.mem_append_right _ (List.mem_append_right _ (List.mem_append_left _ (List.mem_cons.mpr (Or.inl e))))))))))) (fun h => (List.mem_append.mp h).elim (fun h => (List.mem_cons_of_mem _ (List.mem_append_left _ (List.mem_append_right _ (List.mem_append_right _ (List.mem_append_right _ (List.mem_append_right _ (List.mem_append_right _ (List.mem_append_left _ (List.mem_cons_of_mem _ h)))))))))) (fun h => List.mem_cons_of_mem _ (List.mem_append_right _ h)))) w_x_want_good
theorem g_x_pattern_want_199 : GoodIn w_x_pattern (wsV RX12 199 RX12 yX12_want w_x_want) := goodIn_app (nb_g4 (List.mem_cons_of_mem _ (List.mem_append_left _ (List.mem_append_left _ (List.mem_of_getElem? (i := 15) rfl)))) (List.mem_cons_of_mem _ (List.mem_append_left _ (List.mem_append_left _ (List.mem_of_getElem? (i := 16) rfl)))) (List.mem_cons_of_mem _ (List.mem_append_left _ (List.mem_append_left _ (List.mem_of_getElem? (i := 17) rfl)))) (List.mem_cons_of_mem _ (List.mem_append_left _ (List.mem_append_left _ (List.mem_of_getElem? (i := 3) rfl)))) (by decide +kernel)) gg_x_pattern_want
set_option maxHeartbeats 40000000 in
set_option maxRecDepth 100000 in
theorem c_x_pattern (l : Launch) (dC : Nat → ClassId) (dI : Nat → Nat → Nat) (cy : Nat → ClassId) (a : Nat → Nat) (k0 : Nat) (L0 : Nat → Int32) (σ0 : MS) (r0 : Int32 × MS) (h0 : x_pattern k0 0 L0 σ0 = some r0) (sz : Nat) : Met l yX12_pattern w_x_pattern ({ frames := 4, cells := 0, slots := 0, locals := 88 }) (va_Pc [.ref (a 0), .int (L0 1), .int (L0 2)] (nIn (dC, dI) cy sz (vM cy a σ0))) (va_Qi (fun (z : Int32) (_ : Unit) => z = r0.1) (fun _ t => nOut (dC, dI) cy (va_A (vM cy a σ0) sz) (vM cy a r0.2) t) (va_A (vM cy a σ0) sz)) 0 0 (va_A (vM cy a σ0) sz) := by
  refine Met.ofW (cc := cX12_pattern) (maxL := 6) (ret := (some .int)) (by decide) rfl ?_
  intro p e s m args below meth c s₁ B hml hv
  obtain ⟨rfl, hsz, hP, hK, hD0, hG⟩ := hv
  have hx := B.exec
  have hb := B.bytes
  have hr := B.returns
  have hts := atoms_spec (ws := w_x_pattern) B.pre
  have hown : s.vm.findClass RX12 = some m.cls := findClass_of_methodNamed B.named
  have hlocks := B.notSynchronized
  subst hsz
  have hD := hD0.self (sz := s.heap.size)
  generalize hAe : va_A (vM cy a σ0) s.heap.size = A at hD ⊢
  have hA : ∀ q : Nat, s.heap.size ≤ q → A q := fun q h => by rw [← hAe]; exact Or.inr h
  have hS : va_S A s.heap s.heap [] := va_S.rf
  have hl := lv_entry ([.ref (a 0), .int (L0 1), .int (L0 2)]) (n := 6) (Nat.le_of_ble_eq_true rfl)
  rw [lg_entry_eq]
  generalize (lg_sl ([.ref (a 0), .int (L0 1), .int (L0 2)]) ++ List.replicate (6 - (lg_sl ([.ref (a 0), .int (L0 1), .int (L0 2)])).length) Slot.unset).toArray = ls at hl ⊢
  have hl : lv_has ls 6 [(0, .ref (a 0)), (1, .int (L0 1)), (2, .int (L0 2))] := hl
  have blk : ∀ k : Nat, (bT p l e (headSpec w_x_pattern ({ frames := 4, cells := 0, slots := 0, locals := 88 })).room s m #[.ref (a 0), .int (L0 1), .int (L0 2)] below meth c dC dI cy a A (qI dC dI cy a A below #[.ref (a 0), .int (L0 1), .int (L0 2)] s) 6 (x_pattern k 0) (fun L => [(0, .ref (a 0)), (1, .int (L 1)), (2, .int (L 2))]) 0 (fun L => [])) ∧ (bT p l e (headSpec w_x_pattern ({ frames := 4, cells := 0, slots := 0, locals := 88 })).room s m #[.ref (a 0), .int (L0 1), .int (L0 2)] below meth c dC dI cy a A (qI dC dI cy a A below #[.ref (a 0), .int (L0 1), .int (L0 2)] s) 6 (x_pattern k 1) (fun L => [(0, .ref (a 0)), (1, .int (L 1)), (2, .int (L 2))]) 15 (fun L => [])) ∧ (bT p l e (headSpec w_x_pattern ({ frames := 4, cells := 0, slots := 0, locals := 88 })).room s m #[.ref (a 0), .int (L0 1), .int (L0 2)] below meth c dC dI cy a A (qI dC dI cy a A below #[.ref (a 0), .int (L0 1), .int (L0 2)] s) 6 (x_pattern k 2) (fun L => [(0, .ref (a 0)), (1, .int (L 1)), (2, .int (L 2)), (3, .int (L 3)), (4, .int (L 4))]) 25 (fun L => [])) ∧ (bT p l e (headSpec w_x_pattern ({ frames := 4, cells := 0, slots := 0, locals := 88 })).room s m #[.ref (a 0), .int (L0 1), .int (L0 2)] below meth c dC dI cy a A (qI dC dI cy a A below #[.ref (a 0), .int (L0 1), .int (L0 2)] s) 6 (x_pattern k 3) (fun L => [(0, .ref (a 0)), (1, .int (L 1)), (2, .int (L 2)), (3, .int (L 3)), (4, .int (L 4)), (5, .int (L 5))]) 69 (fun L => [])) ∧ (bT p l e (headSpec w_x_pattern ({ frames := 4, cells := 0, slots := 0, locals := 88 })).room s m #[.ref (a 0), .int (L0 1), .int (L0 2)] below meth c dC dI cy a A (qI dC dI cy a A below #[.ref (a 0), .int (L0 1), .int (L0 2)] s) 6 (x_pattern k 4) (fun L => [(0, .ref (a 0)), (1, .int (L 1)), (2, .int (L 2)), (3, .int (L 3)), (4, .int (L 4)), (5, .int (L 5))]) 73 (fun L => [])) ∧ (bT p l e (headSpec w_x_pattern ({ frames := 4, cells := 0, slots := 0, locals := 88 })).room s m #[.ref (a 0), .int (L0 1), .int (L0 2)] below meth c dC dI cy a A (qI dC dI cy a A below #[.ref (a 0), .int (L0 1), .int (L0 2)] s) 6 (x_pattern k 5) (fun L => [(0, .ref (a 0)), (1, .int (L 1)), (2, .int (L 2)), (3, .int (L 3)), (4, .int (L 4))]) 76 (fun L => [])) ∧ (bT p l e (headSpec w_x_pattern ({ frames := 4, cells := 0, slots := 0, locals := 88 })).room s m #[.ref (a 0), .int (L0 1), .int (L0 2)] below meth c dC dI cy a A (qI dC dI cy a A below #[.ref (a 0), .int (L0 1), .int (L0 2)] s) 6 (x_pattern k 6) (fun L => [(0, .ref (a 0)), (1, .int (L 1)), (2, .int (L 2)), (3, .int (L 3)), (4, .int (L 4))]) 92 (fun L => [])) := by
    intro k
    induction k with
    | zero => exact ⟨fun L σ r h => (by cases h), fun L σ r h => (by cases h), fun L σ r h => (by cases h), fun L σ r h => (by cases h), fun L σ r h => (by cases h), fun L σ r h => (by cases h), fun L σ r h => (by cases h)⟩
    | succ k ih =>
      refine ⟨?_, ?_, ?_, ?_, ?_, ?_, ?_⟩
      · intro L σ r h H locs ls hP hD hS hl
        rw [x_pattern] at h
        refine lv_aload_n hx hb dX12_pattern_0 rfl (lv_at hl 0 rfl) ?_
        obtain ⟨r1, hc1, h⟩ := ob_ex h
        refine nc_Vv (As := []) (rest := []) ⟨hx, hb, hml, hown, hts⟩ (c_x_open l dC dI cy a k (fun _ => 0) σ r1 hc1 H.size) (cwV 0 hts g_x_pattern_open_177 rfl rfl rfl hd_x_open ⟨Nat.le_of_ble_eq_true rfl, Nat.le_of_ble_eq_true rfl⟩) hK hG hA hP hD hS rfl hl.1 rfl (Nat.le_of_ble_eq_true rfl) dX12_pattern_1 ⟨Nat.le_refl _, Nat.le_refl _⟩ (fun H locs hP hD hS => ?_)
        refine lv_aload_n hx hb dX12_pattern_4 rfl (lv_at hl 0 rfl) ?_
        refine ng_10 hx hb hts in_x_pattern hown hK hP (hts _ (List.mem_cons_of_mem _ (List.mem_append_left _ (List.mem_append_left _ (List.mem_of_getElem? (i := 4) rfl))))) dX12_pattern_5 ?_
        refine lv_if_ne (tgt := 15) hx hb dX12_pattern_8 (by decide) (fun c2 => ?_) (fun c2 => ?_)
        · rw [if_neg c2] at h
          exact ih.2.1 L r1.2 r h H locs ls hP hD hS (lv_sub hl [0, 1, 2] rfl)
        · rw [if_pos c2] at h
          refine lv_aload_n hx hb dX12_pattern_11 rfl (lv_at hl 0 rfl) ?_
          obtain ⟨r3, hc3, h⟩ := ob_ex h
          refine nc_Vv (As := []) (rest := []) ⟨hx, hb, hml, hown, hts⟩ (c_x_take l dC dI cy a k (fun _ => 0) r1.2 r3 hc3 H.size) (cwV 0 hts g_x_pattern_take_71 rfl rfl rfl hd_x_take ⟨Nat.le_of_ble_eq_true rfl, Nat.le_of_ble_eq_true rfl⟩) hK hG hA hP hD hS rfl hl.1 rfl (Nat.le_of_ble_eq_true rfl) dX12_pattern_12 ⟨Nat.le_refl _, Nat.le_refl _⟩ (fun H locs hP hD hS => ?_)
          exact ih.2.1 L r3.2 r h H locs ls hP hD hS (lv_sub hl [0, 1, 2] rfl)
      · intro L σ r h H locs ls hP hD hS hl
        rw [x_pattern] at h
        refine lv_aload_n hx hb dX12_pattern_15 rfl (lv_at hl 0 rfl) ?_
        refine lv_iload_n hx hb dX12_pattern_16 rfl (lv_at hl 1 rfl) ?_
        refine lv_iload_n hx hb dX12_pattern_17 rfl (lv_at hl 2 rfl) ?_
        obtain ⟨r1, hc1, h⟩ := ob_ex h
        refine nc_Vi (As := [.int (L 1), .int (L 2)]) (rest := []) ⟨hx, hb, hml, hown, hts⟩ (c_x_tellName l dC dI cy a k (upd (upd (fun _ => 0) 1 ((L 1))) 2 ((L 2))) σ r1 hc1 H.size) (cwV 2 hts g_x_pattern_tellName_263 rfl rfl rfl hd_x_tellName ⟨Nat.le_of_ble_eq_true rfl, Nat.le_of_ble_eq_true rfl⟩) hK hG hA hP hD hS rfl hl.1 rfl (Nat.le_of_ble_eq_true rfl) dX12_pattern_18 ⟨Nat.le_refl _, Nat.le_refl _⟩ (fun H locs hP hD hS => ?_)
        refine lv_istore_n (lv' := [(3, .int r1.1), (0, .ref (a 0)), (1, .int (L 1)), (2, .int (L 2))]) hx hb dX12_pattern_21 rfl hl (by decide) rfl (fun ls hl => ?_)
        refine lv_iload_n hx hb dX12_pattern_22 rfl (lv_at hl 0 rfl) ?_
        refine lv_istore (lv' := [(4, .int r1.1), (3, .int r1.1), (0, .ref (a 0)), (1, .int (L 1)), (2, .int (L 2))]) hx hb dX12_pattern_23 hl (by decide) rfl (fun ls hl => ?_)
        exact ih.2.2.1 (upd (upd L 3 r1.1) 4 r1.1) r1.2 r h H locs ls hP hD hS (lv_sub hl [2, 3, 4, 1, 0] rfl)
      · intro L σ r h H locs ls hP hD hS hl
        rw [x_pattern] at h
        refine lv_aload_n hx hb dX12_pattern_25 rfl (lv_at hl 0 rfl) ?_
        refine ng_10 hx hb hts in_x_pattern hown hK hP (hts _ (List.mem_cons_of_mem _ (List.mem_append_left _ (List.mem_append_left _ (List.mem_of_getElem? (i := 4) rfl))))) dX12_pattern_26 ?_
        refine lv_if_ne (tgt := 76) hx hb dX12_pattern_29 (by decide) (fun c1 => ?_) (fun c1 => ?_)
        · rw [if_neg c1] at h
          exact ih.2.2.2.2.2.1 L σ r h H locs ls hP hD hS (lv_sub hl [0, 1, 2, 3, 4] rfl)
        · rw [if_pos c1] at h
          refine lv_aload_n hx hb dX12_pattern_32 rfl (lv_at hl 0 rfl) ?_
          refine lv_bipush (v := 12) hx hb dX12_pattern_33 (by decide) ?_
          obtain ⟨r2, hc2, h⟩ := ob_ex h
          refine nc_Vi (As := [.int 12]) (rest := []) ⟨hx, hb, hml, hown, hts⟩ (c_x_isSign l dC dI cy a k (upd (fun _ => 0) 1 12) σ r2 hc2 H.size) (cwV 1 hts g_x_pattern_isSign_65 rfl rfl rfl hd_x_isSign ⟨Nat.le_of_ble_eq_true rfl, Nat.le_of_ble_eq_true rfl⟩) hK hG hA hP hD hS rfl hl.1 rfl (Nat.le_of_ble_eq_true rfl) dX12_pattern_35 ⟨Nat.le_refl _, Nat.le_refl _⟩ (fun H locs hP hD hS => ?_)
          refine lv_if_eq (tgt := 76) hx hb dX12_pattern_38 (by decide) (fun c3 => ?_) (fun c3 => ?_)
          · rw [if_pos c3] at h
            exact ih.2.2.2.2.2.1 L r2.2 r h H locs ls hP hD hS (lv_sub hl [0, 1, 2, 3, 4] rfl)
          · rw [if_neg c3] at h
            refine lv_aload_n hx hb dX12_pattern_41 rfl (lv_at hl 0 rfl) ?_
            obtain ⟨r4, hc4, h⟩ := ob_ex h
            refine nc_Vv (As := []) (rest := []) ⟨hx, hb, hml, hown, hts⟩ (c_x_take l dC dI cy a k (fun _ => 0) r2.2 r4 hc4 H.size) (cwV 0 hts g_x_pattern_take_71 rfl rfl rfl hd_x_take ⟨Nat.le_of_ble_eq_true rfl, Nat.le_of_ble_eq_true rfl⟩) hK hG hA hP hD hS rfl hl.1 rfl (Nat.le_of_ble_eq_true rfl) dX12_pattern_42 ⟨Nat.le_refl _, Nat.le_refl _⟩ (fun H locs hP hD hS => ?_)
            refine lv_aload_n hx hb dX12_pattern_45 rfl (lv_at hl 0 rfl) ?_
            refine lv_iload_n hx hb dX12_pattern_46 rfl (lv_at hl 1 rfl) ?_
            refine lv_iload_n hx hb dX12_pattern_47 rfl (lv_at hl 2 rfl) ?_
            obtain ⟨r5, hc5, h⟩ := ob_ex h
            refine nc_Vi (As := [.int (L 1), .int (L 2)]) (rest := []) ⟨hx, hb, hml, hown, hts⟩ (c_x_tellName l dC dI cy a k (upd (upd (fun _ => 0) 1 ((L 1))) 2 ((L 2))) r4.2 r5 hc5 H.size) (cwV 2 hts g_x_pattern_tellName_263 rfl rfl rfl hd_x_tellName ⟨Nat.le_of_ble_eq_true rfl, Nat.le_of_ble_eq_true rfl⟩) hK hG hA hP hD hS rfl hl.1 rfl (Nat.le_of_ble_eq_true rfl) dX12_pattern_48 ⟨Nat.le_refl _, Nat.le_refl _⟩ (fun H locs hP hD hS => ?_)
            refine lv_istore (lv' := [(5, .int r5.1), (0, .ref (a 0)), (1, .int (L 1)), (2, .int (L 2)), (3, .int (L 3)), (4, .int (L 4))]) hx hb dX12_pattern_51 hl (by decide) rfl (fun ls hl => ?_)
            refine lv_aload_n hx hb dX12_pattern_53 rfl (lv_at hl 1 rfl) ?_
            refine ng_10 hx hb hts in_x_pattern hown hK hP (hts _ (List.mem_cons_of_mem _ (List.mem_append_left _ (List.mem_append_left _ (List.mem_of_getElem? (i := 4) rfl))))) dX12_pattern_54 ?_
            refine lv_if_ne (tgt := 73) hx hb dX12_pattern_57 (by decide) (fun c6 => ?_) (fun c6 => ?_)
            · rw [if_neg c6] at h
              exact ih.2.2.2.2.1 (upd L 5 r5.1) r5.2 r h H locs ls hP hD hS (lv_sub hl [1, 2, 3, 4, 5, 0] rfl)
            · rw [if_pos c6] at h
              refine lv_aload_n hx hb dX12_pattern_60 rfl (lv_at hl 1 rfl) ?_
              refine ng_19 hx hb hts in_x_pattern hown hK hP (hts _ (List.mem_cons_of_mem _ (List.mem_append_left _ (List.mem_append_left _ (List.mem_of_getElem? (i := 14) rfl))))) dX12_pattern_61 ?_
              refine lv_iload hx hb dX12_pattern_64 (lv_at hl 5 rfl) ?_
              refine lv_iload hx hb dX12_pattern_66 (lv_at hl 0 rfl) ?_
              obtain ⟨q7, h⟩ := nb_ite1 h
              refine ns_9 hx hb hK hP hD hS q7 dX12_pattern_68 (fun H locs hP hD hS => ?_)
              exact ih.2.2.2.1 (upd L 5 r5.1) (r5.2.1, r5.2.2.1, updG r5.2.2.2 9 (upd (r5.2.2.2 9) ((L 4)).toNatClampNeg r5.1)) r h H locs ls hP hD hS (lv_sub hl [1, 2, 3, 4, 5, 0] rfl)
      · intro L σ r h H locs ls hP hD hS hl
        rw [x_pattern] at h
        refine lv_iload hx hb dX12_pattern_69 (lv_at hl 5 rfl) ?_
        refine lv_istore (lv' := [(4, .int (L 5)), (0, .ref (a 0)), (1, .int (L 1)), (2, .int (L 2)), (3, .int (L 3)), (5, .int (L 5))]) hx hb dX12_pattern_71 hl (by decide) rfl (fun ls hl => ?_)
        exact ih.2.2.2.2.1 (upd L 4 ((L 5))) σ r h H locs ls hP hD hS (lv_sub hl [1, 2, 3, 4, 0, 5] rfl)
      · intro L σ r h H locs ls hP hD hS hl
        rw [x_pattern] at h
        refine lv_goto (tgt := 25) hx hb dX12_pattern_73 (by decide) ?_
        exact ih.2.2.1 L σ r h H locs ls hP hD hS (lv_sub hl [0, 1, 2, 3, 4] rfl)
      · intro L σ r h H locs ls hP hD hS hl
        rw [x_pattern] at h
        refine lv_aload_n hx hb dX12_pattern_76 rfl (lv_at hl 0 rfl) ?_
        refine lv_bipush (v := 11) hx hb dX12_pattern_77 (by decide) ?_
        obtain ⟨r1, hc1, h⟩ := ob_ex h
        refine nc_Vv (As := [.int 11]) (rest := []) ⟨hx, hb, hml, hown, hts⟩ (c_x_want l dC dI cy a k (upd (fun _ => 0) 1 11) σ r1 hc1 H.size) (cwV 1 hts g_x_pattern_want_199 rfl rfl rfl hd_x_want ⟨Nat.le_of_ble_eq_true rfl, Nat.le_of_ble_eq_true rfl⟩) hK hG hA hP hD hS rfl hl.1 rfl (Nat.le_of_ble_eq_true rfl) dX12_pattern_79 ⟨Nat.le_refl _, Nat.le_refl _⟩ (fun H locs hP hD hS => ?_)
        refine lv_aload_n hx hb dX12_pattern_82 rfl (lv_at hl 0 rfl) ?_
        refine lv_dup hx hb dX12_pattern_83 rfl ?_
        refine ng_13 hx hb hts in_x_pattern hown hK hP (hts _ (List.mem_cons_of_mem _ (List.mem_append_left _ (List.mem_append_left _ (List.mem_of_getElem? (i := 18) rfl))))) dX12_pattern_84 ?_
        refine lv_iconst (v := 1) hx hb dX12_pattern_87 (by decide) ?_
        refine lv_isub hx hb dX12_pattern_88 ?_
        refine np_13 hx hb hts in_x_pattern hown hK hP hD hS (hts _ (List.mem_cons_of_mem _ (List.mem_append_left _ (List.mem_append_left _ (List.mem_of_getElem? (i := 18) rfl))))) dX12_pattern_89 (fun H locs hP hD hS => ?_)
        exact ih.2.2.2.2.2.2 L (upd r1.2.1 13 ((((r1.2.1 13)) - 1)), r1.2.2.1, r1.2.2.2) r h H locs ls hP hD hS (lv_sub hl [0, 1, 2, 3, 4] rfl)
      · intro L σ r h H locs ls hP hD hS hl
        rw [x_pattern] at h
        refine lv_iload_n hx hb dX12_pattern_92 rfl (lv_at hl 3 rfl) ?_
        cases h
        exact W.iret (v := (L 3)) hx hb hr (fun t ht hW => ⟨⟨(L 3), (), rfl, rfl, by rw [ht]; exact hP, va_K.moved hW.alike hK, hD⟩, hS.F ht⟩) hS.2.2 dX12_pattern_93
  exact (blk k0).1 L0 σ0 r0 h0 s.heap [] ls hP hD hS hl
/-! wrapped -/
def x_wrapped : Nat → Nat → (Nat → Int32) → MS → Option (Int32 × MS)
  | 0, _, _, _ => none
  | k + 1, 0, L, σ => ob (x_node k 0 (upd (upd (upd (upd (fun _ => 0) 1 ((L 1))) 2 ((L 2))) 3 ((L 3))) 4 ((L 4))) σ) (fun r1 => if ¬ (r1.1 < 0 ∨ 70000 ≤ r1.1.toNatClampNeg) then (x_wrapped k 1 (upd L 6 r1.1) (r1.2.1, r1.2.2.1, updG r1.2.2.2 8 (upd (r1.2.2.2 8) r1.1.toNatClampNeg ((L 5))))) else none)
  | k + 1, 1, L, σ => some ((L 6), σ)
  | _ + 1, _ + 2, _, _ => none
def o_x_wrapped : List Cond := [.methodLink RX12 101 yX12_node, .instanceMethod yX12_node, .selects RX12 yX12_node yX12_node, .initialized RX12, .fieldLink RX12 95 "SetHouseModel" "x4" "[I"]
theorem o_x_wrapped_good : o_x_wrapped.all goodWord = true := by decide +kernel
def p_x_wrapped : List Cond := o_x_wrapped ++ ((.code yX12_node cX12_node 6 (some .int) :: p_x_node) ++ [])
theorem p_x_wrapped_good : p_x_wrapped.all goodWord = true := nb_all2 o_x_wrapped_good (nb_all2 (nb_allc (by decide +kernel) p_x_node_good) rfl)
def w_x_wrapped : List Cond := .code yX12_wrapped cX12_wrapped 7 (some .int) :: (p_x_wrapped ++ fM)
theorem w_x_wrapped_good : w_x_wrapped.all goodWord = true := nb_allc (by decide +kernel) (nb_all2 p_x_wrapped_good fM_good)
theorem in_x_wrapped : ∀ w ∈ wsX120, w ∈ w_x_wrapped := fun _ h => List.mem_cons_of_mem _ (List.mem_append_right _ h)
theorem hd_x_wrapped : yX12_wrapped.cls = RX12 ∧ yX12_wrapped.cls ≠ "java/lang/invoke/MethodHandle" ∧ yX12_wrapped.cls ≠ "java/lang/invoke/VarHandle" ∧ (parseMethodDescriptor yX12_wrapped.desc).map (fun d => d.parameters.length) = some 5 := by decide +kernel
theorem gg_x_wrapped_node : GoodIn w_x_wrapped w_x_node := goodIn_sub (fun w h => (List.mem_cons.mp h).elim (fun e => (List.mem_cons_of_mem _ (List.mem_append_left _ (List.mem_append_right _ (List.mem_append_left _ (List.mem_cons.mpr (Or.inl e))))))) (fun h => (List.mem_append.mp h).elim (fun h => (List.mem_cons_of_mem _ (List.mem_append_left _ (List.mem_append_right _ (List.mem_append_left _ (List.mem_cons_of_mem _ h)))))) (fun h => List.mem_cons_of_mem _ (List.mem_append_right _ h)))) w_x_node_good
theorem g_x_wrapped_node_101 : GoodIn w_x_wrapped (wsV RX12 101 RX12 yX12_node w_x_node) := goodIn_app (nb_g4 (List.mem_cons_of_mem _ (List.mem_append_left _ (List.mem_append_left _ (List.mem_of_getElem? (i := 0) rfl)))) (List.mem_cons_of_mem _ (List.mem_append_left _ (List.mem_append_left _ (List.mem_of_getElem? (i := 1) rfl)))) (List.mem_cons_of_mem _ (List.mem_append_left _ (List.mem_append_left _ (List.mem_of_getElem? (i := 2) rfl)))) (List.mem_cons_of_mem _ (List.mem_append_left _ (List.mem_append_left _ (List.mem_of_getElem? (i := 3) rfl)))) (by decide +kernel)) gg_x_wrapped_node
set_option maxHeartbeats 40000000 in
set_option maxRecDepth 100000 in
theorem c_x_wrapped (l : Launch) (dC : Nat → ClassId) (dI : Nat → Nat → Nat) (cy : Nat → ClassId) (a : Nat → Nat) (k0 : Nat) (L0 : Nat → Int32) (σ0 : MS) (r0 : Int32 × MS) (h0 : x_wrapped k0 0 L0 σ0 = some r0) (sz : Nat) : Met l yX12_wrapped w_x_wrapped ({ frames := 1, cells := 0, slots := 0, locals := 25 }) (va_Pc [.ref (a 0), .int (L0 1), .int (L0 2), .int (L0 3), .int (L0 4), .int (L0 5)] (nIn (dC, dI) cy sz (vM cy a σ0))) (va_Qi (fun (z : Int32) (_ : Unit) => z = r0.1) (fun _ t => nOut (dC, dI) cy (va_A (vM cy a σ0) sz) (vM cy a r0.2) t) (va_A (vM cy a σ0) sz)) 0 0 (va_A (vM cy a σ0) sz) := by
  refine Met.ofW (cc := cX12_wrapped) (maxL := 7) (ret := (some .int)) (by decide) rfl ?_
  intro p e s m args below meth c s₁ B hml hv
  obtain ⟨rfl, hsz, hP, hK, hD0, hG⟩ := hv
  have hx := B.exec
  have hb := B.bytes
  have hr := B.returns
  have hts := atoms_spec (ws := w_x_wrapped) B.pre
  have hown : s.vm.findClass RX12 = some m.cls := findClass_of_methodNamed B.named
  have hlocks := B.notSynchronized
  subst hsz
  have hD := hD0.self (sz := s.heap.size)
  generalize hAe : va_A (vM cy a σ0) s.heap.size = A at hD ⊢
  have hA : ∀ q : Nat, s.heap.size ≤ q → A q := fun q h => by rw [← hAe]; exact Or.inr h
  have hS : va_S A s.heap s.heap [] := va_S.rf
  have hl := lv_entry ([.ref (a 0), .int (L0 1), .int (L0 2), .int (L0 3), .int (L0 4), .int (L0 5)]) (n := 7) (Nat.le_of_ble_eq_true rfl)
  rw [lg_entry_eq]
  generalize (lg_sl ([.ref (a 0), .int (L0 1), .int (L0 2), .int (L0 3), .int (L0 4), .int (L0 5)]) ++ List.replicate (7 - (lg_sl ([.ref (a 0), .int (L0 1), .int (L0 2), .int (L0 3), .int (L0 4), .int (L0 5)])).length) Slot.unset).toArray = ls at hl ⊢
  have hl : lv_has ls 7 [(0, .ref (a 0)), (1, .int (L0 1)), (2, .int (L0 2)), (3, .int (L0 3)), (4, .int (L0 4)), (5, .int (L0 5))] := hl
  have blk : ∀ k : Nat, (bT p l e (headSpec w_x_wrapped ({ frames := 1, cells := 0, slots := 0, locals := 25 })).room s m #[.ref (a 0), .int (L0 1), .int (L0 2), .int (L0 3), .int (L0 4), .int (L0 5)] below meth c dC dI cy a A (qI dC dI cy a A below #[.ref (a 0), .int (L0 1), .int (L0 2), .int (L0 3), .int (L0 4), .int (L0 5)] s) 7 (x_wrapped k 0) (fun L => [(0, .ref (a 0)), (1, .int (L 1)), (2, .int (L 2)), (3, .int (L 3)), (4, .int (L 4)), (5, .int (L 5))]) 0 (fun L => [])) ∧ (bT p l e (headSpec w_x_wrapped ({ frames := 1, cells := 0, slots := 0, locals := 25 })).room s m #[.ref (a 0), .int (L0 1), .int (L0 2), .int (L0 3), .int (L0 4), .int (L0 5)] below meth c dC dI cy a A (qI dC dI cy a A below #[.ref (a 0), .int (L0 1), .int (L0 2), .int (L0 3), .int (L0 4), .int (L0 5)] s) 7 (x_wrapped k 1) (fun L => [(0, .ref (a 0)), (1, .int (L 1)), (2, .int (L 2)), (3, .int (L 3)), (4, .int (L 4)), (5, .int (L 5)), (6, .int (L 6))]) 20 (fun L => [])) := by
    intro k
    induction k with
    | zero => exact ⟨fun L σ r h => (by cases h), fun L σ r h => (by cases h)⟩
    | succ k ih =>
      refine ⟨?_, ?_⟩
      · intro L σ r h H locs ls hP hD hS hl
        rw [x_wrapped] at h
        refine lv_aload_n hx hb dX12_wrapped_0 rfl (lv_at hl 0 rfl) ?_
        refine lv_iload_n hx hb dX12_wrapped_1 rfl (lv_at hl 1 rfl) ?_
        refine lv_iload_n hx hb dX12_wrapped_2 rfl (lv_at hl 2 rfl) ?_
        refine lv_iload_n hx hb dX12_wrapped_3 rfl (lv_at hl 3 rfl) ?_
        refine lv_iload hx hb dX12_wrapped_4 (lv_at hl 4 rfl) ?_
        obtain ⟨r1, hc1, h⟩ := ob_ex h
        refine nc_Vi (As := [.int (L 1), .int (L 2), .int (L 3), .int (L 4)]) (rest := []) ⟨hx, hb, hml, hown, hts⟩ (c_x_node l dC dI cy a k (upd (upd (upd (upd (fun _ => 0) 1 ((L 1))) 2 ((L 2))) 3 ((L 3))) 4 ((L 4))) σ r1 hc1 H.size) (cwV 4 hts g_x_wrapped_node_101 rfl rfl rfl hd_x_node ⟨Nat.le_of_ble_eq_true rfl, Nat.le_of_ble_eq_true rfl⟩) hK hG hA hP hD hS rfl hl.1 rfl (Nat.le_of_ble_eq_true rfl) dX12_wrapped_6 ⟨Nat.le_refl _, Nat.le_refl _⟩ (fun H locs hP hD hS => ?_)
        refine lv_istore (lv' := [(6, .int r1.1), (0, .ref (a 0)), (1, .int (L 1)), (2, .int (L 2)), (3, .int (L 3)), (4, .int (L 4)), (5, .int (L 5))]) hx hb dX12_wrapped_9 hl (by decide) rfl (fun ls hl => ?_)
        refine lv_aload_n hx hb dX12_wrapped_11 rfl (lv_at hl 1 rfl) ?_
        refine ng_18 hx hb hts in_x_wrapped hown hK hP (hts _ (List.mem_cons_of_mem _ (List.mem_append_left _ (List.mem_append_left _ (List.mem_of_getElem? (i := 4) rfl))))) dX12_wrapped_12 ?_
        refine lv_iload hx hb dX12_wrapped_15 (lv_at hl 0 rfl) ?_
        refine lv_iload hx hb dX12_wrapped_17 (lv_at hl 6 rfl) ?_
        obtain ⟨q2, h⟩ := nb_ite1 h
        refine ns_8 hx hb hK hP hD hS q2 dX12_wrapped_19 (fun H locs hP hD hS => ?_)
        exact ih.2 (upd L 6 r1.1) (r1.2.1, r1.2.2.1, updG r1.2.2.2 8 (upd (r1.2.2.2 8) r1.1.toNatClampNeg ((L 5)))) r h H locs ls hP hD hS (lv_sub hl [1, 2, 3, 4, 5, 6, 0] rfl)
      · intro L σ r h H locs ls hP hD hS hl
        rw [x_wrapped] at h
        refine lv_iload hx hb dX12_wrapped_20 (lv_at hl 6 rfl) ?_
        cases h
        exact W.iret (v := (L 6)) hx hb hr (fun t ht hW => ⟨⟨(L 6), (), rfl, rfl, by rw [ht]; exact hP, va_K.moved hW.alike hK, hD⟩, hS.F ht⟩) hS.2.2 dX12_wrapped_22
  exact (blk k0).1 L0 σ0 r0 h0 s.heap [] ls hP hD hS hl
/-! named -/
def x_named : Nat → Nat → (Nat → Int32) → MS → Option (Int32 × MS)
  | 0, _, _, _ => none
  | k + 1, 0, L, σ => ob (x_node k 0 (upd (upd (upd (upd (fun _ => 0) 1 ((L 1))) 2 0) 3 0) 4 0) σ) (fun r1 => ob (x_take k 0 (fun _ => 0) r1.2) (fun r2 => some (r1.1, r2.2)))
  | _ + 1, _ + 1, _, _ => none
def o_x_named : List Cond := [.methodLink RX12 101 yX12_node, .instanceMethod yX12_node, .selects RX12 yX12_node yX12_node, .initialized RX12, .methodLink RX12 71 yX12_take, .instanceMethod yX12_take, .selects RX12 yX12_take yX12_take]
theorem o_x_named_good : o_x_named.all goodWord = true := by decide +kernel
def p_x_named : List Cond := o_x_named ++ ((.code yX12_node cX12_node 6 (some .int) :: p_x_node) ++ ((.code yX12_take cX12_take 2 none :: p_x_take) ++ []))
theorem p_x_named_good : p_x_named.all goodWord = true := nb_all2 o_x_named_good (nb_all2 (nb_allc (by decide +kernel) p_x_node_good) (nb_all2 (nb_allc (by decide +kernel) p_x_take_good) rfl))
def w_x_named : List Cond := .code yX12_named cX12_named 3 (some .int) :: (p_x_named ++ fM)
theorem w_x_named_good : w_x_named.all goodWord = true := nb_allc (by decide +kernel) (nb_all2 p_x_named_good fM_good)
theorem in_x_named : ∀ w ∈ wsX120, w ∈ w_x_named := fun _ h => List.mem_cons_of_mem _ (List.mem_append_right _ h)
theorem hd_x_named : yX12_named.cls = RX12 ∧ yX12_named.cls ≠ "java/lang/invoke/MethodHandle" ∧ yX12_named.cls ≠ "java/lang/invoke/VarHandle" ∧ (parseMethodDescriptor yX12_named.desc).map (fun d => d.parameters.length) = some 1 := by decide +kernel
theorem gg_x_named_node : GoodIn w_x_named w_x_node := goodIn_sub (fun w h => (List.mem_cons.mp h).elim (fun e => (List.mem_cons_of_mem _ (List.mem_append_left _ (List.mem_append_right _ (List.mem_append_left _ (List.mem_cons.mpr (Or.inl e))))))) (fun h => (List.mem_append.mp h).elim (fun h => (List.mem_cons_of_mem _ (List.mem_append_left _ (List.mem_append_right _ (List.mem_append_left _ (List.mem_cons_of_mem _ h)))))) (fun h => List.mem_cons_of_mem _ (List.mem_append_right _ h)))) w_x_node_good
theorem g_x_named_node_101 : GoodIn w_x_named (wsV RX12 101 RX12 yX12_node w_x_node) := goodIn_app (nb_g4 (List.mem_cons_of_mem _ (List.mem_append_left _ (List.mem_append_left _ (List.mem_of_getElem? (i := 0) rfl)))) (List.mem_cons_of_mem _ (List.mem_append_left _ (List.mem_append_left _ (List.mem_of_getElem? (i := 1) rfl)))) (List.mem_cons_of_mem _ (List.mem_append_left _ (List.mem_append_left _ (List.mem_of_getElem? (i := 2) rfl)))) (List.mem_cons_of_mem _ (List.mem_append_left _ (List.mem_append_left _ (List.mem_of_getElem? (i := 3) rfl)))) (by decide +kernel)) gg_x_named_node
theorem gg_x_named_take : GoodIn w_x_named w_x_take := goodIn_sub (fun w h => (List.mem_cons.mp h).elim (fun e => (List.mem_cons_of_mem _ (List.mem_append_left _ (List.mem_append_right _ (List.mem_append_right _ (List.mem_append_left _ (List.mem_cons.mpr (Or.inl e)))))))) (fun h => (List.mem_append.mp h).elim (fun h => (List.mem_cons_of_mem _ (List.mem_append_left _ (List.mem_append_right _ (List.mem_append_right _ (List.mem_append_left _ (List.mem_cons_of_mem _ h))))))) (fun h => List.mem_cons_of_mem _ (List.mem_append_right _ h)))) w_x_take_good
theorem g_x_named_take_71 : GoodIn w_x_named (wsV RX12 71 RX12 yX12_take w_x_take) := goodIn_app (nb_g4 (List.mem_cons_of_mem _ (List.mem_append_left _ (List.mem_append_left _ (List.mem_of_getElem? (i := 4) rfl)))) (List.mem_cons_of_mem _ (List.mem_append_left _ (List.mem_append_left _ (List.mem_of_getElem? (i := 5) rfl)))) (List.mem_cons_of_mem _ (List.mem_append_left _ (List.mem_append_left _ (List.mem_of_getElem? (i := 6) rfl)))) (List.mem_cons_of_mem _ (List.mem_append_left _ (List.mem_append_left _ (List.mem_of_getElem? (i := 3) rfl)))) (by decide +kernel)) gg_x_named_take
set_option maxHeartbeats 40000000 in
set_option maxRecDepth 100000 in
theorem c_x_named (l : Launch) (dC : Nat → ClassId) (dI : Nat → Nat → Nat) (cy : Nat → ClassId) (a : Nat → Nat) (k0 : Nat) (L0 : Nat → Int32) (σ0 : MS) (r0 : Int32 × MS) (h0 : x_named k0 0 L0 σ0 = some r0) (sz : Nat) : Met l yX12_named w_x_named ({ frames := 3, cells := 0, slots := 0, locals := 64 }) (va_Pc [.ref (a 0), .int (L0 1)] (nIn (dC, dI) cy sz (vM cy a σ0))) (va_Qi (fun (z : Int32) (_ : Unit) => z = r0.1) (fun _ t => nOut (dC, dI) cy (va_A (vM cy a σ0) sz) (vM cy a r0.2) t) (va_A (vM cy a σ0) sz)) 0 0 (va_A (vM cy a σ0) sz) := by
  refine Met.ofW (cc := cX12_named) (maxL := 3) (ret := (some .int)) (by decide) rfl ?_
  intro p e s m args below meth c s₁ B hml hv
  obtain ⟨rfl, hsz, hP, hK, hD0, hG⟩ := hv
  have hx := B.exec
  have hb := B.bytes
  have hr := B.returns
  have hts := atoms_spec (ws := w_x_named) B.pre
  have hown : s.vm.findClass RX12 = some m.cls := findClass_of_methodNamed B.named
  have hlocks := B.notSynchronized
  subst hsz
  have hD := hD0.self (sz := s.heap.size)
  generalize hAe : va_A (vM cy a σ0) s.heap.size = A at hD ⊢
  have hA : ∀ q : Nat, s.heap.size ≤ q → A q := fun q h => by rw [← hAe]; exact Or.inr h
  have hS : va_S A s.heap s.heap [] := va_S.rf
  have hl := lv_entry ([.ref (a 0), .int (L0 1)]) (n := 3) (Nat.le_of_ble_eq_true rfl)
  rw [lg_entry_eq]
  generalize (lg_sl ([.ref (a 0), .int (L0 1)]) ++ List.replicate (3 - (lg_sl ([.ref (a 0), .int (L0 1)])).length) Slot.unset).toArray = ls at hl ⊢
  have hl : lv_has ls 3 [(0, .ref (a 0)), (1, .int (L0 1))] := hl
  have blk : ∀ k : Nat, (bT p l e (headSpec w_x_named ({ frames := 3, cells := 0, slots := 0, locals := 64 })).room s m #[.ref (a 0), .int (L0 1)] below meth c dC dI cy a A (qI dC dI cy a A below #[.ref (a 0), .int (L0 1)] s) 3 (x_named k 0) (fun L => [(0, .ref (a 0)), (1, .int (L 1))]) 0 (fun L => [])) := by
    intro k
    induction k with
    | zero => exact fun L σ r h => (by cases h)
    | succ k ih =>
      skip
      · intro L σ r h H locs ls hP hD hS hl
        rw [x_named] at h
        refine lv_aload_n hx hb dX12_named_0 rfl (lv_at hl 0 rfl) ?_
        refine lv_iload_n hx hb dX12_named_1 rfl (lv_at hl 1 rfl) ?_
        refine lv_iconst (v := 0) hx hb dX12_named_2 (by decide) ?_
        refine lv_iconst (v := 0) hx hb dX12_named_3 (by decide) ?_
        refine lv_iconst (v := 0) hx hb dX12_named_4 (by decide) ?_
        obtain ⟨r1, hc1, h⟩ := ob_ex h
        refine nc_Vi (As := [.int (L 1), .int 0, .int 0, .int 0]) (rest := []) ⟨hx, hb, hml, hown, hts⟩ (c_x_node l dC dI cy a k (upd (upd (upd (upd (fun _ => 0) 1 ((L 1))) 2 0) 3 0) 4 0) σ r1 hc1 H.size) (cwV 4 hts g_x_named_node_101 rfl rfl rfl hd_x_node ⟨Nat.le_of_ble_eq_true rfl, Nat.le_of_ble_eq_true rfl⟩) hK hG hA hP hD hS rfl hl.1 rfl (Nat.le_of_ble_eq_true rfl) dX12_named_5 ⟨Nat.le_refl _, Nat.le_refl _⟩ (fun H locs hP hD hS => ?_)
        refine lv_istore_n (lv' := [(2, .int r1.1), (0, .ref (a 0)), (1, .int (L 1))]) hx hb dX12_named_8 rfl hl (by decide) rfl (fun ls hl => ?_)
        refine lv_aload_n hx hb dX12_named_9 rfl (lv_at hl 1 rfl) ?_
        obtain ⟨r2, hc2, h⟩ := ob_ex h
        refine nc_Vv (As := []) (rest := []) ⟨hx, hb, hml, hown, hts⟩ (c_x_take l dC dI cy a k (fun _ => 0) r1.2 r2 hc2 H.size) (cwV 0 hts g_x_named_take_71 rfl rfl rfl hd_x_take ⟨Nat.le_of_ble_eq_true rfl, Nat.le_of_ble_eq_true rfl⟩) hK hG hA hP hD hS rfl hl.1 rfl (Nat.le_of_ble_eq_true rfl) dX12_named_10 ⟨Nat.le_refl _, Nat.le_refl _⟩ (fun H locs hP hD hS => ?_)
        refine lv_iload_n hx hb dX12_named_13 rfl (lv_at hl 0 rfl) ?_
        cases h
        exact W.iret (v := r1.1) hx hb hr (fun t ht hW => ⟨⟨r1.1, (), rfl, rfl, by rw [ht]; exact hP, va_K.moved hW.alike hK, hD⟩, hS.F ht⟩) hS.2.2 dX12_named_14
  exact (blk k0) L0 σ0 r0 h0 s.heap [] ls hP hD hS hl
/-! GE: brackets, choice, conjunction, exp, iters, listed, name, negation, parts, power, prefix, primary, quantified, relation, sum, term, wordly -/
def s_brackets (X : Nat → Nat → Nat → (Nat → Int32) → MS → Option (Int32 × MS)) (K d : Nat) (b : Nat) (L : Nat → Int32) (σ : MS) : Option (Int32 × MS) := match b with
  | 0 => ob (x_isSign K 0 (upd (fun _ => 0) 1 8) σ) (fun r1 => if r1.1 = 0 then (X d 0 1 L r1.2) else (X d 0 2 (upd L 100 1) r1.2))
  | 1 => X d 0 2 (upd L 100 0) σ
  | 2 => if ((L 100)) = 1 then (X d 0 4 (upd (upd L 1 ((L 100))) 100 9) σ) else (X d 0 3 (upd L 1 ((L 100))) σ)
  | 3 => X d 0 4 (upd L 100 11) σ
  | 4 => ob (x_open K 0 (fun _ => 0) σ) (fun r1 => if ((r1.2.1 10)) = 0 then (ob (x_take K 0 (fun _ => 0) r1.2) (fun r3 => X d 0 5 (upd L 2 ((L 100))) r3.2)) else (X d 0 5 (upd L 2 ((L 100))) r1.2))
  | 5 => if ((σ.1 10)) = 0 then (X d 0 6 (upd L 3 0) σ) else (some (0, σ))
  | 6 => ob (x_isSign K 0 (upd (fun _ => 0) 1 ((L 2))) σ) (fun r1 => if r1.1 = 0 then (X d 0 9 L r1.2) else (if ((L 1)) = 1 then (X d 0 8 (upd L 100 10) r1.2) else (X d 0 7 L r1.2)))
  | 7 => X d 0 8 (upd L 100 11) σ
  | 8 => ob (x_node K 0 (upd (upd (upd (upd (fun _ => 0) 1 ((L 100))) 2 0) 3 ((-1))) 4 0) σ) (fun r1 => X d 0 12 (upd L 3 r1.1) r1.2)
  | 9 => ob (x_isWord K 0 (upd (fun _ => 0) 1 13) σ) (fun r1 => if r1.1 = 0 then (X d 0 11 L r1.2) else (ob (x_take K 0 (fun _ => 0) r1.2) (fun r3 => od d (fun e4 => ob (X e4 4 0 (upd (fun _ => 0) 1 0) r3.2) (fun r4 => if ((r4.2.1 10)) = 0 then (ob (x_isSign K 0 (upd (fun _ => 0) 1 15) r4.2) (fun r6 => if r6.1 = 0 then (X d 0 10 (upd (upd (upd L 4 ((r3.2.1 38))) 5 r4.1) 6 ((-1))) r6.2) else (ob (x_take K 0 (fun _ => 0) r6.2) (fun r8 => od d (fun e9 => ob (X e9 3 0 (fun _ => 0) r8.2) (fun r9 => X d 0 10 (upd (upd (upd L 4 ((r3.2.1 38))) 5 r4.1) 6 r9.1) r9.2)))))) else (X d 0 10 (upd (upd (upd L 4 ((r3.2.1 38))) 5 r4.1) 6 ((-1))) r4.2))))))
  | 10 => ob (x_want K 0 (upd (fun _ => 0) 1 14) σ) (fun r1 => od d (fun e2 => ob (X e2 3 0 (fun _ => 0) r1.2) (fun r2 => ob (x_wrapped K 0 (upd (upd (upd (upd (upd (fun _ => 0) 1 13) 2 ((L 1))) 3 ((L 5))) 4 ((L 6))) 5 r2.1) r2.2) (fun r3 => X d 0 12 (upd (upd L 7 r2.1) 3 r3.1) (upd r3.2.1 38 ((L 4)), r3.2.2.1, r3.2.2.2)))))
  | 11 => od d (fun e1 => ob (X e1 5 0 (upd (fun _ => 0) 1 ((L 1))) σ) (fun r1 => X d 0 12 (upd L 3 r1.1) r1.2))
  | 12 => ob (x_want K 0 (upd (fun _ => 0) 1 ((L 2))) σ) (fun r1 => X d 0 13 L (upd r1.2.1 13 ((((r1.2.1 13)) - 1)), r1.2.2.1, r1.2.2.2))
  | 13 => some ((L 3), σ)
  | _ => none
theorem s_brackets_0 (X : Nat → Nat → Nat → (Nat → Int32) → MS → Option (Int32 × MS)) (K d : Nat) (L : Nat → Int32) (σ : MS) : s_brackets X K d 0 L σ = (ob (x_isSign K 0 (upd (fun _ => 0) 1 8) σ) (fun r1 => if r1.1 = 0 then (X d 0 1 L r1.2) else (X d 0 2 (upd L 100 1) r1.2))) := rfl
theorem s_brackets_1 (X : Nat → Nat → Nat → (Nat → Int32) → MS → Option (Int32 × MS)) (K d : Nat) (L : Nat → Int32) (σ : MS) : s_brackets X K d 1 L σ = (X d 0 2 (upd L 100 0) σ) := rfl
theorem s_brackets_2 (X : Nat → Nat → Nat → (Nat → Int32) → MS → Option (Int32 × MS)) (K d : Nat) (L : Nat → Int32) (σ : MS) : s_brackets X K d 2 L σ = (if ((L 100)) = 1 then (X d 0 4 (upd (upd L 1 ((L 100))) 100 9) σ) else (X d 0 3 (upd L 1 ((L 100))) σ)) := rfl
theorem s_brackets_3 (X : Nat → Nat → Nat → (Nat → Int32) → MS → Option (Int32 × MS)) (K d : Nat) (L : Nat → Int32) (σ : MS) : s_brackets X K d 3 L σ = (X d 0 4 (upd L 100 11) σ) := rfl
theorem s_brackets_4 (X : Nat → Nat → Nat → (Nat → Int32) → MS → Option (Int32 × MS)) (K d : Nat) (L : Nat → Int32) (σ : MS) : s_brackets X K d 4 L σ = (ob (x_open K 0 (fun _ => 0) σ) (fun r1 => if ((r1.2.1 10)) = 0 then (ob (x_take K 0 (fun _ => 0) r1.2) (fun r3 => X d 0 5 (upd L 2 ((L 100))) r3.2)) else (X d 0 5 (upd L 2 ((L 100))) r1.2))) := rfl
theorem s_brackets_5 (X : Nat → Nat → Nat → (Nat → Int32) → MS → Option (Int32 × MS)) (K d : Nat) (L : Nat → Int32) (σ : MS) : s_brackets X K d 5 L σ = (if ((σ.1 10)) = 0 then (X d 0 6 (upd L 3 0) σ) else (some (0, σ))) := rfl
theorem s_brackets_6 (X : Nat → Nat → Nat → (Nat → Int32) → MS → Option (Int32 × MS)) (K d : Nat) (L : Nat → Int32) (σ : MS) : s_brackets X K d 6 L σ = (ob (x_isSign K 0 (upd (fun _ => 0) 1 ((L 2))) σ) (fun r1 => if r1.1 = 0 then (X d 0 9 L r1.2) else (if ((L 1)) = 1 then (X d 0 8 (upd L 100 10) r1.2) else (X d 0 7 L r1.2)))) := rfl
theorem s_brackets_7 (X : Nat → Nat → Nat → (Nat → Int32) → MS → Option (Int32 × MS)) (K d : Nat) (L : Nat → Int32) (σ : MS) : s_brackets X K d 7 L σ = (X d 0 8 (upd L 100 11) σ) := rfl
theorem s_brackets_8 (X : Nat → Nat → Nat → (Nat → Int32) → MS → Option (Int32 × MS)) (K d : Nat) (L : Nat → Int32) (σ : MS) : s_brackets X K d 8 L σ = (ob (x_node K 0 (upd (upd (upd (upd (fun _ => 0) 1 ((L 100))) 2 0) 3 ((-1))) 4 0) σ) (fun r1 => X d 0 12 (upd L 3 r1.1) r1.2)) := rfl
theorem s_brackets_9 (X : Nat → Nat → Nat → (Nat → Int32) → MS → Option (Int32 × MS)) (K d : Nat) (L : Nat → Int32) (σ : MS) : s_brackets X K d 9 L σ = (ob (x_isWord K 0 (upd (fun _ => 0) 1 13) σ) (fun r1 => if r1.1 = 0 then (X d 0 11 L r1.2) else (ob (x_take K 0 (fun _ => 0) r1.2) (fun r3 => od d (fun e4 => ob (X e4 4 0 (upd (fun _ => 0) 1 0) r3.2) (fun r4 => if ((r4.2.1 10)) = 0 then (ob (x_isSign K 0 (upd (fun _ => 0) 1 15) r4.2) (fun r6 => if r6.1 = 0 then (X d 0 10 (upd (upd (upd L 4 ((r3.2.1 38))) 5 r4.1) 6 ((-1))) r6.2) else (ob (x_take K 0 (fun _ => 0) r6.2) (fun r8 => od d (fun e9 => ob (X e9 3 0 (fun _ => 0) r8.2) (fun r9 => X d 0 10 (upd (upd (upd L 4 ((r3.2.1 38))) 5 r4.1) 6 r9.1) r9.2)))))) else (X d 0 10 (upd (upd (upd L 4 ((r3.2.1 38))) 5 r4.1) 6 ((-1))) r4.2))))))) := rfl
theorem s_brackets_10 (X : Nat → Nat → Nat → (Nat → Int32) → MS → Option (Int32 × MS)) (K d : Nat) (L : Nat → Int32) (σ : MS) : s_brackets X K d 10 L σ = (ob (x_want K 0 (upd (fun _ => 0) 1 14) σ) (fun r1 => od d (fun e2 => ob (X e2 3 0 (fun _ => 0) r1.2) (fun r2 => ob (x_wrapped K 0 (upd (upd (upd (upd (upd (fun _ => 0) 1 13) 2 ((L 1))) 3 ((L 5))) 4 ((L 6))) 5 r2.1) r2.2) (fun r3 => X d 0 12 (upd (upd L 7 r2.1) 3 r3.1) (upd r3.2.1 38 ((L 4)), r3.2.2.1, r3.2.2.2)))))) := rfl
theorem s_brackets_11 (X : Nat → Nat → Nat → (Nat → Int32) → MS → Option (Int32 × MS)) (K d : Nat) (L : Nat → Int32) (σ : MS) : s_brackets X K d 11 L σ = (od d (fun e1 => ob (X e1 5 0 (upd (fun _ => 0) 1 ((L 1))) σ) (fun r1 => X d 0 12 (upd L 3 r1.1) r1.2))) := rfl
theorem s_brackets_12 (X : Nat → Nat → Nat → (Nat → Int32) → MS → Option (Int32 × MS)) (K d : Nat) (L : Nat → Int32) (σ : MS) : s_brackets X K d 12 L σ = (ob (x_want K 0 (upd (fun _ => 0) 1 ((L 2))) σ) (fun r1 => X d 0 13 L (upd r1.2.1 13 ((((r1.2.1 13)) - 1)), r1.2.2.1, r1.2.2.2))) := rfl
theorem s_brackets_13 (X : Nat → Nat → Nat → (Nat → Int32) → MS → Option (Int32 × MS)) (K d : Nat) (L : Nat → Int32) (σ : MS) : s_brackets X K d 13 L σ = (some ((L 3), σ)) := rfl
def s_choice (X : Nat → Nat → Nat → (Nat → Int32) → MS → Option (Int32 × MS)) (K d : Nat) (b : Nat) (L : Nat → Int32) (σ : MS) : Option (Int32 × MS) := match b with
  | 0 => ob (x_open K 0 (fun _ => 0) σ) (fun r1 => if ((r1.2.1 10)) = 0 then (ob (x_take K 0 (fun _ => 0) r1.2) (fun r3 => X d 1 1 L r3.2)) else (X d 1 1 L r1.2))
  | 1 => od d (fun e1 => ob (X e1 3 0 (fun _ => 0) σ) (fun r1 => ob (x_wantWord K 0 (upd (fun _ => 0) 1 8) r1.2) (fun r2 => od d (fun e3 => ob (X e3 3 0 (fun _ => 0) r2.2) (fun r3 => ob (x_node K 0 (upd (upd (upd (upd (fun _ => 0) 1 33) 2 r1.1) 3 r3.1) 4 0) r3.2) (fun r4 => X d 1 2 (upd (upd (upd (upd L 1 r1.1) 2 r3.1) 3 r4.1) 4 r4.1) r4.2))))))
  | 2 => if ((σ.1 10)) = 0 then (ob (x_isWord K 0 (upd (fun _ => 0) 1 9) σ) (fun r2 => if r2.1 = 0 then (X d 1 4 L r2.2) else (ob (x_take K 0 (fun _ => 0) r2.2) (fun r4 => od d (fun e5 => ob (X e5 3 0 (fun _ => 0) r4.2) (fun r5 => ob (x_wantWord K 0 (upd (fun _ => 0) 1 8) r5.2) (fun r6 => od d (fun e7 => ob (X e7 3 0 (fun _ => 0) r6.2) (fun r7 => ob (x_node K 0 (upd (upd (upd (upd (fun _ => 0) 1 33) 2 r5.1) 3 r7.1) 4 0) r7.2) (fun r8 => if ¬ (((L 4)) < 0 ∨ 70000 ≤ ((L 4)).toNatClampNeg) then (X d 1 3 (upd (upd L 1 r5.1) 2 r7.1) (r8.2.1, r8.2.2.1, updG r8.2.2.2 9 (upd (r8.2.2.2 9) ((L 4)).toNatClampNeg r8.1))) else none)))))))))) else (X d 1 4 L σ)
  | 3 => if ¬ (((L 4)) < 0 ∨ 70000 ≤ ((L 4)).toNatClampNeg) then (X d 1 2 (upd L 4 ((σ.2.2 9 ((L 4)).toNatClampNeg))) σ) else none
  | 4 => ob (x_wantWord K 0 (upd (fun _ => 0) 1 10) σ) (fun r1 => od d (fun e2 => ob (X e2 3 0 (fun _ => 0) r1.2) (fun r2 => ob (x_node K 0 (upd (upd (upd (upd (fun _ => 0) 1 33) 2 ((-1))) 3 r2.1) 4 0) r2.2) (fun r3 => if ¬ (((L 4)) < 0 ∨ 70000 ≤ ((L 4)).toNatClampNeg) then (X d 1 5 (upd L 2 r2.1) (r3.2.1, r3.2.2.1, updG r3.2.2.2 9 (upd (r3.2.2.2 9) ((L 4)).toNatClampNeg r3.1))) else none))))
  | 5 => ob (x_wantWord K 0 (upd (fun _ => 0) 1 6) σ) (fun r1 => X d 1 6 L (upd r1.2.1 13 ((((r1.2.1 13)) - 1)), r1.2.2.1, r1.2.2.2))
  | 6 => ob (x_node K 0 (upd (upd (upd (upd (fun _ => 0) 1 15) 2 0) 3 ((L 3))) 4 0) σ) (fun r1 => some (r1.1, r1.2))
  | _ => none
theorem s_choice_0 (X : Nat → Nat → Nat → (Nat → Int32) → MS → Option (Int32 × MS)) (K d : Nat) (L : Nat → Int32) (σ : MS) : s_choice X K d 0 L σ = (ob (x_open K 0 (fun _ => 0) σ) (fun r1 => if ((r1.2.1 10)) = 0 then (ob (x_take K 0 (fun _ => 0) r1.2) (fun r3 => X d 1 1 L r3.2)) else (X d 1 1 L r1.2))) := rfl
theorem s_choice_1 (X : Nat → Nat → Nat → (Nat → Int32) → MS → Option (Int32 × MS)) (K d : Nat) (L : Nat → Int32) (σ : MS) : s_choice X K d 1 L σ = (od d (fun e1 => ob (X e1 3 0 (fun _ => 0) σ) (fun r1 => ob (x_wantWord K 0 (upd (fun _ => 0) 1 8) r1.2) (fun r2 => od d (fun e3 => ob (X e3 3 0 (fun _ => 0) r2.2) (fun r3 => ob (x_node K 0 (upd (upd (upd (upd (fun _ => 0) 1 33) 2 r1.1) 3 r3.1) 4 0) r3.2) (fun r4 => X d 1 2 (upd (upd (upd (upd L 1 r1.1) 2 r3.1) 3 r4.1) 4 r4.1) r4.2))))))) := rfl
theorem s_choice_2 (X : Nat → Nat → Nat → (Nat → Int32) → MS → Option (Int32 × MS)) (K d : Nat) (L : Nat → Int32) (σ : MS) : s_choice X K d 2 L σ = (if ((σ.1 10)) = 0 then (ob (x_isWord K 0 (upd (fun _ => 0) 1 9) σ) (fun r2 => if r2.1 = 0 then (X d 1 4 L r2.2) else (ob (x_take K 0 (fun _ => 0) r2.2) (fun r4 => od d (fun e5 => ob (X e5 3 0 (fun _ => 0) r4.2) (fun r5 => ob (x_wantWord K 0 (upd (fun _ => 0) 1 8) r5.2) (fun r6 => od d (fun e7 => ob (X e7 3 0 (fun _ => 0) r6.2) (fun r7 => ob (x_node K 0 (upd (upd (upd (upd (fun _ => 0) 1 33) 2 r5.1) 3 r7.1) 4 0) r7.2) (fun r8 => if ¬ (((L 4)) < 0 ∨ 70000 ≤ ((L 4)).toNatClampNeg) then (X d 1 3 (upd (upd L 1 r5.1) 2 r7.1) (r8.2.1, r8.2.2.1, updG r8.2.2.2 9 (upd (r8.2.2.2 9) ((L 4)).toNatClampNeg r8.1))) else none)))))))))) else (X d 1 4 L σ)) := rfl
theorem s_choice_3 (X : Nat → Nat → Nat → (Nat → Int32) → MS → Option (Int32 × MS)) (K d : Nat) (L : Nat → Int32) (σ : MS) : s_choice X K d 3 L σ = (if ¬ (((L 4)) < 0 ∨ 70000 ≤ ((L 4)).toNatClampNeg) then (X d 1 2 (upd L 4 ((σ.2.2 9 ((L 4)).toNatClampNeg))) σ) else none) := rfl
theorem s_choice_4 (X : Nat → Nat → Nat → (Nat → Int32) → MS → Option (Int32 × MS)) (K d : Nat) (L : Nat → Int32) (σ : MS) : s_choice X K d 4 L σ = (ob (x_wantWord K 0 (upd (fun _ => 0) 1 10) σ) (fun r1 => od d (fun e2 => ob (X e2 3 0 (fun _ => 0) r1.2) (fun r2 => ob (x_node K 0 (upd (upd (upd (upd (fun _ => 0) 1 33) 2 ((-1))) 3 r2.1) 4 0) r2.2) (fun r3 => if ¬ (((L 4)) < 0 ∨ 70000 ≤ ((L 4)).toNatClampNeg) then (X d 1 5 (upd L 2 r2.1) (r3.2.1, r3.2.2.1, updG r3.2.2.2 9 (upd (r3.2.2.2 9) ((L 4)).toNatClampNeg r3.1))) else none))))) := rfl
theorem s_choice_5 (X : Nat → Nat → Nat → (Nat → Int32) → MS → Option (Int32 × MS)) (K d : Nat) (L : Nat → Int32) (σ : MS) : s_choice X K d 5 L σ = (ob (x_wantWord K 0 (upd (fun _ => 0) 1 6) σ) (fun r1 => X d 1 6 L (upd r1.2.1 13 ((((r1.2.1 13)) - 1)), r1.2.2.1, r1.2.2.2))) := rfl
theorem s_choice_6 (X : Nat → Nat → Nat → (Nat → Int32) → MS → Option (Int32 × MS)) (K d : Nat) (L : Nat → Int32) (σ : MS) : s_choice X K d 6 L σ = (ob (x_node K 0 (upd (upd (upd (upd (fun _ => 0) 1 15) 2 0) 3 ((L 3))) 4 0) σ) (fun r1 => some (r1.1, r1.2))) := rfl
def s_conjunction (X : Nat → Nat → Nat → (Nat → Int32) → MS → Option (Int32 × MS)) (K d : Nat) (b : Nat) (L : Nat → Int32) (σ : MS) : Option (Int32 × MS) := match b with
  | 0 => od d (fun e1 => ob (X e1 7 0 (fun _ => 0) σ) (fun r1 => X d 2 1 (upd L 1 r1.1) r1.2))
  | 1 => if ((σ.1 10)) = 0 then (ob (x_isWord K 0 (upd (fun _ => 0) 1 32) σ) (fun r2 => if r2.1 = 0 then (X d 2 2 L r2.2) else (ob (x_take K 0 (fun _ => 0) r2.2) (fun r4 => od d (fun e5 => ob (X e5 7 0 (fun _ => 0) r4.2) (fun r5 => ob (x_over K 0 (upd (upd (upd (upd (fun _ => 0) 1 24) 2 0) 3 ((L 1))) 4 r5.1) r5.2) (fun r6 => X d 2 1 (upd L 1 r6.1) r6.2))))))) else (X d 2 2 L σ)
  | 2 => some ((L 1), σ)
  | _ => none
theorem s_conjunction_0 (X : Nat → Nat → Nat → (Nat → Int32) → MS → Option (Int32 × MS)) (K d : Nat) (L : Nat → Int32) (σ : MS) : s_conjunction X K d 0 L σ = (od d (fun e1 => ob (X e1 7 0 (fun _ => 0) σ) (fun r1 => X d 2 1 (upd L 1 r1.1) r1.2))) := rfl
theorem s_conjunction_1 (X : Nat → Nat → Nat → (Nat → Int32) → MS → Option (Int32 × MS)) (K d : Nat) (L : Nat → Int32) (σ : MS) : s_conjunction X K d 1 L σ = (if ((σ.1 10)) = 0 then (ob (x_isWord K 0 (upd (fun _ => 0) 1 32) σ) (fun r2 => if r2.1 = 0 then (X d 2 2 L r2.2) else (ob (x_take K 0 (fun _ => 0) r2.2) (fun r4 => od d (fun e5 => ob (X e5 7 0 (fun _ => 0) r4.2) (fun r5 => ob (x_over K 0 (upd (upd (upd (upd (fun _ => 0) 1 24) 2 0) 3 ((L 1))) 4 r5.1) r5.2) (fun r6 => X d 2 1 (upd L 1 r6.1) r6.2))))))) else (X d 2 2 L σ)) := rfl
theorem s_conjunction_2 (X : Nat → Nat → Nat → (Nat → Int32) → MS → Option (Int32 × MS)) (K d : Nat) (L : Nat → Int32) (σ : MS) : s_conjunction X K d 2 L σ = (some ((L 1), σ)) := rfl
def s_exp (X : Nat → Nat → Nat → (Nat → Int32) → MS → Option (Int32 × MS)) (K d : Nat) (b : Nat) (L : Nat → Int32) (σ : MS) : Option (Int32 × MS) := match b with
  | 0 => od d (fun e1 => ob (X e1 2 0 (fun _ => 0) σ) (fun r1 => X d 3 1 (upd L 1 r1.1) r1.2))
  | 1 => if ((σ.1 10)) = 0 then (ob (x_isWord K 0 (upd (fun _ => 0) 1 33) σ) (fun r2 => if r2.1 = 0 then (X d 3 2 L r2.2) else (ob (x_take K 0 (fun _ => 0) r2.2) (fun r4 => od d (fun e5 => ob (X e5 2 0 (fun _ => 0) r4.2) (fun r5 => ob (x_over K 0 (upd (upd (upd (upd (fun _ => 0) 1 25) 2 0) 3 ((L 1))) 4 r5.1) r5.2) (fun r6 => X d 3 1 (upd L 1 r6.1) r6.2))))))) else (X d 3 2 L σ)
  | 2 => some ((L 1), σ)
  | _ => none
theorem s_exp_0 (X : Nat → Nat → Nat → (Nat → Int32) → MS → Option (Int32 × MS)) (K d : Nat) (L : Nat → Int32) (σ : MS) : s_exp X K d 0 L σ = (od d (fun e1 => ob (X e1 2 0 (fun _ => 0) σ) (fun r1 => X d 3 1 (upd L 1 r1.1) r1.2))) := rfl
theorem s_exp_1 (X : Nat → Nat → Nat → (Nat → Int32) → MS → Option (Int32 × MS)) (K d : Nat) (L : Nat → Int32) (σ : MS) : s_exp X K d 1 L σ = (if ((σ.1 10)) = 0 then (ob (x_isWord K 0 (upd (fun _ => 0) 1 33) σ) (fun r2 => if r2.1 = 0 then (X d 3 2 L r2.2) else (ob (x_take K 0 (fun _ => 0) r2.2) (fun r4 => od d (fun e5 => ob (X e5 2 0 (fun _ => 0) r4.2) (fun r5 => ob (x_over K 0 (upd (upd (upd (upd (fun _ => 0) 1 25) 2 0) 3 ((L 1))) 4 r5.1) r5.2) (fun r6 => X d 3 1 (upd L 1 r6.1) r6.2))))))) else (X d 3 2 L σ)) := rfl
theorem s_exp_2 (X : Nat → Nat → Nat → (Nat → Int32) → MS → Option (Int32 × MS)) (K d : Nat) (L : Nat → Int32) (σ : MS) : s_exp X K d 2 L σ = (some ((L 1), σ)) := rfl
def s_iters (X : Nat → Nat → Nat → (Nat → Int32) → MS → Option (Int32 × MS)) (K d : Nat) (b : Nat) (L : Nat → Int32) (σ : MS) : Option (Int32 × MS) := match b with
  | 0 => X d 4 1 (upd (upd (upd (upd L 2 ((σ.1 52))) 3 ((-1))) 4 ((-1))) 5 1) σ
  | 1 => if ((L 5)) = 0 then (X d 4 13 L σ) else (if ((σ.1 10)) = 0 then (ob (x_isSign K 0 (upd (fun _ => 0) 1 10) σ) (fun r3 => if r3.1 = 0 then (X d 4 2 (upd L 6 ((σ.1 52))) r3.2) else (X d 4 3 (upd (upd L 6 ((σ.1 52))) 100 1) r3.2))) else (X d 4 13 L σ))
  | 2 => X d 4 3 (upd L 100 0) σ
  | 3 => if ((L 100)) = 1 then (ob (x_pattern K 0 (upd (upd (fun _ => 0) 1 ((L 2))) 2 ((L 1))) σ) (fun r2 => X d 4 5 (upd (upd L 7 ((L 100))) 8 r2.1) r2.2)) else (X d 4 4 (upd (upd L 7 ((L 100))) 8 ((-1))) σ)
  | 4 => ob (x_tellName K 0 (upd (upd (fun _ => 0) 1 ((L 2))) 2 ((L 1))) σ) (fun r1 => X d 4 5 (upd L 8 r1.1) r1.2)
  | 5 => ob (x_wantWord K 0 (upd (fun _ => 0) 1 14) σ) (fun r1 => od d (fun e2 => ob (X e2 14 0 (fun _ => 0) r1.2) (fun r2 => ob (x_node K 0 (upd (upd (upd (upd (fun _ => 0) 1 30) 2 ((L 7))) 3 ((L 8))) 4 r2.1) r2.2) (fun r3 => if ((L 3)) = ((-1)) then (X d 4 7 (upd (upd (upd L 9 r2.1) 10 r3.1) 3 r3.1) r3.2) else (X d 4 6 (upd (upd L 9 r2.1) 10 r3.1) r3.2)))))
  | 6 => if ¬ (((L 4)) < 0 ∨ 70000 ≤ ((L 4)).toNatClampNeg) then (X d 4 7 L (σ.1, σ.2.1, updG σ.2.2 9 (upd (σ.2.2 9) ((L 4)).toNatClampNeg ((L 10))))) else none
  | 7 => X d 4 8 (upd (upd L 4 ((L 10))) 11 ((L 6))) σ
  | 8 => if ((σ.1 52)) ≤ ((L 11)) then (X d 4 9 L σ) else (if ((σ.1 10)) = 0 then (if ¬ (((L 11)) < 0 ∨ 4000 ≤ ((L 11)).toNatClampNeg) then (if ¬ (((L 11)) < 0 ∨ 4000 ≤ ((L 11)).toNatClampNeg) then (if ¬ (((L 11)) < 0 ∨ 4000 ≤ ((L 11)).toNatClampNeg) then (ob (x_see K 0 (upd (upd (upd (fun _ => 0) 1 ((σ.2.2 25 ((L 11)).toNatClampNeg))) 2 ((σ.2.2 26 ((L 11)).toNatClampNeg))) 3 ((σ.2.2 27 ((L 11)).toNatClampNeg))) σ) (fun r6 => X d 4 8 (upd L 11 (((L 11)) + 1)) r6.2)) else none) else none) else none) else (X d 4 9 L σ))
  | 9 => if ((σ.1 10)) = 0 then (ob (x_isSign K 0 (upd (fun _ => 0) 1 12) σ) (fun r2 => if r2.1 = 0 then (X d 4 10 L r2.2) else (X d 4 11 (upd L 100 1) r2.2))) else (X d 4 10 L σ)
  | 10 => X d 4 11 (upd L 100 0) σ
  | 11 => if ((L 100)) = 0 then (X d 4 12 (upd L 5 ((L 100))) σ) else (ob (x_take K 0 (fun _ => 0) σ) (fun r2 => X d 4 12 (upd L 5 ((L 100))) r2.2))
  | 12 => X d 4 1 L σ
  | 13 => X d 4 14 L (upd σ.1 52 ((L 2)), σ.2.1, σ.2.2)
  | 14 => some ((L 3), σ)
  | _ => none
theorem s_iters_0 (X : Nat → Nat → Nat → (Nat → Int32) → MS → Option (Int32 × MS)) (K d : Nat) (L : Nat → Int32) (σ : MS) : s_iters X K d 0 L σ = (X d 4 1 (upd (upd (upd (upd L 2 ((σ.1 52))) 3 ((-1))) 4 ((-1))) 5 1) σ) := rfl
theorem s_iters_1 (X : Nat → Nat → Nat → (Nat → Int32) → MS → Option (Int32 × MS)) (K d : Nat) (L : Nat → Int32) (σ : MS) : s_iters X K d 1 L σ = (if ((L 5)) = 0 then (X d 4 13 L σ) else (if ((σ.1 10)) = 0 then (ob (x_isSign K 0 (upd (fun _ => 0) 1 10) σ) (fun r3 => if r3.1 = 0 then (X d 4 2 (upd L 6 ((σ.1 52))) r3.2) else (X d 4 3 (upd (upd L 6 ((σ.1 52))) 100 1) r3.2))) else (X d 4 13 L σ))) := rfl
theorem s_iters_2 (X : Nat → Nat → Nat → (Nat → Int32) → MS → Option (Int32 × MS)) (K d : Nat) (L : Nat → Int32) (σ : MS) : s_iters X K d 2 L σ = (X d 4 3 (upd L 100 0) σ) := rfl
theorem s_iters_3 (X : Nat → Nat → Nat → (Nat → Int32) → MS → Option (Int32 × MS)) (K d : Nat) (L : Nat → Int32) (σ : MS) : s_iters X K d 3 L σ = (if ((L 100)) = 1 then (ob (x_pattern K 0 (upd (upd (fun _ => 0) 1 ((L 2))) 2 ((L 1))) σ) (fun r2 => X d 4 5 (upd (upd L 7 ((L 100))) 8 r2.1) r2.2)) else (X d 4 4 (upd (upd L 7 ((L 100))) 8 ((-1))) σ)) := rfl
theorem s_iters_4 (X : Nat → Nat → Nat → (Nat → Int32) → MS → Option (Int32 × MS)) (K d : Nat) (L : Nat → Int32) (σ : MS) : s_iters X K d 4 L σ = (ob (x_tellName K 0 (upd (upd (fun _ => 0) 1 ((L 2))) 2 ((L 1))) σ) (fun r1 => X d 4 5 (upd L 8 r1.1) r1.2)) := rfl
theorem s_iters_5 (X : Nat → Nat → Nat → (Nat → Int32) → MS → Option (Int32 × MS)) (K d : Nat) (L : Nat → Int32) (σ : MS) : s_iters X K d 5 L σ = (ob (x_wantWord K 0 (upd (fun _ => 0) 1 14) σ) (fun r1 => od d (fun e2 => ob (X e2 14 0 (fun _ => 0) r1.2) (fun r2 => ob (x_node K 0 (upd (upd (upd (upd (fun _ => 0) 1 30) 2 ((L 7))) 3 ((L 8))) 4 r2.1) r2.2) (fun r3 => if ((L 3)) = ((-1)) then (X d 4 7 (upd (upd (upd L 9 r2.1) 10 r3.1) 3 r3.1) r3.2) else (X d 4 6 (upd (upd L 9 r2.1) 10 r3.1) r3.2)))))) := rfl
theorem s_iters_6 (X : Nat → Nat → Nat → (Nat → Int32) → MS → Option (Int32 × MS)) (K d : Nat) (L : Nat → Int32) (σ : MS) : s_iters X K d 6 L σ = (if ¬ (((L 4)) < 0 ∨ 70000 ≤ ((L 4)).toNatClampNeg) then (X d 4 7 L (σ.1, σ.2.1, updG σ.2.2 9 (upd (σ.2.2 9) ((L 4)).toNatClampNeg ((L 10))))) else none) := rfl
theorem s_iters_7 (X : Nat → Nat → Nat → (Nat → Int32) → MS → Option (Int32 × MS)) (K d : Nat) (L : Nat → Int32) (σ : MS) : s_iters X K d 7 L σ = (X d 4 8 (upd (upd L 4 ((L 10))) 11 ((L 6))) σ) := rfl
theorem s_iters_8 (X : Nat → Nat → Nat → (Nat → Int32) → MS → Option (Int32 × MS)) (K d : Nat) (L : Nat → Int32) (σ : MS) : s_iters X K d 8 L σ = (if ((σ.1 52)) ≤ ((L 11)) then (X d 4 9 L σ) else (if ((σ.1 10)) = 0 then (if ¬ (((L 11)) < 0 ∨ 4000 ≤ ((L 11)).toNatClampNeg) then (if ¬ (((L 11)) < 0 ∨ 4000 ≤ ((L 11)).toNatClampNeg) then (if ¬ (((L 11)) < 0 ∨ 4000 ≤ ((L 11)).toNatClampNeg) then (ob (x_see K 0 (upd (upd (upd (fun _ => 0) 1 ((σ.2.2 25 ((L 11)).toNatClampNeg))) 2 ((σ.2.2 26 ((L 11)).toNatClampNeg))) 3 ((σ.2.2 27 ((L 11)).toNatClampNeg))) σ) (fun r6 => X d 4 8 (upd L 11 (((L 11)) + 1)) r6.2)) else none) else none) else none) else (X d 4 9 L σ))) := rfl
theorem s_iters_9 (X : Nat → Nat → Nat → (Nat → Int32) → MS → Option (Int32 × MS)) (K d : Nat) (L : Nat → Int32) (σ : MS) : s_iters X K d 9 L σ = (if ((σ.1 10)) = 0 then (ob (x_isSign K 0 (upd (fun _ => 0) 1 12) σ) (fun r2 => if r2.1 = 0 then (X d 4 10 L r2.2) else (X d 4 11 (upd L 100 1) r2.2))) else (X d 4 10 L σ)) := rfl
theorem s_iters_10 (X : Nat → Nat → Nat → (Nat → Int32) → MS → Option (Int32 × MS)) (K d : Nat) (L : Nat → Int32) (σ : MS) : s_iters X K d 10 L σ = (X d 4 11 (upd L 100 0) σ) := rfl
theorem s_iters_11 (X : Nat → Nat → Nat → (Nat → Int32) → MS → Option (Int32 × MS)) (K d : Nat) (L : Nat → Int32) (σ : MS) : s_iters X K d 11 L σ = (if ((L 100)) = 0 then (X d 4 12 (upd L 5 ((L 100))) σ) else (ob (x_take K 0 (fun _ => 0) σ) (fun r2 => X d 4 12 (upd L 5 ((L 100))) r2.2))) := rfl
theorem s_iters_12 (X : Nat → Nat → Nat → (Nat → Int32) → MS → Option (Int32 × MS)) (K d : Nat) (L : Nat → Int32) (σ : MS) : s_iters X K d 12 L σ = (X d 4 1 L σ) := rfl
theorem s_iters_13 (X : Nat → Nat → Nat → (Nat → Int32) → MS → Option (Int32 × MS)) (K d : Nat) (L : Nat → Int32) (σ : MS) : s_iters X K d 13 L σ = (X d 4 14 L (upd σ.1 52 ((L 2)), σ.2.1, σ.2.2)) := rfl
theorem s_iters_14 (X : Nat → Nat → Nat → (Nat → Int32) → MS → Option (Int32 × MS)) (K d : Nat) (L : Nat → Int32) (σ : MS) : s_iters X K d 14 L σ = (some ((L 3), σ)) := rfl
def s_listed (X : Nat → Nat → Nat → (Nat → Int32) → MS → Option (Int32 × MS)) (K d : Nat) (b : Nat) (L : Nat → Int32) (σ : MS) : Option (Int32 × MS) := match b with
  | 0 => od d (fun e1 => ob (X e1 3 0 (fun _ => 0) σ) (fun r1 => if ((r1.2.1 10)) = 0 then (ob (x_isSign K 0 (upd (fun _ => 0) 1 16) r1.2) (fun r3 => if r3.1 = 0 then (X d 5 1 (upd L 2 r1.1) r3.2) else (ob (x_take K 0 (fun _ => 0) r3.2) (fun r5 => od d (fun e6 => ob (X e6 3 0 (fun _ => 0) r5.2) (fun r6 => ob (x_wrapped K 0 (upd (upd (upd (upd (upd (fun _ => 0) 1 12) 2 ((L 1))) 3 r1.1) 4 ((-1))) 5 r6.1) r6.2) (fun r7 => some (r7.1, r7.2)))))))) else (X d 5 1 (upd L 2 r1.1) r1.2)))
  | 1 => X d 5 2 (upd (upd L 3 ((L 2))) 4 1) σ
  | 2 => if ((σ.1 10)) = 0 then (ob (x_isSign K 0 (upd (fun _ => 0) 1 12) σ) (fun r2 => if r2.1 = 0 then (X d 5 5 L r2.2) else (ob (x_take K 0 (fun _ => 0) r2.2) (fun r4 => od d (fun e5 => ob (X e5 3 0 (fun _ => 0) r4.2) (fun r5 => if ((r5.2.1 10)) = 0 then (if ((L 4)) = 1 then (ob (x_isSign K 0 (upd (fun _ => 0) 1 16) r5.2) (fun r8 => if r8.1 = 0 then (X d 5 3 (upd L 5 r5.1) r8.2) else (ob (x_take K 0 (fun _ => 0) r8.2) (fun r10 => od d (fun e11 => ob (X e11 3 0 (fun _ => 0) r10.2) (fun r11 => ob (x_wrapped K 0 (upd (upd (upd (upd (upd (fun _ => 0) 1 12) 2 ((L 1))) 3 ((L 2))) 4 r5.1) 5 r11.1) r11.2) (fun r12 => some (r12.1, r12.2)))))))) else (X d 5 3 (upd L 5 r5.1) r5.2)) else (X d 5 3 (upd L 5 r5.1) r5.2))))))) else (X d 5 5 L σ)
  | 3 => if ¬ (((L 3)) < 0 ∨ 70000 ≤ ((L 3)).toNatClampNeg) then (X d 5 4 L (σ.1, σ.2.1, updG σ.2.2 9 (upd (σ.2.2 9) ((L 3)).toNatClampNeg ((L 5))))) else none
  | 4 => X d 5 2 (upd (upd L 3 ((L 5))) 4 (((L 4)) + 1)) σ
  | 5 => if ((L 1)) = 1 then (X d 5 7 (upd L 100 10) σ) else (X d 5 6 L σ)
  | 6 => X d 5 7 (upd L 100 11) σ
  | 7 => ob (x_node K 0 (upd (upd (upd (upd (fun _ => 0) 1 ((L 100))) 2 0) 3 ((L 2))) 4 ((L 4))) σ) (fun r1 => some (r1.1, r1.2))
  | _ => none
theorem s_listed_0 (X : Nat → Nat → Nat → (Nat → Int32) → MS → Option (Int32 × MS)) (K d : Nat) (L : Nat → Int32) (σ : MS) : s_listed X K d 0 L σ = (od d (fun e1 => ob (X e1 3 0 (fun _ => 0) σ) (fun r1 => if ((r1.2.1 10)) = 0 then (ob (x_isSign K 0 (upd (fun _ => 0) 1 16) r1.2) (fun r3 => if r3.1 = 0 then (X d 5 1 (upd L 2 r1.1) r3.2) else (ob (x_take K 0 (fun _ => 0) r3.2) (fun r5 => od d (fun e6 => ob (X e6 3 0 (fun _ => 0) r5.2) (fun r6 => ob (x_wrapped K 0 (upd (upd (upd (upd (upd (fun _ => 0) 1 12) 2 ((L 1))) 3 r1.1) 4 ((-1))) 5 r6.1) r6.2) (fun r7 => some (r7.1, r7.2)))))))) else (X d 5 1 (upd L 2 r1.1) r1.2)))) := rfl
theorem s_listed_1 (X : Nat → Nat → Nat → (Nat → Int32) → MS → Option (Int32 × MS)) (K d : Nat) (L : Nat → Int32) (σ : MS) : s_listed X K d 1 L σ = (X d 5 2 (upd (upd L 3 ((L 2))) 4 1) σ) := rfl
theorem s_listed_2 (X : Nat → Nat → Nat → (Nat → Int32) → MS → Option (Int32 × MS)) (K d : Nat) (L : Nat → Int32) (σ : MS) : s_listed X K d 2 L σ = (if ((σ.1 10)) = 0 then (ob (x_isSign K 0 (upd (fun _ => 0) 1 12) σ) (fun r2 => if r2.1 = 0 then (X d 5 5 L r2.2) else (ob (x_take K 0 (fun _ => 0) r2.2) (fun r4 => od d (fun e5 => ob (X e5 3 0 (fun _ => 0) r4.2) (fun r5 => if ((r5.2.1 10)) = 0 then (if ((L 4)) = 1 then (ob (x_isSign K 0 (upd (fun _ => 0) 1 16) r5.2) (fun r8 => if r8.1 = 0 then (X d 5 3 (upd L 5 r5.1) r8.2) else (ob (x_take K 0 (fun _ => 0) r8.2) (fun r10 => od d (fun e11 => ob (X e11 3 0 (fun _ => 0) r10.2) (fun r11 => ob (x_wrapped K 0 (upd (upd (upd (upd (upd (fun _ => 0) 1 12) 2 ((L 1))) 3 ((L 2))) 4 r5.1) 5 r11.1) r11.2) (fun r12 => some (r12.1, r12.2)))))))) else (X d 5 3 (upd L 5 r5.1) r5.2)) else (X d 5 3 (upd L 5 r5.1) r5.2))))))) else (X d 5 5 L σ)) := rfl
theorem s_listed_3 (X : Nat → Nat → Nat → (Nat → Int32) → MS → Option (Int32 × MS)) (K d : Nat) (L : Nat → Int32) (σ : MS) : s_listed X K d 3 L σ = (if ¬ (((L 3)) < 0 ∨ 70000 ≤ ((L 3)).toNatClampNeg) then (X d 5 4 L (σ.1, σ.2.1, updG σ.2.2 9 (upd (σ.2.2 9) ((L 3)).toNatClampNeg ((L 5))))) else none) := rfl
theorem s_listed_4 (X : Nat → Nat → Nat → (Nat → Int32) → MS → Option (Int32 × MS)) (K d : Nat) (L : Nat → Int32) (σ : MS) : s_listed X K d 4 L σ = (X d 5 2 (upd (upd L 3 ((L 5))) 4 (((L 4)) + 1)) σ) := rfl
theorem s_listed_5 (X : Nat → Nat → Nat → (Nat → Int32) → MS → Option (Int32 × MS)) (K d : Nat) (L : Nat → Int32) (σ : MS) : s_listed X K d 5 L σ = (if ((L 1)) = 1 then (X d 5 7 (upd L 100 10) σ) else (X d 5 6 L σ)) := rfl
theorem s_listed_6 (X : Nat → Nat → Nat → (Nat → Int32) → MS → Option (Int32 × MS)) (K d : Nat) (L : Nat → Int32) (σ : MS) : s_listed X K d 6 L σ = (X d 5 7 (upd L 100 11) σ) := rfl
theorem s_listed_7 (X : Nat → Nat → Nat → (Nat → Int32) → MS → Option (Int32 × MS)) (K d : Nat) (L : Nat → Int32) (σ : MS) : s_listed X K d 7 L σ = (ob (x_node K 0 (upd (upd (upd (upd (fun _ => 0) 1 ((L 100))) 2 0) 3 ((L 2))) 4 ((L 4))) σ) (fun r1 => some (r1.1, r1.2))) := rfl
def s_name (X : Nat → Nat → Nat → (Nat → Int32) → MS → Option (Int32 × MS)) (K d : Nat) (b : Nat) (L : Nat → Int32) (σ : MS) : Option (Int32 × MS) := match b with
  | 0 => ob (x_find K 0 (fun _ => 0) σ) (fun r1 => ob (x_take K 0 (fun _ => 0) r1.2) (fun r2 => if ((r2.2.1 10)) = 0 then (if ((r1.2.1 46)) = 0 then (X d 6 1 (upd (upd (upd (upd L 1 ((σ.1 8))) 2 ((r1.2.1 46))) 3 ((r1.2.1 47))) 4 ((r1.2.1 48))) r2.2) else (if ((r1.2.1 46)) = 3 then (X d 6 1 (upd (upd (upd (upd L 1 ((σ.1 8))) 2 ((r1.2.1 46))) 3 ((r1.2.1 47))) 4 ((r1.2.1 48))) r2.2) else (if ((r1.2.1 46)) = 2 then (ob (x_isSign K 0 (upd (fun _ => 0) 1 6) r2.2) (fun r7 => if r7.1 = 0 then (X d 6 1 (upd (upd (upd (upd L 1 ((σ.1 8))) 2 ((r1.2.1 46))) 3 ((r1.2.1 47))) 4 ((r1.2.1 48))) r7.2) else (X d 6 2 (upd (upd (upd (upd L 1 ((σ.1 8))) 2 ((r1.2.1 46))) 3 ((r1.2.1 47))) 4 ((r1.2.1 48))) r7.2))) else (X d 6 2 (upd (upd (upd (upd L 1 ((σ.1 8))) 2 ((r1.2.1 46))) 3 ((r1.2.1 47))) 4 ((r1.2.1 48))) r2.2)))) else (X d 6 2 (upd (upd (upd (upd L 1 ((σ.1 8))) 2 ((r1.2.1 46))) 3 ((r1.2.1 47))) 4 ((r1.2.1 48))) r2.2)))
  | 1 => ob (x_fault K 0 (upd (upd (fun _ => 0) 1 5) 2 ((L 1))) σ) (fun r1 => X d 6 2 L r1.2)
  | 2 => if ((σ.1 10)) = 0 then (X d 6 3 L σ) else (some (0, σ))
  | 3 => if ((L 2)) = 1 then (if ((L 4)) = 0 then (X d 6 4 (upd L 100 7) σ) else (X d 6 5 (upd (upd L 100 1) 101 7) σ)) else (X d 6 6 L σ)
  | 4 => X d 6 5 (upd (upd L 100 0) 101 ((L 100))) σ
  | 5 => ob (x_node K 0 (upd (upd (upd (upd (fun _ => 0) 1 ((L 101))) 2 ((L 100))) 3 ((L 3))) 4 0) σ) (fun r1 => some (r1.1, r1.2))
  | 6 => ob (x_open K 0 (fun _ => 0) σ) (fun r1 => if ((r1.2.1 10)) = 0 then (ob (x_take K 0 (fun _ => 0) r1.2) (fun r3 => X d 6 7 (upd L 5 ((r1.2.1 13))) r3.2)) else (X d 6 7 (upd L 5 ((r1.2.1 13))) r1.2))
  | 7 => X d 6 8 (upd (upd (upd L 6 ((-1))) 7 ((-1))) 8 0) σ
  | 8 => if ((σ.1 10)) = 0 then (if 0 < ((L 8)) then (X d 6 9 L σ) else (ob (x_isSign K 0 (upd (fun _ => 0) 1 7) σ) (fun r3 => if r3.1 = 0 then (X d 6 9 L r3.2) else (X d 6 15 L r3.2)))) else (X d 6 15 L σ)
  | 9 => if ((L 8)) = 0 then (X d 6 10 L σ) else (ob (x_isSign K 0 (upd (fun _ => 0) 1 12) σ) (fun r2 => if r2.1 = 0 then (X d 6 15 L r2.2) else (X d 6 10 L r2.2)))
  | 10 => if ((L 8)) ≤ 0 then (X d 6 11 L σ) else (ob (x_take K 0 (fun _ => 0) σ) (fun r2 => X d 6 11 L r2.2))
  | 11 => od d (fun e1 => ob (X e1 3 0 (fun _ => 0) σ) (fun r1 => if ((L 8)) = 0 then (X d 6 13 (upd (upd L 9 r1.1) 100 r1.1) r1.2) else (X d 6 12 (upd L 9 r1.1) r1.2)))
  | 12 => X d 6 13 (upd L 100 ((L 6))) σ
  | 13 => if ((L 8)) ≤ 0 then (X d 6 14 (upd L 6 ((L 100))) σ) else (if ¬ (((L 7)) < 0 ∨ 70000 ≤ ((L 7)).toNatClampNeg) then (X d 6 14 (upd L 6 ((L 100))) (σ.1, σ.2.1, updG σ.2.2 9 (upd (σ.2.2 9) ((L 7)).toNatClampNeg ((L 9))))) else none)
  | 14 => X d 6 8 (upd (upd L 7 ((L 9))) 8 (((L 8)) + 1)) σ
  | 15 => if ((σ.1 10)) = 0 then (ob (x_isSign K 0 (upd (fun _ => 0) 1 7) σ) (fun r2 => if r2.1 = 0 then (ob (x_cannot K 0 (fun _ => 0) r2.2) (fun r4 => X d 6 16 L r4.2)) else (X d 6 16 L r2.2))) else (X d 6 16 L σ)
  | 16 => if ((σ.1 10)) = 0 then (if ¬ (((L 3)) < 0 ∨ 41 ≤ ((L 3)).toNatClampNeg) then (if ((L 8)) = ((σ.2.2 18 ((L 3)).toNatClampNeg)) then (X d 6 17 L σ) else (ob (x_fault K 0 (upd (upd (fun _ => 0) 1 6) 2 ((σ.1 8))) σ) (fun r4 => X d 6 17 L r4.2))) else none) else (X d 6 17 L σ)
  | 17 => if ((σ.1 10)) = 0 then (ob (x_take K 0 (fun _ => 0) σ) (fun r2 => X d 6 18 L r2.2)) else (X d 6 18 L σ)
  | 18 => X d 6 19 L (upd σ.1 13 ((((σ.1 13)) - 1)), σ.2.1, σ.2.2)
  | 19 => ob (x_wrapped K 0 (upd (upd (upd (upd (upd (fun _ => 0) 1 8) 2 ((L 3))) 3 ((L 6))) 4 ((L 8))) 5 ((L 5))) σ) (fun r1 => some (r1.1, r1.2))
  | _ => none
theorem s_name_0 (X : Nat → Nat → Nat → (Nat → Int32) → MS → Option (Int32 × MS)) (K d : Nat) (L : Nat → Int32) (σ : MS) : s_name X K d 0 L σ = (ob (x_find K 0 (fun _ => 0) σ) (fun r1 => ob (x_take K 0 (fun _ => 0) r1.2) (fun r2 => if ((r2.2.1 10)) = 0 then (if ((r1.2.1 46)) = 0 then (X d 6 1 (upd (upd (upd (upd L 1 ((σ.1 8))) 2 ((r1.2.1 46))) 3 ((r1.2.1 47))) 4 ((r1.2.1 48))) r2.2) else (if ((r1.2.1 46)) = 3 then (X d 6 1 (upd (upd (upd (upd L 1 ((σ.1 8))) 2 ((r1.2.1 46))) 3 ((r1.2.1 47))) 4 ((r1.2.1 48))) r2.2) else (if ((r1.2.1 46)) = 2 then (ob (x_isSign K 0 (upd (fun _ => 0) 1 6) r2.2) (fun r7 => if r7.1 = 0 then (X d 6 1 (upd (upd (upd (upd L 1 ((σ.1 8))) 2 ((r1.2.1 46))) 3 ((r1.2.1 47))) 4 ((r1.2.1 48))) r7.2) else (X d 6 2 (upd (upd (upd (upd L 1 ((σ.1 8))) 2 ((r1.2.1 46))) 3 ((r1.2.1 47))) 4 ((r1.2.1 48))) r7.2))) else (X d 6 2 (upd (upd (upd (upd L 1 ((σ.1 8))) 2 ((r1.2.1 46))) 3 ((r1.2.1 47))) 4 ((r1.2.1 48))) r2.2)))) else (X d 6 2 (upd (upd (upd (upd L 1 ((σ.1 8))) 2 ((r1.2.1 46))) 3 ((r1.2.1 47))) 4 ((r1.2.1 48))) r2.2)))) := rfl
theorem s_name_1 (X : Nat → Nat → Nat → (Nat → Int32) → MS → Option (Int32 × MS)) (K d : Nat) (L : Nat → Int32) (σ : MS) : s_name X K d 1 L σ = (ob (x_fault K 0 (upd (upd (fun _ => 0) 1 5) 2 ((L 1))) σ) (fun r1 => X d 6 2 L r1.2)) := rfl
theorem s_name_2 (X : Nat → Nat → Nat → (Nat → Int32) → MS → Option (Int32 × MS)) (K d : Nat) (L : Nat → Int32) (σ : MS) : s_name X K d 2 L σ = (if ((σ.1 10)) = 0 then (X d 6 3 L σ) else (some (0, σ))) := rfl
theorem s_name_3 (X : Nat → Nat → Nat → (Nat → Int32) → MS → Option (Int32 × MS)) (K d : Nat) (L : Nat → Int32) (σ : MS) : s_name X K d 3 L σ = (if ((L 2)) = 1 then (if ((L 4)) = 0 then (X d 6 4 (upd L 100 7) σ) else (X d 6 5 (upd (upd L 100 1) 101 7) σ)) else (X d 6 6 L σ)) := rfl
theorem s_name_4 (X : Nat → Nat → Nat → (Nat → Int32) → MS → Option (Int32 × MS)) (K d : Nat) (L : Nat → Int32) (σ : MS) : s_name X K d 4 L σ = (X d 6 5 (upd (upd L 100 0) 101 ((L 100))) σ) := rfl
theorem s_name_5 (X : Nat → Nat → Nat → (Nat → Int32) → MS → Option (Int32 × MS)) (K d : Nat) (L : Nat → Int32) (σ : MS) : s_name X K d 5 L σ = (ob (x_node K 0 (upd (upd (upd (upd (fun _ => 0) 1 ((L 101))) 2 ((L 100))) 3 ((L 3))) 4 0) σ) (fun r1 => some (r1.1, r1.2))) := rfl
theorem s_name_6 (X : Nat → Nat → Nat → (Nat → Int32) → MS → Option (Int32 × MS)) (K d : Nat) (L : Nat → Int32) (σ : MS) : s_name X K d 6 L σ = (ob (x_open K 0 (fun _ => 0) σ) (fun r1 => if ((r1.2.1 10)) = 0 then (ob (x_take K 0 (fun _ => 0) r1.2) (fun r3 => X d 6 7 (upd L 5 ((r1.2.1 13))) r3.2)) else (X d 6 7 (upd L 5 ((r1.2.1 13))) r1.2))) := rfl
theorem s_name_7 (X : Nat → Nat → Nat → (Nat → Int32) → MS → Option (Int32 × MS)) (K d : Nat) (L : Nat → Int32) (σ : MS) : s_name X K d 7 L σ = (X d 6 8 (upd (upd (upd L 6 ((-1))) 7 ((-1))) 8 0) σ) := rfl
theorem s_name_8 (X : Nat → Nat → Nat → (Nat → Int32) → MS → Option (Int32 × MS)) (K d : Nat) (L : Nat → Int32) (σ : MS) : s_name X K d 8 L σ = (if ((σ.1 10)) = 0 then (if 0 < ((L 8)) then (X d 6 9 L σ) else (ob (x_isSign K 0 (upd (fun _ => 0) 1 7) σ) (fun r3 => if r3.1 = 0 then (X d 6 9 L r3.2) else (X d 6 15 L r3.2)))) else (X d 6 15 L σ)) := rfl
theorem s_name_9 (X : Nat → Nat → Nat → (Nat → Int32) → MS → Option (Int32 × MS)) (K d : Nat) (L : Nat → Int32) (σ : MS) : s_name X K d 9 L σ = (if ((L 8)) = 0 then (X d 6 10 L σ) else (ob (x_isSign K 0 (upd (fun _ => 0) 1 12) σ) (fun r2 => if r2.1 = 0 then (X d 6 15 L r2.2) else (X d 6 10 L r2.2)))) := rfl
theorem s_name_10 (X : Nat → Nat → Nat → (Nat → Int32) → MS → Option (Int32 × MS)) (K d : Nat) (L : Nat → Int32) (σ : MS) : s_name X K d 10 L σ = (if ((L 8)) ≤ 0 then (X d 6 11 L σ) else (ob (x_take K 0 (fun _ => 0) σ) (fun r2 => X d 6 11 L r2.2))) := rfl
theorem s_name_11 (X : Nat → Nat → Nat → (Nat → Int32) → MS → Option (Int32 × MS)) (K d : Nat) (L : Nat → Int32) (σ : MS) : s_name X K d 11 L σ = (od d (fun e1 => ob (X e1 3 0 (fun _ => 0) σ) (fun r1 => if ((L 8)) = 0 then (X d 6 13 (upd (upd L 9 r1.1) 100 r1.1) r1.2) else (X d 6 12 (upd L 9 r1.1) r1.2)))) := rfl
theorem s_name_12 (X : Nat → Nat → Nat → (Nat → Int32) → MS → Option (Int32 × MS)) (K d : Nat) (L : Nat → Int32) (σ : MS) : s_name X K d 12 L σ = (X d 6 13 (upd L 100 ((L 6))) σ) := rfl
theorem s_name_13 (X : Nat → Nat → Nat → (Nat → Int32) → MS → Option (Int32 × MS)) (K d : Nat) (L : Nat → Int32) (σ : MS) : s_name X K d 13 L σ = (if ((L 8)) ≤ 0 then (X d 6 14 (upd L 6 ((L 100))) σ) else (if ¬ (((L 7)) < 0 ∨ 70000 ≤ ((L 7)).toNatClampNeg) then (X d 6 14 (upd L 6 ((L 100))) (σ.1, σ.2.1, updG σ.2.2 9 (upd (σ.2.2 9) ((L 7)).toNatClampNeg ((L 9))))) else none)) := rfl
theorem s_name_14 (X : Nat → Nat → Nat → (Nat → Int32) → MS → Option (Int32 × MS)) (K d : Nat) (L : Nat → Int32) (σ : MS) : s_name X K d 14 L σ = (X d 6 8 (upd (upd L 7 ((L 9))) 8 (((L 8)) + 1)) σ) := rfl
theorem s_name_15 (X : Nat → Nat → Nat → (Nat → Int32) → MS → Option (Int32 × MS)) (K d : Nat) (L : Nat → Int32) (σ : MS) : s_name X K d 15 L σ = (if ((σ.1 10)) = 0 then (ob (x_isSign K 0 (upd (fun _ => 0) 1 7) σ) (fun r2 => if r2.1 = 0 then (ob (x_cannot K 0 (fun _ => 0) r2.2) (fun r4 => X d 6 16 L r4.2)) else (X d 6 16 L r2.2))) else (X d 6 16 L σ)) := rfl
theorem s_name_16 (X : Nat → Nat → Nat → (Nat → Int32) → MS → Option (Int32 × MS)) (K d : Nat) (L : Nat → Int32) (σ : MS) : s_name X K d 16 L σ = (if ((σ.1 10)) = 0 then (if ¬ (((L 3)) < 0 ∨ 41 ≤ ((L 3)).toNatClampNeg) then (if ((L 8)) = ((σ.2.2 18 ((L 3)).toNatClampNeg)) then (X d 6 17 L σ) else (ob (x_fault K 0 (upd (upd (fun _ => 0) 1 6) 2 ((σ.1 8))) σ) (fun r4 => X d 6 17 L r4.2))) else none) else (X d 6 17 L σ)) := rfl
theorem s_name_17 (X : Nat → Nat → Nat → (Nat → Int32) → MS → Option (Int32 × MS)) (K d : Nat) (L : Nat → Int32) (σ : MS) : s_name X K d 17 L σ = (if ((σ.1 10)) = 0 then (ob (x_take K 0 (fun _ => 0) σ) (fun r2 => X d 6 18 L r2.2)) else (X d 6 18 L σ)) := rfl
theorem s_name_18 (X : Nat → Nat → Nat → (Nat → Int32) → MS → Option (Int32 × MS)) (K d : Nat) (L : Nat → Int32) (σ : MS) : s_name X K d 18 L σ = (X d 6 19 L (upd σ.1 13 ((((σ.1 13)) - 1)), σ.2.1, σ.2.2)) := rfl
theorem s_name_19 (X : Nat → Nat → Nat → (Nat → Int32) → MS → Option (Int32 × MS)) (K d : Nat) (L : Nat → Int32) (σ : MS) : s_name X K d 19 L σ = (ob (x_wrapped K 0 (upd (upd (upd (upd (upd (fun _ => 0) 1 8) 2 ((L 3))) 3 ((L 6))) 4 ((L 8))) 5 ((L 5))) σ) (fun r1 => some (r1.1, r1.2))) := rfl
def s_negation (X : Nat → Nat → Nat → (Nat → Int32) → MS → Option (Int32 × MS)) (K d : Nat) (b : Nat) (L : Nat → Int32) (σ : MS) : Option (Int32 × MS) := match b with
  | 0 => if ((σ.1 10)) = 0 then (ob (x_isWord K 0 (upd (fun _ => 0) 1 34) σ) (fun r2 => if r2.1 = 0 then (X d 7 1 L r2.2) else (X d 7 2 L r2.2))) else (X d 7 1 L σ)
  | 1 => od d (fun e1 => ob (X e1 13 0 (fun _ => 0) σ) (fun r1 => some (r1.1, r1.2)))
  | 2 => ob (x_open K 0 (fun _ => 0) σ) (fun r1 => if ((r1.2.1 10)) = 0 then (ob (x_take K 0 (fun _ => 0) r1.2) (fun r3 => X d 7 3 L r3.2)) else (X d 7 3 L r1.2))
  | 3 => od d (fun e1 => ob (X e1 7 0 (fun _ => 0) σ) (fun r1 => X d 7 4 (upd L 1 r1.1) (upd r1.2.1 13 ((((r1.2.1 13)) - 1)), r1.2.2.1, r1.2.2.2)))
  | 4 => ob (x_node K 0 (upd (upd (upd (upd (fun _ => 0) 1 19) 2 0) 3 ((L 1))) 4 0) σ) (fun r1 => some (r1.1, r1.2))
  | _ => none
theorem s_negation_0 (X : Nat → Nat → Nat → (Nat → Int32) → MS → Option (Int32 × MS)) (K d : Nat) (L : Nat → Int32) (σ : MS) : s_negation X K d 0 L σ = (if ((σ.1 10)) = 0 then (ob (x_isWord K 0 (upd (fun _ => 0) 1 34) σ) (fun r2 => if r2.1 = 0 then (X d 7 1 L r2.2) else (X d 7 2 L r2.2))) else (X d 7 1 L σ)) := rfl
theorem s_negation_1 (X : Nat → Nat → Nat → (Nat → Int32) → MS → Option (Int32 × MS)) (K d : Nat) (L : Nat → Int32) (σ : MS) : s_negation X K d 1 L σ = (od d (fun e1 => ob (X e1 13 0 (fun _ => 0) σ) (fun r1 => some (r1.1, r1.2)))) := rfl
theorem s_negation_2 (X : Nat → Nat → Nat → (Nat → Int32) → MS → Option (Int32 × MS)) (K d : Nat) (L : Nat → Int32) (σ : MS) : s_negation X K d 2 L σ = (ob (x_open K 0 (fun _ => 0) σ) (fun r1 => if ((r1.2.1 10)) = 0 then (ob (x_take K 0 (fun _ => 0) r1.2) (fun r3 => X d 7 3 L r3.2)) else (X d 7 3 L r1.2))) := rfl
theorem s_negation_3 (X : Nat → Nat → Nat → (Nat → Int32) → MS → Option (Int32 × MS)) (K d : Nat) (L : Nat → Int32) (σ : MS) : s_negation X K d 3 L σ = (od d (fun e1 => ob (X e1 7 0 (fun _ => 0) σ) (fun r1 => X d 7 4 (upd L 1 r1.1) (upd r1.2.1 13 ((((r1.2.1 13)) - 1)), r1.2.2.1, r1.2.2.2)))) := rfl
theorem s_negation_4 (X : Nat → Nat → Nat → (Nat → Int32) → MS → Option (Int32 × MS)) (K d : Nat) (L : Nat → Int32) (σ : MS) : s_negation X K d 4 L σ = (ob (x_node K 0 (upd (upd (upd (upd (fun _ => 0) 1 19) 2 0) 3 ((L 1))) 4 0) σ) (fun r1 => some (r1.1, r1.2))) := rfl
def s_parts (X : Nat → Nat → Nat → (Nat → Int32) → MS → Option (Int32 × MS)) (K d : Nat) (b : Nat) (L : Nat → Int32) (σ : MS) : Option (Int32 × MS) := match b with
  | 0 => X d 8 1 (upd L 2 ((L 1))) σ
  | 1 => if ((σ.1 10)) = 0 then (ob (x_isSign K 0 (upd (fun _ => 0) 1 6) σ) (fun r2 => if r2.1 = 0 then (ob (x_isSign K 0 (upd (fun _ => 0) 1 8) r2.2) (fun r4 => if r4.1 = 0 then (X d 8 10 L r4.2) else (X d 8 2 L r4.2))) else (X d 8 2 L r2.2))) else (X d 8 10 L σ)
  | 2 => ob (x_isSign K 0 (upd (fun _ => 0) 1 8) σ) (fun r1 => ob (x_open K 0 (fun _ => 0) r1.2) (fun r2 => if ((r2.2.1 10)) = 0 then (ob (x_take K 0 (fun _ => 0) r2.2) (fun r4 => X d 8 3 (upd L 3 r1.1) r4.2)) else (X d 8 3 (upd L 3 r1.1) r2.2)))
  | 3 => od d (fun e1 => ob (X e1 3 0 (fun _ => 0) σ) (fun r1 => if ((r1.2.1 10)) = 0 then (if ((L 3)) = 0 then (ob (x_isSign K 0 (upd (fun _ => 0) 1 16) r1.2) (fun r4 => if r4.1 = 0 then (X d 8 4 (upd L 4 r1.1) r4.2) else (ob (x_take K 0 (fun _ => 0) r4.2) (fun r6 => od d (fun e7 => ob (X e7 3 0 (fun _ => 0) r6.2) (fun r7 => ob (x_over K 0 (upd (upd (upd (upd (fun _ => 0) 1 22) 2 0) 3 ((L 2))) 4 r1.1) r7.2) (fun r8 => if ¬ (r8.1 < 0 ∨ 70000 ≤ r8.1.toNatClampNeg) then (X d 8 7 (upd (upd (upd L 4 r1.1) 5 r7.1) 2 r8.1) (r8.2.1, r8.2.2.1, updG r8.2.2.2 8 (upd (r8.2.2.2 8) r8.1.toNatClampNeg r7.1))) else none))))))) else (X d 8 4 (upd L 4 r1.1) r1.2)) else (X d 8 4 (upd L 4 r1.1) r1.2)))
  | 4 => if ((L 3)) = 0 then (X d 8 5 L σ) else (X d 8 6 (upd L 100 23) σ)
  | 5 => X d 8 6 (upd L 100 21) σ
  | 6 => ob (x_over K 0 (upd (upd (upd (upd (fun _ => 0) 1 ((L 100))) 2 0) 3 ((L 2))) 4 ((L 4))) σ) (fun r1 => X d 8 7 (upd L 2 r1.1) r1.2)
  | 7 => if ((L 3)) = 0 then (X d 8 8 L σ) else (X d 8 9 (upd L 100 9) σ)
  | 8 => X d 8 9 (upd L 100 7) σ
  | 9 => ob (x_want K 0 (upd (fun _ => 0) 1 ((L 100))) σ) (fun r1 => X d 8 1 L (upd r1.2.1 13 ((((r1.2.1 13)) - 1)), r1.2.2.1, r1.2.2.2))
  | 10 => some ((L 2), σ)
  | _ => none
theorem s_parts_0 (X : Nat → Nat → Nat → (Nat → Int32) → MS → Option (Int32 × MS)) (K d : Nat) (L : Nat → Int32) (σ : MS) : s_parts X K d 0 L σ = (X d 8 1 (upd L 2 ((L 1))) σ) := rfl
theorem s_parts_1 (X : Nat → Nat → Nat → (Nat → Int32) → MS → Option (Int32 × MS)) (K d : Nat) (L : Nat → Int32) (σ : MS) : s_parts X K d 1 L σ = (if ((σ.1 10)) = 0 then (ob (x_isSign K 0 (upd (fun _ => 0) 1 6) σ) (fun r2 => if r2.1 = 0 then (ob (x_isSign K 0 (upd (fun _ => 0) 1 8) r2.2) (fun r4 => if r4.1 = 0 then (X d 8 10 L r4.2) else (X d 8 2 L r4.2))) else (X d 8 2 L r2.2))) else (X d 8 10 L σ)) := rfl
theorem s_parts_2 (X : Nat → Nat → Nat → (Nat → Int32) → MS → Option (Int32 × MS)) (K d : Nat) (L : Nat → Int32) (σ : MS) : s_parts X K d 2 L σ = (ob (x_isSign K 0 (upd (fun _ => 0) 1 8) σ) (fun r1 => ob (x_open K 0 (fun _ => 0) r1.2) (fun r2 => if ((r2.2.1 10)) = 0 then (ob (x_take K 0 (fun _ => 0) r2.2) (fun r4 => X d 8 3 (upd L 3 r1.1) r4.2)) else (X d 8 3 (upd L 3 r1.1) r2.2)))) := rfl
theorem s_parts_3 (X : Nat → Nat → Nat → (Nat → Int32) → MS → Option (Int32 × MS)) (K d : Nat) (L : Nat → Int32) (σ : MS) : s_parts X K d 3 L σ = (od d (fun e1 => ob (X e1 3 0 (fun _ => 0) σ) (fun r1 => if ((r1.2.1 10)) = 0 then (if ((L 3)) = 0 then (ob (x_isSign K 0 (upd (fun _ => 0) 1 16) r1.2) (fun r4 => if r4.1 = 0 then (X d 8 4 (upd L 4 r1.1) r4.2) else (ob (x_take K 0 (fun _ => 0) r4.2) (fun r6 => od d (fun e7 => ob (X e7 3 0 (fun _ => 0) r6.2) (fun r7 => ob (x_over K 0 (upd (upd (upd (upd (fun _ => 0) 1 22) 2 0) 3 ((L 2))) 4 r1.1) r7.2) (fun r8 => if ¬ (r8.1 < 0 ∨ 70000 ≤ r8.1.toNatClampNeg) then (X d 8 7 (upd (upd (upd L 4 r1.1) 5 r7.1) 2 r8.1) (r8.2.1, r8.2.2.1, updG r8.2.2.2 8 (upd (r8.2.2.2 8) r8.1.toNatClampNeg r7.1))) else none))))))) else (X d 8 4 (upd L 4 r1.1) r1.2)) else (X d 8 4 (upd L 4 r1.1) r1.2)))) := rfl
theorem s_parts_4 (X : Nat → Nat → Nat → (Nat → Int32) → MS → Option (Int32 × MS)) (K d : Nat) (L : Nat → Int32) (σ : MS) : s_parts X K d 4 L σ = (if ((L 3)) = 0 then (X d 8 5 L σ) else (X d 8 6 (upd L 100 23) σ)) := rfl
theorem s_parts_5 (X : Nat → Nat → Nat → (Nat → Int32) → MS → Option (Int32 × MS)) (K d : Nat) (L : Nat → Int32) (σ : MS) : s_parts X K d 5 L σ = (X d 8 6 (upd L 100 21) σ) := rfl
theorem s_parts_6 (X : Nat → Nat → Nat → (Nat → Int32) → MS → Option (Int32 × MS)) (K d : Nat) (L : Nat → Int32) (σ : MS) : s_parts X K d 6 L σ = (ob (x_over K 0 (upd (upd (upd (upd (fun _ => 0) 1 ((L 100))) 2 0) 3 ((L 2))) 4 ((L 4))) σ) (fun r1 => X d 8 7 (upd L 2 r1.1) r1.2)) := rfl
theorem s_parts_7 (X : Nat → Nat → Nat → (Nat → Int32) → MS → Option (Int32 × MS)) (K d : Nat) (L : Nat → Int32) (σ : MS) : s_parts X K d 7 L σ = (if ((L 3)) = 0 then (X d 8 8 L σ) else (X d 8 9 (upd L 100 9) σ)) := rfl
theorem s_parts_8 (X : Nat → Nat → Nat → (Nat → Int32) → MS → Option (Int32 × MS)) (K d : Nat) (L : Nat → Int32) (σ : MS) : s_parts X K d 8 L σ = (X d 8 9 (upd L 100 7) σ) := rfl
theorem s_parts_9 (X : Nat → Nat → Nat → (Nat → Int32) → MS → Option (Int32 × MS)) (K d : Nat) (L : Nat → Int32) (σ : MS) : s_parts X K d 9 L σ = (ob (x_want K 0 (upd (fun _ => 0) 1 ((L 100))) σ) (fun r1 => X d 8 1 L (upd r1.2.1 13 ((((r1.2.1 13)) - 1)), r1.2.2.1, r1.2.2.2))) := rfl
theorem s_parts_10 (X : Nat → Nat → Nat → (Nat → Int32) → MS → Option (Int32 × MS)) (K d : Nat) (L : Nat → Int32) (σ : MS) : s_parts X K d 10 L σ = (some ((L 2), σ)) := rfl
def s_power (X : Nat → Nat → Nat → (Nat → Int32) → MS → Option (Int32 × MS)) (K d : Nat) (b : Nat) (L : Nat → Int32) (σ : MS) : Option (Int32 × MS) := match b with
  | 0 => od d (fun e1 => ob (X e1 10 0 (fun _ => 0) σ) (fun r1 => if ((r1.2.1 10)) = 0 then (ob (x_isSign K 0 (upd (fun _ => 0) 1 5) r1.2) (fun r3 => if r3.1 = 0 then (X d 9 1 (upd L 1 r1.1) r3.2) else (X d 9 2 (upd L 1 r1.1) r3.2))) else (X d 9 1 (upd L 1 r1.1) r1.2)))
  | 1 => some ((L 1), σ)
  | 2 => ob (x_open K 0 (fun _ => 0) σ) (fun r1 => if ((r1.2.1 10)) = 0 then (ob (x_take K 0 (fun _ => 0) r1.2) (fun r3 => X d 9 3 L r3.2)) else (X d 9 3 L r1.2))
  | 3 => od d (fun e1 => ob (X e1 9 0 (fun _ => 0) σ) (fun r1 => X d 9 4 (upd L 2 r1.1) (upd r1.2.1 13 ((((r1.2.1 13)) - 1)), r1.2.2.1, r1.2.2.2)))
  | 4 => ob (x_over K 0 (upd (upd (upd (upd (fun _ => 0) 1 16) 2 5) 3 ((L 1))) 4 ((L 2))) σ) (fun r1 => some (r1.1, r1.2))
  | _ => none
theorem s_power_0 (X : Nat → Nat → Nat → (Nat → Int32) → MS → Option (Int32 × MS)) (K d : Nat) (L : Nat → Int32) (σ : MS) : s_power X K d 0 L σ = (od d (fun e1 => ob (X e1 10 0 (fun _ => 0) σ) (fun r1 => if ((r1.2.1 10)) = 0 then (ob (x_isSign K 0 (upd (fun _ => 0) 1 5) r1.2) (fun r3 => if r3.1 = 0 then (X d 9 1 (upd L 1 r1.1) r3.2) else (X d 9 2 (upd L 1 r1.1) r3.2))) else (X d 9 1 (upd L 1 r1.1) r1.2)))) := rfl
theorem s_power_1 (X : Nat → Nat → Nat → (Nat → Int32) → MS → Option (Int32 × MS)) (K d : Nat) (L : Nat → Int32) (σ : MS) : s_power X K d 1 L σ = (some ((L 1), σ)) := rfl
theorem s_power_2 (X : Nat → Nat → Nat → (Nat → Int32) → MS → Option (Int32 × MS)) (K d : Nat) (L : Nat → Int32) (σ : MS) : s_power X K d 2 L σ = (ob (x_open K 0 (fun _ => 0) σ) (fun r1 => if ((r1.2.1 10)) = 0 then (ob (x_take K 0 (fun _ => 0) r1.2) (fun r3 => X d 9 3 L r3.2)) else (X d 9 3 L r1.2))) := rfl
theorem s_power_3 (X : Nat → Nat → Nat → (Nat → Int32) → MS → Option (Int32 × MS)) (K d : Nat) (L : Nat → Int32) (σ : MS) : s_power X K d 3 L σ = (od d (fun e1 => ob (X e1 9 0 (fun _ => 0) σ) (fun r1 => X d 9 4 (upd L 2 r1.1) (upd r1.2.1 13 ((((r1.2.1 13)) - 1)), r1.2.2.1, r1.2.2.2)))) := rfl
theorem s_power_4 (X : Nat → Nat → Nat → (Nat → Int32) → MS → Option (Int32 × MS)) (K d : Nat) (L : Nat → Int32) (σ : MS) : s_power X K d 4 L σ = (ob (x_over K 0 (upd (upd (upd (upd (fun _ => 0) 1 16) 2 5) 3 ((L 1))) 4 ((L 2))) σ) (fun r1 => some (r1.1, r1.2))) := rfl
def s_prefix (X : Nat → Nat → Nat → (Nat → Int32) → MS → Option (Int32 × MS)) (K d : Nat) (b : Nat) (L : Nat → Int32) (σ : MS) : Option (Int32 × MS) := match b with
  | 0 => if ((σ.1 10)) = 0 then (X d 10 1 L σ) else (some (0, σ))
  | 1 => ob (x_isSign K 0 (upd (fun _ => 0) 1 3) σ) (fun r1 => if r1.1 = 0 then (ob (x_isSign K 0 (upd (fun _ => 0) 1 23) r1.2) (fun r3 => if r3.1 = 0 then (X d 10 7 L r3.2) else (X d 10 2 L r3.2))) else (X d 10 2 L r1.2))
  | 2 => ob (x_isSign K 0 (upd (fun _ => 0) 1 3) σ) (fun r1 => if r1.1 = 0 then (X d 10 3 L r1.2) else (X d 10 4 (upd L 100 17) r1.2))
  | 3 => X d 10 4 (upd L 100 18) σ
  | 4 => ob (x_open K 0 (fun _ => 0) σ) (fun r1 => if ((r1.2.1 10)) = 0 then (ob (x_take K 0 (fun _ => 0) r1.2) (fun r3 => X d 10 5 (upd L 1 ((L 100))) r3.2)) else (X d 10 5 (upd L 1 ((L 100))) r1.2))
  | 5 => od d (fun e1 => ob (X e1 10 0 (fun _ => 0) σ) (fun r1 => X d 10 6 (upd L 2 r1.1) (upd r1.2.1 13 ((((r1.2.1 13)) - 1)), r1.2.2.1, r1.2.2.2)))
  | 6 => ob (x_node K 0 (upd (upd (upd (upd (fun _ => 0) 1 ((L 1))) 2 0) 3 ((L 2))) 4 0) σ) (fun r1 => some (r1.1, r1.2))
  | 7 => ob (x_isSign K 0 (upd (fun _ => 0) 1 2) σ) (fun r1 => if r1.1 = 0 then (ob (x_isSign K 0 (upd (fun _ => 0) 1 4) r1.2) (fun r3 => if r3.1 = 0 then (ob (x_isWord K 0 (upd (fun _ => 0) 1 49) r3.2) (fun r5 => if r5.1 = 0 then (ob (x_isWord K 0 (upd (fun _ => 0) 1 48) r5.2) (fun r7 => if r7.1 = 0 then (X d 10 11 L r7.2) else (X d 10 8 L r7.2))) else (X d 10 8 L r5.2))) else (X d 10 8 L r3.2))) else (X d 10 8 L r1.2))
  | 8 => ob (x_operator K 0 (fun _ => 0) σ) (fun r1 => ob (x_open K 0 (fun _ => 0) r1.2) (fun r2 => if ((r2.2.1 10)) = 0 then (ob (x_take K 0 (fun _ => 0) r2.2) (fun r4 => X d 10 9 (upd L 1 r1.1) r4.2)) else (X d 10 9 (upd L 1 r1.1) r2.2)))
  | 9 => ob (x_want K 0 (upd (fun _ => 0) 1 24) σ) (fun r1 => od d (fun e2 => ob (X e2 10 0 (fun _ => 0) r1.2) (fun r2 => X d 10 10 (upd L 2 r2.1) (upd r2.2.1 13 ((((r2.2.1 13)) - 1)), r2.2.2.1, r2.2.2.2))))
  | 10 => ob (x_node K 0 (upd (upd (upd (upd (fun _ => 0) 1 20) 2 ((L 1))) 3 ((L 2))) 4 0) σ) (fun r1 => some (r1.1, r1.2))
  | 11 => od d (fun e1 => ob (X e1 11 0 (fun _ => 0) σ) (fun r1 => od d (fun e2 => ob (X e2 8 0 (upd (fun _ => 0) 1 r1.1) r1.2) (fun r2 => some (r2.1, r2.2)))))
  | _ => none
theorem s_prefix_0 (X : Nat → Nat → Nat → (Nat → Int32) → MS → Option (Int32 × MS)) (K d : Nat) (L : Nat → Int32) (σ : MS) : s_prefix X K d 0 L σ = (if ((σ.1 10)) = 0 then (X d 10 1 L σ) else (some (0, σ))) := rfl
theorem s_prefix_1 (X : Nat → Nat → Nat → (Nat → Int32) → MS → Option (Int32 × MS)) (K d : Nat) (L : Nat → Int32) (σ : MS) : s_prefix X K d 1 L σ = (ob (x_isSign K 0 (upd (fun _ => 0) 1 3) σ) (fun r1 => if r1.1 = 0 then (ob (x_isSign K 0 (upd (fun _ => 0) 1 23) r1.2) (fun r3 => if r3.1 = 0 then (X d 10 7 L r3.2) else (X d 10 2 L r3.2))) else (X d 10 2 L r1.2))) := rfl
theorem s_prefix_2 (X : Nat → Nat → Nat → (Nat → Int32) → MS → Option (Int32 × MS)) (K d : Nat) (L : Nat → Int32) (σ : MS) : s_prefix X K d 2 L σ = (ob (x_isSign K 0 (upd (fun _ => 0) 1 3) σ) (fun r1 => if r1.1 = 0 then (X d 10 3 L r1.2) else (X d 10 4 (upd L 100 17) r1.2))) := rfl
theorem s_prefix_3 (X : Nat → Nat → Nat → (Nat → Int32) → MS → Option (Int32 × MS)) (K d : Nat) (L : Nat → Int32) (σ : MS) : s_prefix X K d 3 L σ = (X d 10 4 (upd L 100 18) σ) := rfl
theorem s_prefix_4 (X : Nat → Nat → Nat → (Nat → Int32) → MS → Option (Int32 × MS)) (K d : Nat) (L : Nat → Int32) (σ : MS) : s_prefix X K d 4 L σ = (ob (x_open K 0 (fun _ => 0) σ) (fun r1 => if ((r1.2.1 10)) = 0 then (ob (x_take K 0 (fun _ => 0) r1.2) (fun r3 => X d 10 5 (upd L 1 ((L 100))) r3.2)) else (X d 10 5 (upd L 1 ((L 100))) r1.2))) := rfl
theorem s_prefix_5 (X : Nat → Nat → Nat → (Nat → Int32) → MS → Option (Int32 × MS)) (K d : Nat) (L : Nat → Int32) (σ : MS) : s_prefix X K d 5 L σ = (od d (fun e1 => ob (X e1 10 0 (fun _ => 0) σ) (fun r1 => X d 10 6 (upd L 2 r1.1) (upd r1.2.1 13 ((((r1.2.1 13)) - 1)), r1.2.2.1, r1.2.2.2)))) := rfl
theorem s_prefix_6 (X : Nat → Nat → Nat → (Nat → Int32) → MS → Option (Int32 × MS)) (K d : Nat) (L : Nat → Int32) (σ : MS) : s_prefix X K d 6 L σ = (ob (x_node K 0 (upd (upd (upd (upd (fun _ => 0) 1 ((L 1))) 2 0) 3 ((L 2))) 4 0) σ) (fun r1 => some (r1.1, r1.2))) := rfl
theorem s_prefix_7 (X : Nat → Nat → Nat → (Nat → Int32) → MS → Option (Int32 × MS)) (K d : Nat) (L : Nat → Int32) (σ : MS) : s_prefix X K d 7 L σ = (ob (x_isSign K 0 (upd (fun _ => 0) 1 2) σ) (fun r1 => if r1.1 = 0 then (ob (x_isSign K 0 (upd (fun _ => 0) 1 4) r1.2) (fun r3 => if r3.1 = 0 then (ob (x_isWord K 0 (upd (fun _ => 0) 1 49) r3.2) (fun r5 => if r5.1 = 0 then (ob (x_isWord K 0 (upd (fun _ => 0) 1 48) r5.2) (fun r7 => if r7.1 = 0 then (X d 10 11 L r7.2) else (X d 10 8 L r7.2))) else (X d 10 8 L r5.2))) else (X d 10 8 L r3.2))) else (X d 10 8 L r1.2))) := rfl
theorem s_prefix_8 (X : Nat → Nat → Nat → (Nat → Int32) → MS → Option (Int32 × MS)) (K d : Nat) (L : Nat → Int32) (σ : MS) : s_prefix X K d 8 L σ = (ob (x_operator K 0 (fun _ => 0) σ) (fun r1 => ob (x_open K 0 (fun _ => 0) r1.2) (fun r2 => if ((r2.2.1 10)) = 0 then (ob (x_take K 0 (fun _ => 0) r2.2) (fun r4 => X d 10 9 (upd L 1 r1.1) r4.2)) else (X d 10 9 (upd L 1 r1.1) r2.2)))) := rfl
theorem s_prefix_9 (X : Nat → Nat → Nat → (Nat → Int32) → MS → Option (Int32 × MS)) (K d : Nat) (L : Nat → Int32) (σ : MS) : s_prefix X K d 9 L σ = (ob (x_want K 0 (upd (fun _ => 0) 1 24) σ) (fun r1 => od d (fun e2 => ob (X e2 10 0 (fun _ => 0) r1.2) (fun r2 => X d 10 10 (upd L 2 r2.1) (upd r2.2.1 13 ((((r2.2.1 13)) - 1)), r2.2.2.1, r2.2.2.2))))) := rfl
theorem s_prefix_10 (X : Nat → Nat → Nat → (Nat → Int32) → MS → Option (Int32 × MS)) (K d : Nat) (L : Nat → Int32) (σ : MS) : s_prefix X K d 10 L σ = (ob (x_node K 0 (upd (upd (upd (upd (fun _ => 0) 1 20) 2 ((L 1))) 3 ((L 2))) 4 0) σ) (fun r1 => some (r1.1, r1.2))) := rfl
theorem s_prefix_11 (X : Nat → Nat → Nat → (Nat → Int32) → MS → Option (Int32 × MS)) (K d : Nat) (L : Nat → Int32) (σ : MS) : s_prefix X K d 11 L σ = (od d (fun e1 => ob (X e1 11 0 (fun _ => 0) σ) (fun r1 => od d (fun e2 => ob (X e2 8 0 (upd (fun _ => 0) 1 r1.1) r1.2) (fun r2 => some (r2.1, r2.2)))))) := rfl
def s_primary (X : Nat → Nat → Nat → (Nat → Int32) → MS → Option (Int32 × MS)) (K d : Nat) (b : Nat) (L : Nat → Int32) (σ : MS) : Option (Int32 × MS) := match b with
  | 0 => if ((σ.1 10)) = 0 then (X d 11 1 L σ) else (some (0, σ))
  | 1 => if ((σ.1 6)) = 2 then (X d 11 2 L σ) else (if ((σ.1 6)) = 3 then (X d 11 2 L σ) else (X d 11 7 L σ))
  | 2 => if ((σ.1 6)) = 3 then (X d 11 4 (upd L 100 1) σ) else (X d 11 3 L σ)
  | 3 => X d 11 4 (upd L 100 0) σ
  | 4 => if ((L 100)) = 1 then (X d 11 6 (upd (upd L 1 ((L 100))) 100 2) σ) else (X d 11 5 (upd L 1 ((L 100))) σ)
  | 5 => X d 11 6 (upd L 100 1) σ
  | 6 => ob (x_keep K 0 (upd (upd (fun _ => 0) 1 ((((σ.1 8)) + ((L 1))))) 2 ((((σ.1 9)) - ((L 1))))) σ) (fun r1 => ob (x_node K 0 (upd (upd (upd (upd (fun _ => 0) 1 ((L 100))) 2 r1.1) 3 ((((((r1.2.1 9)) - ((r1.2.1 8)))) - ((2 * ((L 1))))))) 4 0) r1.2) (fun r2 => ob (x_take K 0 (fun _ => 0) r2.2) (fun r3 => some (r2.1, r3.2))))
  | 7 => if ((σ.1 6)) = 1 then (od d (fun e2 => ob (X e2 6 0 (fun _ => 0) σ) (fun r2 => some (r2.1, r2.2)))) else (X d 11 8 L σ)
  | 8 => ob (x_isSign K 0 (upd (fun _ => 0) 1 6) σ) (fun r1 => if r1.1 = 0 then (X d 11 11 L r1.2) else (ob (x_open K 0 (fun _ => 0) r1.2) (fun r3 => if ((r3.2.1 10)) = 0 then (ob (x_take K 0 (fun _ => 0) r3.2) (fun r5 => X d 11 9 L r5.2)) else (X d 11 9 L r3.2))))
  | 9 => od d (fun e1 => ob (X e1 3 0 (fun _ => 0) σ) (fun r1 => ob (x_want K 0 (upd (fun _ => 0) 1 7) r1.2) (fun r2 => X d 11 10 (upd L 1 r1.1) (upd r2.2.1 13 ((((r2.2.1 13)) - 1)), r2.2.2.1, r2.2.2.2))))
  | 10 => ob (x_over K 0 (upd (upd (upd (upd (fun _ => 0) 1 26) 2 0) 3 ((L 1))) 4 0) σ) (fun r1 => some (r1.1, r1.2))
  | 11 => ob (x_isSign K 0 (upd (fun _ => 0) 1 8) σ) (fun r1 => if r1.1 = 0 then (ob (x_isSign K 0 (upd (fun _ => 0) 1 10) r1.2) (fun r3 => if r3.1 = 0 then (X d 11 13 L r3.2) else (X d 11 12 L r3.2))) else (X d 11 12 L r1.2))
  | 12 => od d (fun e1 => ob (X e1 0 0 (fun _ => 0) σ) (fun r1 => some (r1.1, r1.2)))
  | 13 => if ((σ.1 6)) = 5 then (od d (fun e2 => ob (X e2 16 0 (fun _ => 0) σ) (fun r2 => some (r2.1, r2.2)))) else (X d 11 14 L σ)
  | 14 => ob (x_cannot K 0 (fun _ => 0) σ) (fun r1 => some (0, r1.2))
  | _ => none
theorem s_primary_0 (X : Nat → Nat → Nat → (Nat → Int32) → MS → Option (Int32 × MS)) (K d : Nat) (L : Nat → Int32) (σ : MS) : s_primary X K d 0 L σ = (if ((σ.1 10)) = 0 then (X d 11 1 L σ) else (some (0, σ))) := rfl
theorem s_primary_1 (X : Nat → Nat → Nat → (Nat → Int32) → MS → Option (Int32 × MS)) (K d : Nat) (L : Nat → Int32) (σ : MS) : s_primary X K d 1 L σ = (if ((σ.1 6)) = 2 then (X d 11 2 L σ) else (if ((σ.1 6)) = 3 then (X d 11 2 L σ) else (X d 11 7 L σ))) := rfl
theorem s_primary_2 (X : Nat → Nat → Nat → (Nat → Int32) → MS → Option (Int32 × MS)) (K d : Nat) (L : Nat → Int32) (σ : MS) : s_primary X K d 2 L σ = (if ((σ.1 6)) = 3 then (X d 11 4 (upd L 100 1) σ) else (X d 11 3 L σ)) := rfl
theorem s_primary_3 (X : Nat → Nat → Nat → (Nat → Int32) → MS → Option (Int32 × MS)) (K d : Nat) (L : Nat → Int32) (σ : MS) : s_primary X K d 3 L σ = (X d 11 4 (upd L 100 0) σ) := rfl
theorem s_primary_4 (X : Nat → Nat → Nat → (Nat → Int32) → MS → Option (Int32 × MS)) (K d : Nat) (L : Nat → Int32) (σ : MS) : s_primary X K d 4 L σ = (if ((L 100)) = 1 then (X d 11 6 (upd (upd L 1 ((L 100))) 100 2) σ) else (X d 11 5 (upd L 1 ((L 100))) σ)) := rfl
theorem s_primary_5 (X : Nat → Nat → Nat → (Nat → Int32) → MS → Option (Int32 × MS)) (K d : Nat) (L : Nat → Int32) (σ : MS) : s_primary X K d 5 L σ = (X d 11 6 (upd L 100 1) σ) := rfl
theorem s_primary_6 (X : Nat → Nat → Nat → (Nat → Int32) → MS → Option (Int32 × MS)) (K d : Nat) (L : Nat → Int32) (σ : MS) : s_primary X K d 6 L σ = (ob (x_keep K 0 (upd (upd (fun _ => 0) 1 ((((σ.1 8)) + ((L 1))))) 2 ((((σ.1 9)) - ((L 1))))) σ) (fun r1 => ob (x_node K 0 (upd (upd (upd (upd (fun _ => 0) 1 ((L 100))) 2 r1.1) 3 ((((((r1.2.1 9)) - ((r1.2.1 8)))) - ((2 * ((L 1))))))) 4 0) r1.2) (fun r2 => ob (x_take K 0 (fun _ => 0) r2.2) (fun r3 => some (r2.1, r3.2))))) := rfl
theorem s_primary_7 (X : Nat → Nat → Nat → (Nat → Int32) → MS → Option (Int32 × MS)) (K d : Nat) (L : Nat → Int32) (σ : MS) : s_primary X K d 7 L σ = (if ((σ.1 6)) = 1 then (od d (fun e2 => ob (X e2 6 0 (fun _ => 0) σ) (fun r2 => some (r2.1, r2.2)))) else (X d 11 8 L σ)) := rfl
theorem s_primary_8 (X : Nat → Nat → Nat → (Nat → Int32) → MS → Option (Int32 × MS)) (K d : Nat) (L : Nat → Int32) (σ : MS) : s_primary X K d 8 L σ = (ob (x_isSign K 0 (upd (fun _ => 0) 1 6) σ) (fun r1 => if r1.1 = 0 then (X d 11 11 L r1.2) else (ob (x_open K 0 (fun _ => 0) r1.2) (fun r3 => if ((r3.2.1 10)) = 0 then (ob (x_take K 0 (fun _ => 0) r3.2) (fun r5 => X d 11 9 L r5.2)) else (X d 11 9 L r3.2))))) := rfl
theorem s_primary_9 (X : Nat → Nat → Nat → (Nat → Int32) → MS → Option (Int32 × MS)) (K d : Nat) (L : Nat → Int32) (σ : MS) : s_primary X K d 9 L σ = (od d (fun e1 => ob (X e1 3 0 (fun _ => 0) σ) (fun r1 => ob (x_want K 0 (upd (fun _ => 0) 1 7) r1.2) (fun r2 => X d 11 10 (upd L 1 r1.1) (upd r2.2.1 13 ((((r2.2.1 13)) - 1)), r2.2.2.1, r2.2.2.2))))) := rfl
theorem s_primary_10 (X : Nat → Nat → Nat → (Nat → Int32) → MS → Option (Int32 × MS)) (K d : Nat) (L : Nat → Int32) (σ : MS) : s_primary X K d 10 L σ = (ob (x_over K 0 (upd (upd (upd (upd (fun _ => 0) 1 26) 2 0) 3 ((L 1))) 4 0) σ) (fun r1 => some (r1.1, r1.2))) := rfl
theorem s_primary_11 (X : Nat → Nat → Nat → (Nat → Int32) → MS → Option (Int32 × MS)) (K d : Nat) (L : Nat → Int32) (σ : MS) : s_primary X K d 11 L σ = (ob (x_isSign K 0 (upd (fun _ => 0) 1 8) σ) (fun r1 => if r1.1 = 0 then (ob (x_isSign K 0 (upd (fun _ => 0) 1 10) r1.2) (fun r3 => if r3.1 = 0 then (X d 11 13 L r3.2) else (X d 11 12 L r3.2))) else (X d 11 12 L r1.2))) := rfl
theorem s_primary_12 (X : Nat → Nat → Nat → (Nat → Int32) → MS → Option (Int32 × MS)) (K d : Nat) (L : Nat → Int32) (σ : MS) : s_primary X K d 12 L σ = (od d (fun e1 => ob (X e1 0 0 (fun _ => 0) σ) (fun r1 => some (r1.1, r1.2)))) := rfl
theorem s_primary_13 (X : Nat → Nat → Nat → (Nat → Int32) → MS → Option (Int32 × MS)) (K d : Nat) (L : Nat → Int32) (σ : MS) : s_primary X K d 13 L σ = (if ((σ.1 6)) = 5 then (od d (fun e2 => ob (X e2 16 0 (fun _ => 0) σ) (fun r2 => some (r2.1, r2.2)))) else (X d 11 14 L σ)) := rfl
theorem s_primary_14 (X : Nat → Nat → Nat → (Nat → Int32) → MS → Option (Int32 × MS)) (K d : Nat) (L : Nat → Int32) (σ : MS) : s_primary X K d 14 L σ = (ob (x_cannot K 0 (fun _ => 0) σ) (fun r1 => some (0, r1.2))) := rfl
def s_quantified (X : Nat → Nat → Nat → (Nat → Int32) → MS → Option (Int32 × MS)) (K d : Nat) (b : Nat) (L : Nat → Int32) (σ : MS) : Option (Int32 × MS) := match b with
  | 0 => ob (x_open K 0 (fun _ => 0) σ) (fun r1 => if ((r1.2.1 10)) = 0 then (ob (x_take K 0 (fun _ => 0) r1.2) (fun r3 => X d 12 1 L r3.2)) else (X d 12 1 L r1.2))
  | 1 => od d (fun e1 => ob (X e1 4 0 (upd (fun _ => 0) 1 0) σ) (fun r1 => ob (x_want K 0 (upd (fun _ => 0) 1 15) r1.2) (fun r2 => od d (fun e3 => ob (X e3 3 0 (fun _ => 0) r2.2) (fun r3 => X d 12 2 (upd (upd (upd L 2 ((σ.1 38))) 3 r1.1) 4 r3.1) (upd r3.2.1 38 ((σ.1 38)), r3.2.2.1, r3.2.2.2))))))
  | 2 => X d 12 3 L (upd σ.1 13 ((((σ.1 13)) - 1)), σ.2.1, σ.2.2)
  | 3 => ob (x_node K 0 (upd (upd (upd (upd (fun _ => 0) 1 14) 2 ((L 1))) 3 ((L 3))) 4 ((L 4))) σ) (fun r1 => some (r1.1, r1.2))
  | _ => none
theorem s_quantified_0 (X : Nat → Nat → Nat → (Nat → Int32) → MS → Option (Int32 × MS)) (K d : Nat) (L : Nat → Int32) (σ : MS) : s_quantified X K d 0 L σ = (ob (x_open K 0 (fun _ => 0) σ) (fun r1 => if ((r1.2.1 10)) = 0 then (ob (x_take K 0 (fun _ => 0) r1.2) (fun r3 => X d 12 1 L r3.2)) else (X d 12 1 L r1.2))) := rfl
theorem s_quantified_1 (X : Nat → Nat → Nat → (Nat → Int32) → MS → Option (Int32 × MS)) (K d : Nat) (L : Nat → Int32) (σ : MS) : s_quantified X K d 1 L σ = (od d (fun e1 => ob (X e1 4 0 (upd (fun _ => 0) 1 0) σ) (fun r1 => ob (x_want K 0 (upd (fun _ => 0) 1 15) r1.2) (fun r2 => od d (fun e3 => ob (X e3 3 0 (fun _ => 0) r2.2) (fun r3 => X d 12 2 (upd (upd (upd L 2 ((σ.1 38))) 3 r1.1) 4 r3.1) (upd r3.2.1 38 ((σ.1 38)), r3.2.2.1, r3.2.2.2))))))) := rfl
theorem s_quantified_2 (X : Nat → Nat → Nat → (Nat → Int32) → MS → Option (Int32 × MS)) (K d : Nat) (L : Nat → Int32) (σ : MS) : s_quantified X K d 2 L σ = (X d 12 3 L (upd σ.1 13 ((((σ.1 13)) - 1)), σ.2.1, σ.2.2)) := rfl
theorem s_quantified_3 (X : Nat → Nat → Nat → (Nat → Int32) → MS → Option (Int32 × MS)) (K d : Nat) (L : Nat → Int32) (σ : MS) : s_quantified X K d 3 L σ = (ob (x_node K 0 (upd (upd (upd (upd (fun _ => 0) 1 14) 2 ((L 1))) 3 ((L 3))) 4 ((L 4))) σ) (fun r1 => some (r1.1, r1.2))) := rfl
def s_relation (X : Nat → Nat → Nat → (Nat → Int32) → MS → Option (Int32 × MS)) (K d : Nat) (b : Nat) (L : Nat → Int32) (σ : MS) : Option (Int32 × MS) := match b with
  | 0 => od d (fun e1 => ob (X e1 14 0 (fun _ => 0) σ) (fun r1 => if ((r1.2.1 10)) = 0 then (ob (x_isRelation K 0 (fun _ => 0) r1.2) (fun r3 => if r3.1 = 0 then (X d 13 1 (upd L 1 r1.1) r3.2) else (ob (x_operator K 0 (fun _ => 0) r3.2) (fun r5 => ob (x_take K 0 (fun _ => 0) r5.2) (fun r6 => od d (fun e7 => ob (X e7 14 0 (fun _ => 0) r6.2) (fun r7 => ob (x_over K 0 (upd (upd (upd (upd (fun _ => 0) 1 16) 2 r5.1) 3 r1.1) 4 r7.1) r7.2) (fun r8 => X d 13 1 (upd (upd L 1 r8.1) 2 r5.1) r8.2)))))))) else (X d 13 1 (upd L 1 r1.1) r1.2)))
  | 1 => some ((L 1), σ)
  | _ => none
theorem s_relation_0 (X : Nat → Nat → Nat → (Nat → Int32) → MS → Option (Int32 × MS)) (K d : Nat) (L : Nat → Int32) (σ : MS) : s_relation X K d 0 L σ = (od d (fun e1 => ob (X e1 14 0 (fun _ => 0) σ) (fun r1 => if ((r1.2.1 10)) = 0 then (ob (x_isRelation K 0 (fun _ => 0) r1.2) (fun r3 => if r3.1 = 0 then (X d 13 1 (upd L 1 r1.1) r3.2) else (ob (x_operator K 0 (fun _ => 0) r3.2) (fun r5 => ob (x_take K 0 (fun _ => 0) r5.2) (fun r6 => od d (fun e7 => ob (X e7 14 0 (fun _ => 0) r6.2) (fun r7 => ob (x_over K 0 (upd (upd (upd (upd (fun _ => 0) 1 16) 2 r5.1) 3 r1.1) 4 r7.1) r7.2) (fun r8 => X d 13 1 (upd (upd L 1 r8.1) 2 r5.1) r8.2)))))))) else (X d 13 1 (upd L 1 r1.1) r1.2)))) := rfl
theorem s_relation_1 (X : Nat → Nat → Nat → (Nat → Int32) → MS → Option (Int32 × MS)) (K d : Nat) (L : Nat → Int32) (σ : MS) : s_relation X K d 1 L σ = (some ((L 1), σ)) := rfl
def s_sum (X : Nat → Nat → Nat → (Nat → Int32) → MS → Option (Int32 × MS)) (K d : Nat) (b : Nat) (L : Nat → Int32) (σ : MS) : Option (Int32 × MS) := match b with
  | 0 => od d (fun e1 => ob (X e1 15 0 (fun _ => 0) σ) (fun r1 => X d 14 1 (upd L 1 r1.1) r1.2))
  | 1 => if ((σ.1 10)) = 0 then (ob (x_isSign K 0 (upd (fun _ => 0) 1 2) σ) (fun r2 => if r2.1 = 0 then (ob (x_isSign K 0 (upd (fun _ => 0) 1 3) r2.2) (fun r4 => if r4.1 = 0 then (X d 14 3 L r4.2) else (X d 14 2 L r4.2))) else (X d 14 2 L r2.2))) else (X d 14 3 L σ)
  | 2 => ob (x_operator K 0 (fun _ => 0) σ) (fun r1 => ob (x_take K 0 (fun _ => 0) r1.2) (fun r2 => od d (fun e3 => ob (X e3 15 0 (fun _ => 0) r2.2) (fun r3 => ob (x_over K 0 (upd (upd (upd (upd (fun _ => 0) 1 16) 2 r1.1) 3 ((L 1))) 4 r3.1) r3.2) (fun r4 => X d 14 1 (upd (upd L 2 r1.1) 1 r4.1) r4.2)))))
  | 3 => some ((L 1), σ)
  | _ => none
theorem s_sum_0 (X : Nat → Nat → Nat → (Nat → Int32) → MS → Option (Int32 × MS)) (K d : Nat) (L : Nat → Int32) (σ : MS) : s_sum X K d 0 L σ = (od d (fun e1 => ob (X e1 15 0 (fun _ => 0) σ) (fun r1 => X d 14 1 (upd L 1 r1.1) r1.2))) := rfl
theorem s_sum_1 (X : Nat → Nat → Nat → (Nat → Int32) → MS → Option (Int32 × MS)) (K d : Nat) (L : Nat → Int32) (σ : MS) : s_sum X K d 1 L σ = (if ((σ.1 10)) = 0 then (ob (x_isSign K 0 (upd (fun _ => 0) 1 2) σ) (fun r2 => if r2.1 = 0 then (ob (x_isSign K 0 (upd (fun _ => 0) 1 3) r2.2) (fun r4 => if r4.1 = 0 then (X d 14 3 L r4.2) else (X d 14 2 L r4.2))) else (X d 14 2 L r2.2))) else (X d 14 3 L σ)) := rfl
theorem s_sum_2 (X : Nat → Nat → Nat → (Nat → Int32) → MS → Option (Int32 × MS)) (K d : Nat) (L : Nat → Int32) (σ : MS) : s_sum X K d 2 L σ = (ob (x_operator K 0 (fun _ => 0) σ) (fun r1 => ob (x_take K 0 (fun _ => 0) r1.2) (fun r2 => od d (fun e3 => ob (X e3 15 0 (fun _ => 0) r2.2) (fun r3 => ob (x_over K 0 (upd (upd (upd (upd (fun _ => 0) 1 16) 2 r1.1) 3 ((L 1))) 4 r3.1) r3.2) (fun r4 => X d 14 1 (upd (upd L 2 r1.1) 1 r4.1) r4.2)))))) := rfl
theorem s_sum_3 (X : Nat → Nat → Nat → (Nat → Int32) → MS → Option (Int32 × MS)) (K d : Nat) (L : Nat → Int32) (σ : MS) : s_sum X K d 3 L σ = (some ((L 1), σ)) := rfl
def s_term (X : Nat → Nat → Nat → (Nat → Int32) → MS → Option (Int32 × MS)) (K d : Nat) (b : Nat) (L : Nat → Int32) (σ : MS) : Option (Int32 × MS) := match b with
  | 0 => od d (fun e1 => ob (X e1 9 0 (fun _ => 0) σ) (fun r1 => X d 15 1 (upd L 1 r1.1) r1.2))
  | 1 => if ((σ.1 10)) = 0 then (ob (x_isSign K 0 (upd (fun _ => 0) 1 4) σ) (fun r2 => if r2.1 = 0 then (ob (x_isWord K 0 (upd (fun _ => 0) 1 35) r2.2) (fun r4 => if r4.1 = 0 then (ob (x_isWord K 0 (upd (fun _ => 0) 1 36) r4.2) (fun r6 => if r6.1 = 0 then (X d 15 3 L r6.2) else (X d 15 2 L r6.2))) else (X d 15 2 L r4.2))) else (X d 15 2 L r2.2))) else (X d 15 3 L σ)
  | 2 => ob (x_operator K 0 (fun _ => 0) σ) (fun r1 => ob (x_take K 0 (fun _ => 0) r1.2) (fun r2 => od d (fun e3 => ob (X e3 9 0 (fun _ => 0) r2.2) (fun r3 => ob (x_over K 0 (upd (upd (upd (upd (fun _ => 0) 1 16) 2 r1.1) 3 ((L 1))) 4 r3.1) r3.2) (fun r4 => X d 15 1 (upd (upd L 2 r1.1) 1 r4.1) r4.2)))))
  | 3 => some ((L 1), σ)
  | _ => none
theorem s_term_0 (X : Nat → Nat → Nat → (Nat → Int32) → MS → Option (Int32 × MS)) (K d : Nat) (L : Nat → Int32) (σ : MS) : s_term X K d 0 L σ = (od d (fun e1 => ob (X e1 9 0 (fun _ => 0) σ) (fun r1 => X d 15 1 (upd L 1 r1.1) r1.2))) := rfl
theorem s_term_1 (X : Nat → Nat → Nat → (Nat → Int32) → MS → Option (Int32 × MS)) (K d : Nat) (L : Nat → Int32) (σ : MS) : s_term X K d 1 L σ = (if ((σ.1 10)) = 0 then (ob (x_isSign K 0 (upd (fun _ => 0) 1 4) σ) (fun r2 => if r2.1 = 0 then (ob (x_isWord K 0 (upd (fun _ => 0) 1 35) r2.2) (fun r4 => if r4.1 = 0 then (ob (x_isWord K 0 (upd (fun _ => 0) 1 36) r4.2) (fun r6 => if r6.1 = 0 then (X d 15 3 L r6.2) else (X d 15 2 L r6.2))) else (X d 15 2 L r4.2))) else (X d 15 2 L r2.2))) else (X d 15 3 L σ)) := rfl
theorem s_term_2 (X : Nat → Nat → Nat → (Nat → Int32) → MS → Option (Int32 × MS)) (K d : Nat) (L : Nat → Int32) (σ : MS) : s_term X K d 2 L σ = (ob (x_operator K 0 (fun _ => 0) σ) (fun r1 => ob (x_take K 0 (fun _ => 0) r1.2) (fun r2 => od d (fun e3 => ob (X e3 9 0 (fun _ => 0) r2.2) (fun r3 => ob (x_over K 0 (upd (upd (upd (upd (fun _ => 0) 1 16) 2 r1.1) 3 ((L 1))) 4 r3.1) r3.2) (fun r4 => X d 15 1 (upd (upd L 2 r1.1) 1 r4.1) r4.2)))))) := rfl
theorem s_term_3 (X : Nat → Nat → Nat → (Nat → Int32) → MS → Option (Int32 × MS)) (K d : Nat) (L : Nat → Int32) (σ : MS) : s_term X K d 3 L σ = (some ((L 1), σ)) := rfl
def s_wordly (X : Nat → Nat → Nat → (Nat → Int32) → MS → Option (Int32 × MS)) (K d : Nat) (b : Nat) (L : Nat → Int32) (σ : MS) : Option (Int32 × MS) := match b with
  | 0 => if ((σ.1 7)) = (7 : Int32) then (X d 16 7 (upd L 1 ((σ.1 7))) σ) else (if ((σ.1 7)) = (28 : Int32) then (X d 16 1 (upd L 1 ((σ.1 7))) σ) else (if ((σ.1 7)) = (29 : Int32) then (X d 16 2 (upd L 1 ((σ.1 7))) σ) else (if ((σ.1 7)) = (30 : Int32) then (X d 16 3 (upd L 1 ((σ.1 7))) σ) else (if ((σ.1 7)) = (37 : Int32) then (X d 16 4 (upd L 1 ((σ.1 7))) σ) else (if ((σ.1 7)) = (38 : Int32) then (X d 16 4 (upd L 1 ((σ.1 7))) σ) else (X d 16 8 (upd L 1 ((σ.1 7))) σ))))))
  | 1 => ob (x_named K 0 (upd (fun _ => 0) 1 3) σ) (fun r1 => some (r1.1, r1.2))
  | 2 => ob (x_named K 0 (upd (fun _ => 0) 1 4) σ) (fun r1 => some (r1.1, r1.2))
  | 3 => ob (x_named K 0 (upd (fun _ => 0) 1 5) σ) (fun r1 => some (r1.1, r1.2))
  | 4 => if ((L 1)) = 37 then (X d 16 6 (upd L 100 1) σ) else (X d 16 5 L σ)
  | 5 => X d 16 6 (upd L 100 0) σ
  | 6 => od d (fun e1 => ob (X e1 12 0 (upd (fun _ => 0) 1 ((L 100))) σ) (fun r1 => some (r1.1, r1.2)))
  | 7 => od d (fun e1 => ob (X e1 1 0 (fun _ => 0) σ) (fun r1 => some (r1.1, r1.2)))
  | 8 => if ((L 1)) = 51 then (if ((σ.1 43)) = 0 then (X d 16 9 L σ) else (ob (x_named K 0 (upd (fun _ => 0) 1 6) σ) (fun r3 => some (r3.1, r3.2)))) else (X d 16 9 L σ)
  | 9 => if ((L 1)) < 39 then (X d 16 10 L σ) else (if ((L 1)) ≤ 47 then (X d 16 11 L σ) else (X d 16 10 L σ))
  | 10 => if ((L 1)) = 50 then (X d 16 11 L σ) else (if ((L 1)) = 52 then (if ((σ.1 42)) = 0 then (X d 16 12 L σ) else (X d 16 11 L σ)) else (X d 16 12 L σ))
  | 11 => X d 16 13 (upd L 100 1) σ
  | 12 => X d 16 13 (upd L 100 0) σ
  | 13 => if ((L 100)) = 0 then (ob (x_cannot K 0 (fun _ => 0) σ) (fun r2 => some (0, r2.2))) else (X d 16 14 (upd L 2 ((L 100))) σ)
  | 14 => ob (x_take K 0 (fun _ => 0) σ) (fun r1 => if ((r1.2.1 10)) = 0 then (ob (x_isSign K 0 (upd (fun _ => 0) 1 6) r1.2) (fun r3 => if r3.1 = 0 then (ob (x_cannot K 0 (fun _ => 0) r3.2) (fun r5 => X d 16 15 L r5.2)) else (X d 16 15 L r3.2))) else (X d 16 15 L r1.2))
  | 15 => if ((σ.1 10)) = 0 then (ob (x_open K 0 (fun _ => 0) σ) (fun r2 => X d 16 16 L r2.2)) else (X d 16 16 L σ)
  | 16 => if ((σ.1 10)) = 0 then (ob (x_take K 0 (fun _ => 0) σ) (fun r2 => X d 16 17 L r2.2)) else (X d 16 17 L σ)
  | 17 => od d (fun e1 => ob (X e1 3 0 (fun _ => 0) σ) (fun r1 => ob (x_want K 0 (upd (fun _ => 0) 1 7) r1.2) (fun r2 => X d 16 18 (upd L 3 r1.1) (upd r2.2.1 13 ((((r2.2.1 13)) - 1)), r2.2.2.1, r2.2.2.2))))
  | 18 => ob (x_node K 0 (upd (upd (upd (upd (fun _ => 0) 1 9) 2 ((L 1))) 3 ((L 3))) 4 0) σ) (fun r1 => some (r1.1, r1.2))
  | _ => none
theorem s_wordly_0 (X : Nat → Nat → Nat → (Nat → Int32) → MS → Option (Int32 × MS)) (K d : Nat) (L : Nat → Int32) (σ : MS) : s_wordly X K d 0 L σ = (if ((σ.1 7)) = (7 : Int32) then (X d 16 7 (upd L 1 ((σ.1 7))) σ) else (if ((σ.1 7)) = (28 : Int32) then (X d 16 1 (upd L 1 ((σ.1 7))) σ) else (if ((σ.1 7)) = (29 : Int32) then (X d 16 2 (upd L 1 ((σ.1 7))) σ) else (if ((σ.1 7)) = (30 : Int32) then (X d 16 3 (upd L 1 ((σ.1 7))) σ) else (if ((σ.1 7)) = (37 : Int32) then (X d 16 4 (upd L 1 ((σ.1 7))) σ) else (if ((σ.1 7)) = (38 : Int32) then (X d 16 4 (upd L 1 ((σ.1 7))) σ) else (X d 16 8 (upd L 1 ((σ.1 7))) σ))))))) := rfl
theorem s_wordly_1 (X : Nat → Nat → Nat → (Nat → Int32) → MS → Option (Int32 × MS)) (K d : Nat) (L : Nat → Int32) (σ : MS) : s_wordly X K d 1 L σ = (ob (x_named K 0 (upd (fun _ => 0) 1 3) σ) (fun r1 => some (r1.1, r1.2))) := rfl
theorem s_wordly_2 (X : Nat → Nat → Nat → (Nat → Int32) → MS → Option (Int32 × MS)) (K d : Nat) (L : Nat → Int32) (σ : MS) : s_wordly X K d 2 L σ = (ob (x_named K 0 (upd (fun _ => 0) 1 4) σ) (fun r1 => some (r1.1, r1.2))) := rfl
theorem s_wordly_3 (X : Nat → Nat → Nat → (Nat → Int32) → MS → Option (Int32 × MS)) (K d : Nat) (L : Nat → Int32) (σ : MS) : s_wordly X K d 3 L σ = (ob (x_named K 0 (upd (fun _ => 0) 1 5) σ) (fun r1 => some (r1.1, r1.2))) := rfl
theorem s_wordly_4 (X : Nat → Nat → Nat → (Nat → Int32) → MS → Option (Int32 × MS)) (K d : Nat) (L : Nat → Int32) (σ : MS) : s_wordly X K d 4 L σ = (if ((L 1)) = 37 then (X d 16 6 (upd L 100 1) σ) else (X d 16 5 L σ)) := rfl
theorem s_wordly_5 (X : Nat → Nat → Nat → (Nat → Int32) → MS → Option (Int32 × MS)) (K d : Nat) (L : Nat → Int32) (σ : MS) : s_wordly X K d 5 L σ = (X d 16 6 (upd L 100 0) σ) := rfl
theorem s_wordly_6 (X : Nat → Nat → Nat → (Nat → Int32) → MS → Option (Int32 × MS)) (K d : Nat) (L : Nat → Int32) (σ : MS) : s_wordly X K d 6 L σ = (od d (fun e1 => ob (X e1 12 0 (upd (fun _ => 0) 1 ((L 100))) σ) (fun r1 => some (r1.1, r1.2)))) := rfl
theorem s_wordly_7 (X : Nat → Nat → Nat → (Nat → Int32) → MS → Option (Int32 × MS)) (K d : Nat) (L : Nat → Int32) (σ : MS) : s_wordly X K d 7 L σ = (od d (fun e1 => ob (X e1 1 0 (fun _ => 0) σ) (fun r1 => some (r1.1, r1.2)))) := rfl
theorem s_wordly_8 (X : Nat → Nat → Nat → (Nat → Int32) → MS → Option (Int32 × MS)) (K d : Nat) (L : Nat → Int32) (σ : MS) : s_wordly X K d 8 L σ = (if ((L 1)) = 51 then (if ((σ.1 43)) = 0 then (X d 16 9 L σ) else (ob (x_named K 0 (upd (fun _ => 0) 1 6) σ) (fun r3 => some (r3.1, r3.2)))) else (X d 16 9 L σ)) := rfl
theorem s_wordly_9 (X : Nat → Nat → Nat → (Nat → Int32) → MS → Option (Int32 × MS)) (K d : Nat) (L : Nat → Int32) (σ : MS) : s_wordly X K d 9 L σ = (if ((L 1)) < 39 then (X d 16 10 L σ) else (if ((L 1)) ≤ 47 then (X d 16 11 L σ) else (X d 16 10 L σ))) := rfl
theorem s_wordly_10 (X : Nat → Nat → Nat → (Nat → Int32) → MS → Option (Int32 × MS)) (K d : Nat) (L : Nat → Int32) (σ : MS) : s_wordly X K d 10 L σ = (if ((L 1)) = 50 then (X d 16 11 L σ) else (if ((L 1)) = 52 then (if ((σ.1 42)) = 0 then (X d 16 12 L σ) else (X d 16 11 L σ)) else (X d 16 12 L σ))) := rfl
theorem s_wordly_11 (X : Nat → Nat → Nat → (Nat → Int32) → MS → Option (Int32 × MS)) (K d : Nat) (L : Nat → Int32) (σ : MS) : s_wordly X K d 11 L σ = (X d 16 13 (upd L 100 1) σ) := rfl
theorem s_wordly_12 (X : Nat → Nat → Nat → (Nat → Int32) → MS → Option (Int32 × MS)) (K d : Nat) (L : Nat → Int32) (σ : MS) : s_wordly X K d 12 L σ = (X d 16 13 (upd L 100 0) σ) := rfl
theorem s_wordly_13 (X : Nat → Nat → Nat → (Nat → Int32) → MS → Option (Int32 × MS)) (K d : Nat) (L : Nat → Int32) (σ : MS) : s_wordly X K d 13 L σ = (if ((L 100)) = 0 then (ob (x_cannot K 0 (fun _ => 0) σ) (fun r2 => some (0, r2.2))) else (X d 16 14 (upd L 2 ((L 100))) σ)) := rfl
theorem s_wordly_14 (X : Nat → Nat → Nat → (Nat → Int32) → MS → Option (Int32 × MS)) (K d : Nat) (L : Nat → Int32) (σ : MS) : s_wordly X K d 14 L σ = (ob (x_take K 0 (fun _ => 0) σ) (fun r1 => if ((r1.2.1 10)) = 0 then (ob (x_isSign K 0 (upd (fun _ => 0) 1 6) r1.2) (fun r3 => if r3.1 = 0 then (ob (x_cannot K 0 (fun _ => 0) r3.2) (fun r5 => X d 16 15 L r5.2)) else (X d 16 15 L r3.2))) else (X d 16 15 L r1.2))) := rfl
theorem s_wordly_15 (X : Nat → Nat → Nat → (Nat → Int32) → MS → Option (Int32 × MS)) (K d : Nat) (L : Nat → Int32) (σ : MS) : s_wordly X K d 15 L σ = (if ((σ.1 10)) = 0 then (ob (x_open K 0 (fun _ => 0) σ) (fun r2 => X d 16 16 L r2.2)) else (X d 16 16 L σ)) := rfl
theorem s_wordly_16 (X : Nat → Nat → Nat → (Nat → Int32) → MS → Option (Int32 × MS)) (K d : Nat) (L : Nat → Int32) (σ : MS) : s_wordly X K d 16 L σ = (if ((σ.1 10)) = 0 then (ob (x_take K 0 (fun _ => 0) σ) (fun r2 => X d 16 17 L r2.2)) else (X d 16 17 L σ)) := rfl
theorem s_wordly_17 (X : Nat → Nat → Nat → (Nat → Int32) → MS → Option (Int32 × MS)) (K d : Nat) (L : Nat → Int32) (σ : MS) : s_wordly X K d 17 L σ = (od d (fun e1 => ob (X e1 3 0 (fun _ => 0) σ) (fun r1 => ob (x_want K 0 (upd (fun _ => 0) 1 7) r1.2) (fun r2 => X d 16 18 (upd L 3 r1.1) (upd r2.2.1 13 ((((r2.2.1 13)) - 1)), r2.2.2.1, r2.2.2.2))))) := rfl
theorem s_wordly_18 (X : Nat → Nat → Nat → (Nat → Int32) → MS → Option (Int32 × MS)) (K d : Nat) (L : Nat → Int32) (σ : MS) : s_wordly X K d 18 L σ = (ob (x_node K 0 (upd (upd (upd (upd (fun _ => 0) 1 9) 2 ((L 1))) 3 ((L 3))) 4 0) σ) (fun r1 => some (r1.1, r1.2))) := rfl
def x_GE : Nat → Nat → Nat → Nat → (Nat → Int32) → MS → Option (Int32 × MS)
  | 0 => fun _ _ _ _ _ => none
  | k + 1 => fun d m b L σ => match m with
    | 0 => s_brackets (x_GE k) k d b L σ
    | 1 => s_choice (x_GE k) k d b L σ
    | 2 => s_conjunction (x_GE k) k d b L σ
    | 3 => s_exp (x_GE k) k d b L σ
    | 4 => s_iters (x_GE k) k d b L σ
    | 5 => s_listed (x_GE k) k d b L σ
    | 6 => s_name (x_GE k) k d b L σ
    | 7 => s_negation (x_GE k) k d b L σ
    | 8 => s_parts (x_GE k) k d b L σ
    | 9 => s_power (x_GE k) k d b L σ
    | 10 => s_prefix (x_GE k) k d b L σ
    | 11 => s_primary (x_GE k) k d b L σ
    | 12 => s_quantified (x_GE k) k d b L σ
    | 13 => s_relation (x_GE k) k d b L σ
    | 14 => s_sum (x_GE k) k d b L σ
    | 15 => s_term (x_GE k) k d b L σ
    | 16 => s_wordly (x_GE k) k d b L σ
    | _ => none
theorem x_GE_0 (k d b : Nat) (L : Nat → Int32) (σ : MS) : x_GE (k + 1) d 0 b L σ = s_brackets (x_GE k) k d b L σ := rfl
theorem x_GE_1 (k d b : Nat) (L : Nat → Int32) (σ : MS) : x_GE (k + 1) d 1 b L σ = s_choice (x_GE k) k d b L σ := rfl
theorem x_GE_2 (k d b : Nat) (L : Nat → Int32) (σ : MS) : x_GE (k + 1) d 2 b L σ = s_conjunction (x_GE k) k d b L σ := rfl
theorem x_GE_3 (k d b : Nat) (L : Nat → Int32) (σ : MS) : x_GE (k + 1) d 3 b L σ = s_exp (x_GE k) k d b L σ := rfl
theorem x_GE_4 (k d b : Nat) (L : Nat → Int32) (σ : MS) : x_GE (k + 1) d 4 b L σ = s_iters (x_GE k) k d b L σ := rfl
theorem x_GE_5 (k d b : Nat) (L : Nat → Int32) (σ : MS) : x_GE (k + 1) d 5 b L σ = s_listed (x_GE k) k d b L σ := rfl
theorem x_GE_6 (k d b : Nat) (L : Nat → Int32) (σ : MS) : x_GE (k + 1) d 6 b L σ = s_name (x_GE k) k d b L σ := rfl
theorem x_GE_7 (k d b : Nat) (L : Nat → Int32) (σ : MS) : x_GE (k + 1) d 7 b L σ = s_negation (x_GE k) k d b L σ := rfl
theorem x_GE_8 (k d b : Nat) (L : Nat → Int32) (σ : MS) : x_GE (k + 1) d 8 b L σ = s_parts (x_GE k) k d b L σ := rfl
theorem x_GE_9 (k d b : Nat) (L : Nat → Int32) (σ : MS) : x_GE (k + 1) d 9 b L σ = s_power (x_GE k) k d b L σ := rfl
theorem x_GE_10 (k d b : Nat) (L : Nat → Int32) (σ : MS) : x_GE (k + 1) d 10 b L σ = s_prefix (x_GE k) k d b L σ := rfl
theorem x_GE_11 (k d b : Nat) (L : Nat → Int32) (σ : MS) : x_GE (k + 1) d 11 b L σ = s_primary (x_GE k) k d b L σ := rfl
theorem x_GE_12 (k d b : Nat) (L : Nat → Int32) (σ : MS) : x_GE (k + 1) d 12 b L σ = s_quantified (x_GE k) k d b L σ := rfl
theorem x_GE_13 (k d b : Nat) (L : Nat → Int32) (σ : MS) : x_GE (k + 1) d 13 b L σ = s_relation (x_GE k) k d b L σ := rfl
theorem x_GE_14 (k d b : Nat) (L : Nat → Int32) (σ : MS) : x_GE (k + 1) d 14 b L σ = s_sum (x_GE k) k d b L σ := rfl
theorem x_GE_15 (k d b : Nat) (L : Nat → Int32) (σ : MS) : x_GE (k + 1) d 15 b L σ = s_term (x_GE k) k d b L σ := rfl
theorem x_GE_16 (k d b : Nat) (L : Nat → Int32) (σ : MS) : x_GE (k + 1) d 16 b L σ = s_wordly (x_GE k) k d b L σ := rfl
def o_x_GE : List Cond := [.code yX12_brackets cX12_brackets 8 (some .int), .code yX12_choice cX12_choice 5 (some .int), .code yX12_conjunction cX12_conjunction 2 (some .int), .code yX12_exp cX12_exp 2 (some .int), .code yX12_iters cX12_iters 12 (some .int), .code yX12_listed cX12_listed 7 (some .int), .code yX12_name cX12_name 10 (some .int), .code yX12_negation cX12_negation 2 (some .int), .code yX12_parts cX12_parts 6 (some .int), .code yX12_power cX12_power 3 (some .int), .code yX12_prefix cX12_prefix 3 (some .int), .code yX12_primary cX12_primary 3 (some .int), .code yX12_quantified cX12_quantified 5 (some .int), .code yX12_relation cX12_relation 3 (some .int), .code yX12_sum cX12_sum 3 (some .int), .code yX12_term cX12_term 3 (some .int), .code yX12_wordly cX12_wordly 4 (some .int), .methodLink RX12 65 yX12_isSign, .instanceMethod yX12_isSign, .selects RX12 yX12_isSign yX12_isSign, .initialized RX12, .methodLink RX12 177 yX12_open, .instanceMethod yX12_open, .selects RX12 yX12_open yX12_open, .fieldLink RX12 11 "SetHouseModel" "bad" "Z", .methodLink RX12 71 yX12_take, .instanceMethod yX12_take, .selects RX12 yX12_take yX12_take, .methodLink RX12 101 yX12_node, .instanceMethod yX12_node, .selects RX12 yX12_node yX12_node, .methodLink RX12 74 yX12_isWord, .instanceMethod yX12_isWord, .selects RX12 yX12_isWord yX12_isWord, .fieldLink RX12 114 "SetHouseModel" "seenNames" "I", .methodLink RX12 246 yX12_iters, .instanceMethod yX12_iters, .selects RX12 yX12_iters yX12_iters, .methodLink RX12 209 yX12_exp, .instanceMethod yX12_exp, .selects RX12 yX12_exp yX12_exp, .methodLink RX12 199 yX12_want, .instanceMethod yX12_want, .selects RX12 yX12_want yX12_want, .methodLink RX12 242 yX12_wrapped, .instanceMethod yX12_wrapped, .selects RX12 yX12_wrapped yX12_wrapped, .methodLink RX12 250 yX12_listed, .instanceMethod yX12_listed, .selects RX12 yX12_listed yX12_listed, .fieldLink RX12 77 "SetHouseModel" "opened" "I", .methodLink RX12 253 yX12_wantWord, .instanceMethod yX12_wantWord, .selects RX12 yX12_wantWord yX12_wantWord, .fieldLink RX12 98 "SetHouseModel" "next" "[I", .methodLink RX12 171 yX12_negation, .instanceMethod yX12_negation, .selects RX12 yX12_negation yX12_negation, .methodLink RX12 168 yX12_over, .instanceMethod yX12_over, .selects RX12 yX12_over yX12_over, .methodLink RX12 164 yX12_conjunction, .instanceMethod yX12_conjunction, .selects RX12 yX12_conjunction yX12_conjunction, .fieldLink RX12 256 "SetHouseModel" "rowNames" "I", .methodLink RX12 259 yX12_pattern, .instanceMethod yX12_pattern, .selects RX12 yX12_pattern yX12_pattern, .methodLink RX12 263 yX12_tellName, .instanceMethod yX12_tellName, .selects RX12 yX12_tellName yX12_tellName, .methodLink RX12 180 yX12_sum, .instanceMethod yX12_sum, .selects RX12 yX12_sum yX12_sum, .fieldLink RX12 266 "SetHouseModel" "rowFrom" "[I", .fieldLink RX12 269 "SetHouseModel" "rowSize" "[I", .fieldLink RX12 272 "SetHouseModel" "rowSlot" "[I", .methodLink RX12 275 yX12_see, .instanceMethod yX12_see, .selects RX12 yX12_see yX12_see, .fieldLink RX12 32 "SetHouseModel" "tFrom" "I", .methodLink RX12 236 yX12_find, .instanceMethod yX12_find, .selects RX12 yX12_find yX12_find, .fieldLink RX12 111 "SetHouseModel" "foundKind" "I", .fieldLink RX12 130 "SetHouseModel" "foundNumber" "I", .fieldLink RX12 136 "SetHouseModel" "foundLocal" "Z", .methodLink RX12 58 yX12_fault, .instanceMethod yX12_fault, .selects RX12 yX12_fault yX12_fault, .methodLink RX12 68 yX12_cannot, .instanceMethod yX12_cannot, .selects RX12 yX12_cannot yX12_cannot, .fieldLink RX12 239 "SetHouseModel" "params" "[I", .methodLink RX12 174 yX12_relation, .instanceMethod yX12_relation, .selects RX12 yX12_relation yX12_relation, .fieldLink RX12 95 "SetHouseModel" "x4" "[I", .methodLink RX12 196 yX12_prefix, .instanceMethod yX12_prefix, .selects RX12 yX12_prefix yX12_prefix, .methodLink RX12 193 yX12_power, .instanceMethod yX12_power, .selects RX12 yX12_power yX12_power, .methodLink RX12 187 yX12_operator, .instanceMethod yX12_operator, .selects RX12 yX12_operator yX12_operator, .methodLink RX12 203 yX12_primary, .instanceMethod yX12_primary, .selects RX12 yX12_primary yX12_primary, .methodLink RX12 206 yX12_parts, .instanceMethod yX12_parts, .selects RX12 yX12_parts yX12_parts, .fieldLink RX12 35 "SetHouseModel" "tKind" "I", .fieldLink RX12 55 "SetHouseModel" "tTo" "I", .methodLink RX12 154 yX12_keep, .instanceMethod yX12_keep, .selects RX12 yX12_keep yX12_keep, .methodLink RX12 212 yX12_name, .instanceMethod yX12_name, .selects RX12 yX12_name yX12_name, .methodLink RX12 215 yX12_brackets, .instanceMethod yX12_brackets, .selects RX12 yX12_brackets yX12_brackets, .methodLink RX12 218 yX12_wordly, .instanceMethod yX12_wordly, .selects RX12 yX12_wordly yX12_wordly, .methodLink RX12 183 yX12_isRelation, .instanceMethod yX12_isRelation, .selects RX12 yX12_isRelation yX12_isRelation, .methodLink RX12 190 yX12_term, .instanceMethod yX12_term, .selects RX12 yX12_term yX12_term, .fieldLink RX12 49 "SetHouseModel" "tWhat" "I", .methodLink RX12 221 yX12_named, .instanceMethod yX12_named, .selects RX12 yX12_named yX12_named, .methodLink RX12 224 yX12_quantified, .instanceMethod yX12_quantified, .selects RX12 yX12_quantified yX12_quantified, .methodLink RX12 227 yX12_choice, .instanceMethod yX12_choice, .selects RX12 yX12_choice yX12_choice, .fieldLink RX12 230 "SetHouseModel" "mayMake" "Z", .fieldLink RX12 233 "SetHouseModel" "mayDraw" "Z"]
theorem o_x_GE_good : o_x_GE.all goodWord = true := by decide +kernel
def p_x_GE : List Cond := o_x_GE ++ ((.code yX12_isSign cX12_isSign 2 (some .boolean) :: p_x_isSign) ++ ((.code yX12_open cX12_open 1 none :: p_x_open) ++ ((.code yX12_take cX12_take 2 none :: p_x_take) ++ ((.code yX12_node cX12_node 6 (some .int) :: p_x_node) ++ ((.code yX12_isWord cX12_isWord 2 (some .boolean) :: p_x_isWord) ++ ((.code yX12_want cX12_want 2 none :: p_x_want) ++ ((.code yX12_wrapped cX12_wrapped 7 (some .int) :: p_x_wrapped) ++ ((.code yX12_wantWord cX12_wantWord 2 none :: p_x_wantWord) ++ ((.code yX12_over cX12_over 6 (some .int) :: p_x_over) ++ ((.code yX12_pattern cX12_pattern 6 (some .int) :: p_x_pattern) ++ ((.code yX12_tellName cX12_tellName 5 (some .int) :: p_x_tellName) ++ ((.code yX12_see cX12_see 4 none :: p_x_see) ++ ((.code yX12_find cX12_find 2 none :: p_x_find) ++ ((.code yX12_fault cX12_fault 3 none :: p_x_fault) ++ ((.code yX12_cannot cX12_cannot 1 none :: p_x_cannot) ++ ((.code yX12_operator cX12_operator 1 (some .int) :: p_x_operator) ++ ((.code yX12_keep cX12_keep 5 (some .int) :: p_x_keep) ++ ((.code yX12_isRelation cX12_isRelation 1 (some .boolean) :: p_x_isRelation) ++ ((.code yX12_named cX12_named 3 (some .int) :: p_x_named) ++ [])))))))))))))))))))
theorem p_x_GE_good : p_x_GE.all goodWord = true := nb_all2 o_x_GE_good (nb_all2 (nb_allc (by decide +kernel) p_x_isSign_good) (nb_all2 (nb_allc (by decide +kernel) p_x_open_good) (nb_all2 (nb_allc (by decide +kernel) p_x_take_good) (nb_all2 (nb_allc (by decide +kernel) p_x_node_good) (nb_all2 (nb_allc (by decide +kernel) p_x_isWord_good) (nb_all2 (nb_allc (by decide +kernel) p_x_want_good) (nb_all2 (nb_allc (by decide +kernel) p_x_wrapped_good) (nb_all2 (nb_allc (by decide +kernel) p_x_wantWord_good) (nb_all2 (nb_allc (by decide +kernel) p_x_over_good) (nb_all2 (nb_allc (by decide +kernel) p_x_pattern_good) (nb_all2 (nb_allc (by decide +kernel) p_x_tellName_good) (nb_all2 (nb_allc (by decide +kernel) p_x_see_good) (nb_all2 (nb_allc (by decide +kernel) p_x_find_good) (nb_all2 (nb_allc (by decide +kernel) p_x_fault_good) (nb_all2 (nb_allc (by decide +kernel) p_x_cannot_good) (nb_all2 (nb_allc (by decide +kernel) p_x_operator_good) (nb_all2 (nb_allc (by decide +kernel) p_x_keep_good) (nb_all2 (nb_allc (by decide +kernel) p_x_isRelation_good) (nb_all2 (nb_allc (by decide +kernel) p_x_named_good) rfl)))))))))))))))))))
def w_x_brackets : List Cond := .code yX12_brackets cX12_brackets 8 (some .int) :: (p_x_GE ++ fM)
theorem w_x_brackets_good : w_x_brackets.all goodWord = true := nb_allc (by decide +kernel) (nb_all2 p_x_GE_good fM_good)
theorem in_x_brackets : ∀ w ∈ wsX120, w ∈ w_x_brackets := fun _ h => List.mem_cons_of_mem _ (List.mem_append_right _ h)
theorem hd_x_brackets : yX12_brackets.cls = RX12 ∧ yX12_brackets.cls ≠ "java/lang/invoke/MethodHandle" ∧ yX12_brackets.cls ≠ "java/lang/invoke/VarHandle" ∧ (parseMethodDescriptor yX12_brackets.desc).map (fun d => d.parameters.length) = some 0 := by decide +kernel
def w_x_choice : List Cond := .code yX12_choice cX12_choice 5 (some .int) :: (p_x_GE ++ fM)
theorem w_x_choice_good : w_x_choice.all goodWord = true := nb_allc (by decide +kernel) (nb_all2 p_x_GE_good fM_good)
theorem in_x_choice : ∀ w ∈ wsX120, w ∈ w_x_choice := fun _ h => List.mem_cons_of_mem _ (List.mem_append_right _ h)
theorem hd_x_choice : yX12_choice.cls = RX12 ∧ yX12_choice.cls ≠ "java/lang/invoke/MethodHandle" ∧ yX12_choice.cls ≠ "java/lang/invoke/VarHandle" ∧ (parseMethodDescriptor yX12_choice.desc).map (fun d => d.parameters.length) = some 0 := by decide +kernel
def w_x_conjunction : List Cond := .code yX12_conjunction cX12_conjunction 2 (some .int) :: (p_x_GE ++ fM)
theorem w_x_conjunction_good : w_x_conjunction.all goodWord = true := nb_allc (by decide +kernel) (nb_all2 p_x_GE_good fM_good)
theorem in_x_conjunction : ∀ w ∈ wsX120, w ∈ w_x_conjunction := fun _ h => List.mem_cons_of_mem _ (List.mem_append_right _ h)
theorem hd_x_conjunction : yX12_conjunction.cls = RX12 ∧ yX12_conjunction.cls ≠ "java/lang/invoke/MethodHandle" ∧ yX12_conjunction.cls ≠ "java/lang/invoke/VarHandle" ∧ (parseMethodDescriptor yX12_conjunction.desc).map (fun d => d.parameters.length) = some 0 := by decide +kernel
def w_x_exp : List Cond := .code yX12_exp cX12_exp 2 (some .int) :: (p_x_GE ++ fM)
theorem w_x_exp_good : w_x_exp.all goodWord = true := nb_allc (by decide +kernel) (nb_all2 p_x_GE_good fM_good)
theorem in_x_exp : ∀ w ∈ wsX120, w ∈ w_x_exp := fun _ h => List.mem_cons_of_mem _ (List.mem_append_right _ h)
theorem hd_x_exp : yX12_exp.cls = RX12 ∧ yX12_exp.cls ≠ "java/lang/invoke/MethodHandle" ∧ yX12_exp.cls ≠ "java/lang/invoke/VarHandle" ∧ (parseMethodDescriptor yX12_exp.desc).map (fun d => d.parameters.length) = some 0 := by decide +kernel
def w_x_iters : List Cond := .code yX12_iters cX12_iters 12 (some .int) :: (p_x_GE ++ fM)
theorem w_x_iters_good : w_x_iters.all goodWord = true := nb_allc (by decide +kernel) (nb_all2 p_x_GE_good fM_good)
theorem in_x_iters : ∀ w ∈ wsX120, w ∈ w_x_iters := fun _ h => List.mem_cons_of_mem _ (List.mem_append_right _ h)
theorem hd_x_iters : yX12_iters.cls = RX12 ∧ yX12_iters.cls ≠ "java/lang/invoke/MethodHandle" ∧ yX12_iters.cls ≠ "java/lang/invoke/VarHandle" ∧ (parseMethodDescriptor yX12_iters.desc).map (fun d => d.parameters.length) = some 1 := by decide +kernel
def w_x_listed : List Cond := .code yX12_listed cX12_listed 7 (some .int) :: (p_x_GE ++ fM)
theorem w_x_listed_good : w_x_listed.all goodWord = true := nb_allc (by decide +kernel) (nb_all2 p_x_GE_good fM_good)
theorem in_x_listed : ∀ w ∈ wsX120, w ∈ w_x_listed := fun _ h => List.mem_cons_of_mem _ (List.mem_append_right _ h)
theorem hd_x_listed : yX12_listed.cls = RX12 ∧ yX12_listed.cls ≠ "java/lang/invoke/MethodHandle" ∧ yX12_listed.cls ≠ "java/lang/invoke/VarHandle" ∧ (parseMethodDescriptor yX12_listed.desc).map (fun d => d.parameters.length) = some 1 := by decide +kernel
def w_x_name : List Cond := .code yX12_name cX12_name 10 (some .int) :: (p_x_GE ++ fM)
theorem w_x_name_good : w_x_name.all goodWord = true := nb_allc (by decide +kernel) (nb_all2 p_x_GE_good fM_good)
theorem in_x_name : ∀ w ∈ wsX120, w ∈ w_x_name := fun _ h => List.mem_cons_of_mem _ (List.mem_append_right _ h)
theorem hd_x_name : yX12_name.cls = RX12 ∧ yX12_name.cls ≠ "java/lang/invoke/MethodHandle" ∧ yX12_name.cls ≠ "java/lang/invoke/VarHandle" ∧ (parseMethodDescriptor yX12_name.desc).map (fun d => d.parameters.length) = some 0 := by decide +kernel
def w_x_negation : List Cond := .code yX12_negation cX12_negation 2 (some .int) :: (p_x_GE ++ fM)
theorem w_x_negation_good : w_x_negation.all goodWord = true := nb_allc (by decide +kernel) (nb_all2 p_x_GE_good fM_good)
theorem in_x_negation : ∀ w ∈ wsX120, w ∈ w_x_negation := fun _ h => List.mem_cons_of_mem _ (List.mem_append_right _ h)
theorem hd_x_negation : yX12_negation.cls = RX12 ∧ yX12_negation.cls ≠ "java/lang/invoke/MethodHandle" ∧ yX12_negation.cls ≠ "java/lang/invoke/VarHandle" ∧ (parseMethodDescriptor yX12_negation.desc).map (fun d => d.parameters.length) = some 0 := by decide +kernel
def w_x_parts : List Cond := .code yX12_parts cX12_parts 6 (some .int) :: (p_x_GE ++ fM)
theorem w_x_parts_good : w_x_parts.all goodWord = true := nb_allc (by decide +kernel) (nb_all2 p_x_GE_good fM_good)
theorem in_x_parts : ∀ w ∈ wsX120, w ∈ w_x_parts := fun _ h => List.mem_cons_of_mem _ (List.mem_append_right _ h)
theorem hd_x_parts : yX12_parts.cls = RX12 ∧ yX12_parts.cls ≠ "java/lang/invoke/MethodHandle" ∧ yX12_parts.cls ≠ "java/lang/invoke/VarHandle" ∧ (parseMethodDescriptor yX12_parts.desc).map (fun d => d.parameters.length) = some 1 := by decide +kernel
def w_x_power : List Cond := .code yX12_power cX12_power 3 (some .int) :: (p_x_GE ++ fM)
theorem w_x_power_good : w_x_power.all goodWord = true := nb_allc (by decide +kernel) (nb_all2 p_x_GE_good fM_good)
theorem in_x_power : ∀ w ∈ wsX120, w ∈ w_x_power := fun _ h => List.mem_cons_of_mem _ (List.mem_append_right _ h)
theorem hd_x_power : yX12_power.cls = RX12 ∧ yX12_power.cls ≠ "java/lang/invoke/MethodHandle" ∧ yX12_power.cls ≠ "java/lang/invoke/VarHandle" ∧ (parseMethodDescriptor yX12_power.desc).map (fun d => d.parameters.length) = some 0 := by decide +kernel
def w_x_prefix : List Cond := .code yX12_prefix cX12_prefix 3 (some .int) :: (p_x_GE ++ fM)
theorem w_x_prefix_good : w_x_prefix.all goodWord = true := nb_allc (by decide +kernel) (nb_all2 p_x_GE_good fM_good)
theorem in_x_prefix : ∀ w ∈ wsX120, w ∈ w_x_prefix := fun _ h => List.mem_cons_of_mem _ (List.mem_append_right _ h)
theorem hd_x_prefix : yX12_prefix.cls = RX12 ∧ yX12_prefix.cls ≠ "java/lang/invoke/MethodHandle" ∧ yX12_prefix.cls ≠ "java/lang/invoke/VarHandle" ∧ (parseMethodDescriptor yX12_prefix.desc).map (fun d => d.parameters.length) = some 0 := by decide +kernel
def w_x_primary : List Cond := .code yX12_primary cX12_primary 3 (some .int) :: (p_x_GE ++ fM)
theorem w_x_primary_good : w_x_primary.all goodWord = true := nb_allc (by decide +kernel) (nb_all2 p_x_GE_good fM_good)
theorem in_x_primary : ∀ w ∈ wsX120, w ∈ w_x_primary := fun _ h => List.mem_cons_of_mem _ (List.mem_append_right _ h)
theorem hd_x_primary : yX12_primary.cls = RX12 ∧ yX12_primary.cls ≠ "java/lang/invoke/MethodHandle" ∧ yX12_primary.cls ≠ "java/lang/invoke/VarHandle" ∧ (parseMethodDescriptor yX12_primary.desc).map (fun d => d.parameters.length) = some 0 := by decide +kernel
def w_x_quantified : List Cond := .code yX12_quantified cX12_quantified 5 (some .int) :: (p_x_GE ++ fM)
theorem w_x_quantified_good : w_x_quantified.all goodWord = true := nb_allc (by decide +kernel) (nb_all2 p_x_GE_good fM_good)
theorem in_x_quantified : ∀ w ∈ wsX120, w ∈ w_x_quantified := fun _ h => List.mem_cons_of_mem _ (List.mem_append_right _ h)
theorem hd_x_quantified : yX12_quantified.cls = RX12 ∧ yX12_quantified.cls ≠ "java/lang/invoke/MethodHandle" ∧ yX12_quantified.cls ≠ "java/lang/invoke/VarHandle" ∧ (parseMethodDescriptor yX12_quantified.desc).map (fun d => d.parameters.length) = some 1 := by decide +kernel
def w_x_relation : List Cond := .code yX12_relation cX12_relation 3 (some .int) :: (p_x_GE ++ fM)
theorem w_x_relation_good : w_x_relation.all goodWord = true := nb_allc (by decide +kernel) (nb_all2 p_x_GE_good fM_good)
theorem in_x_relation : ∀ w ∈ wsX120, w ∈ w_x_relation := fun _ h => List.mem_cons_of_mem _ (List.mem_append_right _ h)
theorem hd_x_relation : yX12_relation.cls = RX12 ∧ yX12_relation.cls ≠ "java/lang/invoke/MethodHandle" ∧ yX12_relation.cls ≠ "java/lang/invoke/VarHandle" ∧ (parseMethodDescriptor yX12_relation.desc).map (fun d => d.parameters.length) = some 0 := by decide +kernel
def w_x_sum : List Cond := .code yX12_sum cX12_sum 3 (some .int) :: (p_x_GE ++ fM)
theorem w_x_sum_good : w_x_sum.all goodWord = true := nb_allc (by decide +kernel) (nb_all2 p_x_GE_good fM_good)
theorem in_x_sum : ∀ w ∈ wsX120, w ∈ w_x_sum := fun _ h => List.mem_cons_of_mem _ (List.mem_append_right _ h)
theorem hd_x_sum : yX12_sum.cls = RX12 ∧ yX12_sum.cls ≠ "java/lang/invoke/MethodHandle" ∧ yX12_sum.cls ≠ "java/lang/invoke/VarHandle" ∧ (parseMethodDescriptor yX12_sum.desc).map (fun d => d.parameters.length) = some 0 := by decide +kernel
def w_x_term : List Cond := .code yX12_term cX12_term 3 (some .int) :: (p_x_GE ++ fM)
theorem w_x_term_good : w_x_term.all goodWord = true := nb_allc (by decide +kernel) (nb_all2 p_x_GE_good fM_good)
theorem in_x_term : ∀ w ∈ wsX120, w ∈ w_x_term := fun _ h => List.mem_cons_of_mem _ (List.mem_append_right _ h)
theorem hd_x_term : yX12_term.cls = RX12 ∧ yX12_term.cls ≠ "java/lang/invoke/MethodHandle" ∧ yX12_term.cls ≠ "java/lang/invoke/VarHandle" ∧ (parseMethodDescriptor yX12_term.desc).map (fun d => d.parameters.length) = some 0 := by decide +kernel
def w_x_wordly : List Cond := .code yX12_wordly cX12_wordly 4 (some .int) :: (p_x_GE ++ fM)
theorem w_x_wordly_good : w_x_wordly.all goodWord = true := nb_allc (by decide +kernel) (nb_all2 p_x_GE_good fM_good)
theorem in_x_wordly : ∀ w ∈ wsX120, w ∈ w_x_wordly := fun _ h => List.mem_cons_of_mem _ (List.mem_append_right _ h)
theorem hd_x_wordly : yX12_wordly.cls = RX12 ∧ yX12_wordly.cls ≠ "java/lang/invoke/MethodHandle" ∧ yX12_wordly.cls ≠ "java/lang/invoke/VarHandle" ∧ (parseMethodDescriptor yX12_wordly.desc).map (fun d => d.parameters.length) = some 0 := by decide +kernel
abbrev P_GE (l : Launch) (dC : Nat → ClassId) (dI : Nat → Nat → Nat) (cy : Nat → ClassId) (a : Nat → Nat) (k0 : Nat) : Prop := (∀ (d : Nat) (L0 : Nat → Int32) (σ0 : MS) (r0 : Int32 × MS), x_GE k0 d 0 0 L0 σ0 = some r0 → ∀ (sz : Nat), Met l yX12_brackets w_x_brackets ({ frames := 5 + d, cells := 0, slots := 0, locals := 113 + 31 * d }) (va_Pc [.ref (a 0)] (nIn (dC, dI) cy sz (vM cy a σ0))) (va_Qi (fun (z : Int32) (_ : Unit) => z = r0.1) (fun _ t => nOut (dC, dI) cy (va_A (vM cy a σ0) sz) (vM cy a r0.2) t) (va_A (vM cy a σ0) sz)) 0 0 (va_A (vM cy a σ0) sz)) ∧ (∀ (d : Nat) (L0 : Nat → Int32) (σ0 : MS) (r0 : Int32 × MS), x_GE k0 d 1 0 L0 σ0 = some r0 → ∀ (sz : Nat), Met l yX12_choice w_x_choice ({ frames := 5 + d, cells := 0, slots := 0, locals := 113 + 31 * d }) (va_Pc [.ref (a 0)] (nIn (dC, dI) cy sz (vM cy a σ0))) (va_Qi (fun (z : Int32) (_ : Unit) => z = r0.1) (fun _ t => nOut (dC, dI) cy (va_A (vM cy a σ0) sz) (vM cy a r0.2) t) (va_A (vM cy a σ0) sz)) 0 0 (va_A (vM cy a σ0) sz)) ∧ (∀ (d : Nat) (L0 : Nat → Int32) (σ0 : MS) (r0 : Int32 × MS), x_GE k0 d 2 0 L0 σ0 = some r0 → ∀ (sz : Nat), Met l yX12_conjunction w_x_conjunction ({ frames := 5 + d, cells := 0, slots := 0, locals := 113 + 31 * d }) (va_Pc [.ref (a 0)] (nIn (dC, dI) cy sz (vM cy a σ0))) (va_Qi (fun (z : Int32) (_ : Unit) => z = r0.1) (fun _ t => nOut (dC, dI) cy (va_A (vM cy a σ0) sz) (vM cy a r0.2) t) (va_A (vM cy a σ0) sz)) 0 0 (va_A (vM cy a σ0) sz)) ∧ (∀ (d : Nat) (L0 : Nat → Int32) (σ0 : MS) (r0 : Int32 × MS), x_GE k0 d 3 0 L0 σ0 = some r0 → ∀ (sz : Nat), Met l yX12_exp w_x_exp ({ frames := 5 + d, cells := 0, slots := 0, locals := 113 + 31 * d }) (va_Pc [.ref (a 0)] (nIn (dC, dI) cy sz (vM cy a σ0))) (va_Qi (fun (z : Int32) (_ : Unit) => z = r0.1) (fun _ t => nOut (dC, dI) cy (va_A (vM cy a σ0) sz) (vM cy a r0.2) t) (va_A (vM cy a σ0) sz)) 0 0 (va_A (vM cy a σ0) sz)) ∧ (∀ (d : Nat) (L0 : Nat → Int32) (σ0 : MS) (r0 : Int32 × MS), x_GE k0 d 4 0 L0 σ0 = some r0 → ∀ (sz : Nat), Met l yX12_iters w_x_iters ({ frames := 5 + d, cells := 0, slots := 0, locals := 113 + 31 * d }) (va_Pc [.ref (a 0), .int (L0 1)] (nIn (dC, dI) cy sz (vM cy a σ0))) (va_Qi (fun (z : Int32) (_ : Unit) => z = r0.1) (fun _ t => nOut (dC, dI) cy (va_A (vM cy a σ0) sz) (vM cy a r0.2) t) (va_A (vM cy a σ0) sz)) 0 0 (va_A (vM cy a σ0) sz)) ∧ (∀ (d : Nat) (L0 : Nat → Int32) (σ0 : MS) (r0 : Int32 × MS), x_GE k0 d 5 0 L0 σ0 = some r0 → ∀ (sz : Nat), Met l yX12_listed w_x_listed ({ frames := 5 + d, cells := 0, slots := 0, locals := 113 + 31 * d }) (va_Pc [.ref (a 0), .int (L0 1)] (nIn (dC, dI) cy sz (vM cy a σ0))) (va_Qi (fun (z : Int32) (_ : Unit) => z = r0.1) (fun _ t => nOut (dC, dI) cy (va_A (vM cy a σ0) sz) (vM cy a r0.2) t) (va_A (vM cy a σ0) sz)) 0 0 (va_A (vM cy a σ0) sz)) ∧ (∀ (d : Nat) (L0 : Nat → Int32) (σ0 : MS) (r0 : Int32 × MS), x_GE k0 d 6 0 L0 σ0 = some r0 → ∀ (sz : Nat), Met l yX12_name w_x_name ({ frames := 5 + d, cells := 0, slots := 0, locals := 113 + 31 * d }) (va_Pc [.ref (a 0)] (nIn (dC, dI) cy sz (vM cy a σ0))) (va_Qi (fun (z : Int32) (_ : Unit) => z = r0.1) (fun _ t => nOut (dC, dI) cy (va_A (vM cy a σ0) sz) (vM cy a r0.2) t) (va_A (vM cy a σ0) sz)) 0 0 (va_A (vM cy a σ0) sz)) ∧ (∀ (d : Nat) (L0 : Nat → Int32) (σ0 : MS) (r0 : Int32 × MS), x_GE k0 d 7 0 L0 σ0 = some r0 → ∀ (sz : Nat), Met l yX12_negation w_x_negation ({ frames := 5 + d, cells := 0, slots := 0, locals := 113 + 31 * d }) (va_Pc [.ref (a 0)] (nIn (dC, dI) cy sz (vM cy a σ0))) (va_Qi (fun (z : Int32) (_ : Unit) => z = r0.1) (fun _ t => nOut (dC, dI) cy (va_A (vM cy a σ0) sz) (vM cy a r0.2) t) (va_A (vM cy a σ0) sz)) 0 0 (va_A (vM cy a σ0) sz)) ∧ (∀ (d : Nat) (L0 : Nat → Int32) (σ0 : MS) (r0 : Int32 × MS), x_GE k0 d 8 0 L0 σ0 = some r0 → ∀ (sz : Nat), Met l yX12_parts w_x_parts ({ frames := 5 + d, cells := 0, slots := 0, locals := 113 + 31 * d }) (va_Pc [.ref (a 0), .int (L0 1)] (nIn (dC, dI) cy sz (vM cy a σ0))) (va_Qi (fun (z : Int32) (_ : Unit) => z = r0.1) (fun _ t => nOut (dC, dI) cy (va_A (vM cy a σ0) sz) (vM cy a r0.2) t) (va_A (vM cy a σ0) sz)) 0 0 (va_A (vM cy a σ0) sz)) ∧ (∀ (d : Nat) (L0 : Nat → Int32) (σ0 : MS) (r0 : Int32 × MS), x_GE k0 d 9 0 L0 σ0 = some r0 → ∀ (sz : Nat), Met l yX12_power w_x_power ({ frames := 5 + d, cells := 0, slots := 0, locals := 113 + 31 * d }) (va_Pc [.ref (a 0)] (nIn (dC, dI) cy sz (vM cy a σ0))) (va_Qi (fun (z : Int32) (_ : Unit) => z = r0.1) (fun _ t => nOut (dC, dI) cy (va_A (vM cy a σ0) sz) (vM cy a r0.2) t) (va_A (vM cy a σ0) sz)) 0 0 (va_A (vM cy a σ0) sz)) ∧ (∀ (d : Nat) (L0 : Nat → Int32) (σ0 : MS) (r0 : Int32 × MS), x_GE k0 d 10 0 L0 σ0 = some r0 → ∀ (sz : Nat), Met l yX12_prefix w_x_prefix ({ frames := 5 + d, cells := 0, slots := 0, locals := 113 + 31 * d }) (va_Pc [.ref (a 0)] (nIn (dC, dI) cy sz (vM cy a σ0))) (va_Qi (fun (z : Int32) (_ : Unit) => z = r0.1) (fun _ t => nOut (dC, dI) cy (va_A (vM cy a σ0) sz) (vM cy a r0.2) t) (va_A (vM cy a σ0) sz)) 0 0 (va_A (vM cy a σ0) sz)) ∧ (∀ (d : Nat) (L0 : Nat → Int32) (σ0 : MS) (r0 : Int32 × MS), x_GE k0 d 11 0 L0 σ0 = some r0 → ∀ (sz : Nat), Met l yX12_primary w_x_primary ({ frames := 5 + d, cells := 0, slots := 0, locals := 113 + 31 * d }) (va_Pc [.ref (a 0)] (nIn (dC, dI) cy sz (vM cy a σ0))) (va_Qi (fun (z : Int32) (_ : Unit) => z = r0.1) (fun _ t => nOut (dC, dI) cy (va_A (vM cy a σ0) sz) (vM cy a r0.2) t) (va_A (vM cy a σ0) sz)) 0 0 (va_A (vM cy a σ0) sz)) ∧ (∀ (d : Nat) (L0 : Nat → Int32) (σ0 : MS) (r0 : Int32 × MS), x_GE k0 d 12 0 L0 σ0 = some r0 → ∀ (sz : Nat), Met l yX12_quantified w_x_quantified ({ frames := 5 + d, cells := 0, slots := 0, locals := 113 + 31 * d }) (va_Pc [.ref (a 0), .int (L0 1)] (nIn (dC, dI) cy sz (vM cy a σ0))) (va_Qi (fun (z : Int32) (_ : Unit) => z = r0.1) (fun _ t => nOut (dC, dI) cy (va_A (vM cy a σ0) sz) (vM cy a r0.2) t) (va_A (vM cy a σ0) sz)) 0 0 (va_A (vM cy a σ0) sz)) ∧ (∀ (d : Nat) (L0 : Nat → Int32) (σ0 : MS) (r0 : Int32 × MS), x_GE k0 d 13 0 L0 σ0 = some r0 → ∀ (sz : Nat), Met l yX12_relation w_x_relation ({ frames := 5 + d, cells := 0, slots := 0, locals := 113 + 31 * d }) (va_Pc [.ref (a 0)] (nIn (dC, dI) cy sz (vM cy a σ0))) (va_Qi (fun (z : Int32) (_ : Unit) => z = r0.1) (fun _ t => nOut (dC, dI) cy (va_A (vM cy a σ0) sz) (vM cy a r0.2) t) (va_A (vM cy a σ0) sz)) 0 0 (va_A (vM cy a σ0) sz)) ∧ (∀ (d : Nat) (L0 : Nat → Int32) (σ0 : MS) (r0 : Int32 × MS), x_GE k0 d 14 0 L0 σ0 = some r0 → ∀ (sz : Nat), Met l yX12_sum w_x_sum ({ frames := 5 + d, cells := 0, slots := 0, locals := 113 + 31 * d }) (va_Pc [.ref (a 0)] (nIn (dC, dI) cy sz (vM cy a σ0))) (va_Qi (fun (z : Int32) (_ : Unit) => z = r0.1) (fun _ t => nOut (dC, dI) cy (va_A (vM cy a σ0) sz) (vM cy a r0.2) t) (va_A (vM cy a σ0) sz)) 0 0 (va_A (vM cy a σ0) sz)) ∧ (∀ (d : Nat) (L0 : Nat → Int32) (σ0 : MS) (r0 : Int32 × MS), x_GE k0 d 15 0 L0 σ0 = some r0 → ∀ (sz : Nat), Met l yX12_term w_x_term ({ frames := 5 + d, cells := 0, slots := 0, locals := 113 + 31 * d }) (va_Pc [.ref (a 0)] (nIn (dC, dI) cy sz (vM cy a σ0))) (va_Qi (fun (z : Int32) (_ : Unit) => z = r0.1) (fun _ t => nOut (dC, dI) cy (va_A (vM cy a σ0) sz) (vM cy a r0.2) t) (va_A (vM cy a σ0) sz)) 0 0 (va_A (vM cy a σ0) sz)) ∧ (∀ (d : Nat) (L0 : Nat → Int32) (σ0 : MS) (r0 : Int32 × MS), x_GE k0 d 16 0 L0 σ0 = some r0 → ∀ (sz : Nat), Met l yX12_wordly w_x_wordly ({ frames := 5 + d, cells := 0, slots := 0, locals := 113 + 31 * d }) (va_Pc [.ref (a 0)] (nIn (dC, dI) cy sz (vM cy a σ0))) (va_Qi (fun (z : Int32) (_ : Unit) => z = r0.1) (fun _ t => nOut (dC, dI) cy (va_A (vM cy a σ0) sz) (vM cy a r0.2) t) (va_A (vM cy a σ0) sz)) 0 0 (va_A (vM cy a σ0) sz))

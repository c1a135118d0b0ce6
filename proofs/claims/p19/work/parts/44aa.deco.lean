
/-! byteAt -/
def x_byteAt : Nat → Nat → (Nat → Int32) → MS → Option (Int32 × MS)
  | 0, _, _, _ => none
  | k + 1, 0, L, σ => if ((σ.1 4)) ≤ ((L 1)) then (x_byteAt k 1 L σ) else (if ¬ (((L 1)) < 0 ∨ 32768 ≤ ((L 1)).toNatClampNeg) then (x_byteAt k 2 (upd L 100 ((σ.2.2 3 ((L 1)).toNatClampNeg))) σ) else none)
  | k + 1, 1, L, σ => x_byteAt k 2 (upd L 100 0) σ
  | k + 1, 2, L, σ => some ((L 100), σ)
  | _ + 1, _ + 3, _, _ => none
def o_x_byteAt : List Cond := [.fieldLink RX12 1 "SetHouseModel" "taped" "I", .fieldLink RX12 7 "SetHouseModel" "tape" "[I"]
theorem o_x_byteAt_good : o_x_byteAt.all goodWord = true := by decide +kernel
def p_x_byteAt : List Cond := o_x_byteAt ++ []
theorem p_x_byteAt_good : p_x_byteAt.all goodWord = true := nb_all2 o_x_byteAt_good rfl
def w_x_byteAt : List Cond := .code yX12_byteAt cX12_byteAt 2 (some .int) :: (p_x_byteAt ++ fM)
theorem w_x_byteAt_good : w_x_byteAt.all goodWord = true := nb_allc (by decide +kernel) (nb_all2 p_x_byteAt_good fM_good)
theorem in_x_byteAt : ∀ w ∈ wsX120, w ∈ w_x_byteAt := fun _ h => List.mem_cons_of_mem _ (List.mem_append_right _ h)
theorem hd_x_byteAt : yX12_byteAt.cls = RX12 ∧ yX12_byteAt.cls ≠ "java/lang/invoke/MethodHandle" ∧ yX12_byteAt.cls ≠ "java/lang/invoke/VarHandle" ∧ (parseMethodDescriptor yX12_byteAt.desc).map (fun d => d.parameters.length) = some 1 := by decide +kernel
set_option maxHeartbeats 40000000 in
set_option maxRecDepth 100000 in
theorem c_x_byteAt (l : Launch) (dC : Nat → ClassId) (dI : Nat → Nat → Nat) (cy : Nat → ClassId) (a : Nat → Nat) (k0 : Nat) (L0 : Nat → Int32) (σ0 : MS) (r0 : Int32 × MS) (h0 : x_byteAt k0 0 L0 σ0 = some r0) (sz : Nat) : Met l yX12_byteAt w_x_byteAt ({ frames := 0, cells := 0, slots := 0, locals := 0 }) (va_Pc [.ref (a 0), .int (L0 1)] (nIn (dC, dI) cy sz (vM cy a σ0))) (va_Qi (fun (z : Int32) (_ : Unit) => z = r0.1) (fun _ t => nOut (dC, dI) cy (va_A (vM cy a σ0) sz) (vM cy a r0.2) t) (va_A (vM cy a σ0) sz)) 0 0 (va_A (vM cy a σ0) sz) := by
  refine Met.ofW (cc := cX12_byteAt) (maxL := 2) (ret := (some .int)) (by decide) rfl ?_
  intro p e s m args below meth c s₁ B hml hv
  obtain ⟨rfl, hsz, hP, hK, hD0, hG⟩ := hv
  have hx := B.exec
  have hb := B.bytes
  have hr := B.returns
  have hts := atoms_spec (ws := w_x_byteAt) B.pre
  have hown : s.vm.findClass RX12 = some m.cls := findClass_of_methodNamed B.named
  have hlocks := B.notSynchronized
  subst hsz
  have hD := hD0.self (sz := s.heap.size)
  generalize hAe : va_A (vM cy a σ0) s.heap.size = A at hD ⊢
  have hA : ∀ q : Nat, s.heap.size ≤ q → A q := fun q h => by rw [← hAe]; exact Or.inr h
  have hS : va_S A s.heap s.heap [] := va_S.rf
  have hl := lv_entry ([.ref (a 0), .int (L0 1)]) (n := 2) (Nat.le_of_ble_eq_true rfl)
  rw [lg_entry_eq]
  generalize (lg_sl ([.ref (a 0), .int (L0 1)]) ++ List.replicate (2 - (lg_sl ([.ref (a 0), .int (L0 1)])).length) Slot.unset).toArray = ls at hl ⊢
  have hl : lv_has ls 2 [(0, .ref (a 0)), (1, .int (L0 1))] := hl
  have blk : ∀ k : Nat, (bT p l e (headSpec w_x_byteAt ({ frames := 0, cells := 0, slots := 0, locals := 0 })).room s m #[.ref (a 0), .int (L0 1)] below meth c dC dI cy a A (qI dC dI cy a A below #[.ref (a 0), .int (L0 1)] s) 2 (x_byteAt k 0) (fun L => [(0, .ref (a 0)), (1, .int (L 1))]) 0 (fun L => [])) ∧ (bT p l e (headSpec w_x_byteAt ({ frames := 0, cells := 0, slots := 0, locals := 0 })).room s m #[.ref (a 0), .int (L0 1)] below meth c dC dI cy a A (qI dC dI cy a A below #[.ref (a 0), .int (L0 1)] s) 2 (x_byteAt k 1) (fun L => [(0, .ref (a 0)), (1, .int (L 1))]) 17 (fun L => [])) ∧ (bT p l e (headSpec w_x_byteAt ({ frames := 0, cells := 0, slots := 0, locals := 0 })).room s m #[.ref (a 0), .int (L0 1)] below meth c dC dI cy a A (qI dC dI cy a A below #[.ref (a 0), .int (L0 1)] s) 2 (x_byteAt k 2) (fun L => [(0, .ref (a 0)), (1, .int (L 1))]) 18 (fun L => [.int (L 100)])) := by
    intro k
    induction k with
    | zero => exact ⟨fun L σ r h => (by cases h), fun L σ r h => (by cases h), fun L σ r h => (by cases h)⟩
    | succ k ih =>
      refine ⟨?_, ?_, ?_⟩
      · intro L σ r h H locs ls hP hD hS hl
        rw [x_byteAt] at h
        refine lv_iload_n hx hb dX12_byteAt_0 rfl (lv_at hl 1 rfl) ?_
        refine lv_aload_n hx hb dX12_byteAt_1 rfl (lv_at hl 0 rfl) ?_
        refine ng_4 hx hb hts in_x_byteAt hown hK hP (hts _ (List.mem_cons_of_mem _ (List.mem_append_left _ (List.mem_append_left _ (List.mem_of_getElem? (i := 0) rfl))))) dX12_byteAt_2 ?_
        refine lv_icmp_ge (tgt := 17) hx hb dX12_byteAt_5 (by decide) (fun c1 => ?_) (fun c1 => ?_)
        · rw [if_pos c1] at h
          exact ih.2.1 L σ r h H locs ls hP hD hS (lv_sub hl [0, 1] rfl)
        · rw [if_neg c1] at h
          refine lv_aload_n hx hb dX12_byteAt_8 rfl (lv_at hl 0 rfl) ?_
          refine ng_3 hx hb hts in_x_byteAt hown hK hP (hts _ (List.mem_cons_of_mem _ (List.mem_append_left _ (List.mem_append_left _ (List.mem_of_getElem? (i := 1) rfl))))) dX12_byteAt_9 ?_
          refine lv_iload_n hx hb dX12_byteAt_12 rfl (lv_at hl 1 rfl) ?_
          obtain ⟨q2, h⟩ := nb_ite1 h
          refine nl_3 hx hb hK hP q2 dX12_byteAt_13 ?_
          refine lv_goto (tgt := 18) hx hb dX12_byteAt_14 (by decide) ?_
          exact ih.2.2 (upd L 100 ((σ.2.2 3 ((L 1)).toNatClampNeg))) σ r h H locs ls hP hD hS (lv_sub hl [0, 1] rfl)
      · intro L σ r h H locs ls hP hD hS hl
        rw [x_byteAt] at h
        refine lv_iconst (v := 0) hx hb dX12_byteAt_17 (by decide) ?_
        exact ih.2.2 (upd L 100 0) σ r h H locs ls hP hD hS (lv_sub hl [0, 1] rfl)
      · intro L σ r h H locs ls hP hD hS hl
        rw [x_byteAt] at h
        cases h
        exact W.iret (v := (L 100)) hx hb hr (fun t ht hW => ⟨⟨(L 100), (), rfl, rfl, by rw [ht]; exact hP, va_K.moved hW.alike hK, hD⟩, hS.F ht⟩) hS.2.2 dX12_byteAt_18
  exact (blk k0).1 L0 σ0 r0 h0 s.heap [] ls hP hD hS hl
/-! isLetter -/
def x_isLetter : Nat → Nat → (Nat → Int32) → MS → Option (Int32 × MS)
  | 0, _, _, _ => none
  | k + 1, 0, L, σ => if ((L 0)) < 65 then (x_isLetter k 1 L σ) else (if ((L 0)) ≤ 90 then (x_isLetter k 2 L σ) else (x_isLetter k 1 L σ))
  | k + 1, 1, L, σ => if ((L 0)) < 97 then (x_isLetter k 3 L σ) else (if 122 < ((L 0)) then (x_isLetter k 3 L σ) else (x_isLetter k 2 L σ))
  | k + 1, 2, L, σ => x_isLetter k 4 (upd L 100 1) σ
  | k + 1, 3, L, σ => x_isLetter k 4 (upd L 100 0) σ
  | k + 1, 4, L, σ => if ((L 100)) = 0 ∨ ((L 100)) = 1 then some ((L 100), σ) else none
  | _ + 1, _ + 5, _, _ => none
def o_x_isLetter : List Cond := []
theorem o_x_isLetter_good : o_x_isLetter.all goodWord = true := by decide +kernel
def p_x_isLetter : List Cond := o_x_isLetter ++ []
theorem p_x_isLetter_good : p_x_isLetter.all goodWord = true := nb_all2 o_x_isLetter_good rfl
def w_x_isLetter : List Cond := .code yX12_isLetter cX12_isLetter 1 (some .boolean) :: (p_x_isLetter ++ fM)
theorem w_x_isLetter_good : w_x_isLetter.all goodWord = true := nb_allc (by decide +kernel) (nb_all2 p_x_isLetter_good fM_good)
theorem in_x_isLetter : ∀ w ∈ wsX120, w ∈ w_x_isLetter := fun _ h => List.mem_cons_of_mem _ (List.mem_append_right _ h)
theorem hd_x_isLetter : yX12_isLetter.cls ≠ "java/lang/invoke/MethodHandle" ∧ yX12_isLetter.cls ≠ "java/lang/invoke/VarHandle" ∧ (parseMethodDescriptor yX12_isLetter.desc).map (fun d => d.parameters.length) = some 1 := by decide +kernel
set_option maxHeartbeats 40000000 in
set_option maxRecDepth 100000 in
theorem c_x_isLetter (l : Launch) (dC : Nat → ClassId) (dI : Nat → Nat → Nat) (cy : Nat → ClassId) (a : Nat → Nat) (k0 : Nat) (L0 : Nat → Int32) (σ0 : MS) (r0 : Int32 × MS) (h0 : x_isLetter k0 0 L0 σ0 = some r0) (sz : Nat) : Met l yX12_isLetter w_x_isLetter ({ frames := 0, cells := 0, slots := 0, locals := 0 }) (va_Pc [.int (L0 0)] (nIn (dC, dI) cy sz (vM cy a σ0))) (va_Qi (fun (z : Int32) (_ : Unit) => z = r0.1) (fun _ t => nOut (dC, dI) cy (va_A (vM cy a σ0) sz) (vM cy a r0.2) t) (va_A (vM cy a σ0) sz)) 0 0 (va_A (vM cy a σ0) sz) := by
  refine Met.ofW (cc := cX12_isLetter) (maxL := 1) (ret := (some .boolean)) (by decide) rfl ?_
  intro p e s m args below meth c s₁ B hml hv
  obtain ⟨rfl, hsz, hP, hK, hD0, hG⟩ := hv
  have hx := B.exec
  have hb := B.bytes
  have hr := B.returns
  have hts := atoms_spec (ws := w_x_isLetter) B.pre
  have hown : s.vm.findClass RX12 = some m.cls := findClass_of_methodNamed B.named
  have hlocks := B.notSynchronized
  subst hsz
  have hD := hD0.self (sz := s.heap.size)
  generalize hAe : va_A (vM cy a σ0) s.heap.size = A at hD ⊢
  have hA : ∀ q : Nat, s.heap.size ≤ q → A q := fun q h => by rw [← hAe]; exact Or.inr h
  have hS : va_S A s.heap s.heap [] := va_S.rf
  have hl := lv_entry ([.int (L0 0)]) (n := 1) (Nat.le_of_ble_eq_true rfl)
  rw [lg_entry_eq]
  generalize (lg_sl ([.int (L0 0)]) ++ List.replicate (1 - (lg_sl ([.int (L0 0)])).length) Slot.unset).toArray = ls at hl ⊢
  have hl : lv_has ls 1 [(0, .int (L0 0))] := hl
  have blk : ∀ k : Nat, (bT p l e (headSpec w_x_isLetter ({ frames := 0, cells := 0, slots := 0, locals := 0 })).room s m #[.int (L0 0)] below meth c dC dI cy a A (qI dC dI cy a A below #[.int (L0 0)] s) 1 (x_isLetter k 0) (fun L => [(0, .int (L 0))]) 0 (fun L => [])) ∧ (bT p l e (headSpec w_x_isLetter ({ frames := 0, cells := 0, slots := 0, locals := 0 })).room s m #[.int (L0 0)] below meth c dC dI cy a A (qI dC dI cy a A below #[.int (L0 0)] s) 1 (x_isLetter k 1) (fun L => [(0, .int (L 0))]) 12 (fun L => [])) ∧ (bT p l e (headSpec w_x_isLetter ({ frames := 0, cells := 0, slots := 0, locals := 0 })).room s m #[.int (L0 0)] below meth c dC dI cy a A (qI dC dI cy a A below #[.int (L0 0)] s) 1 (x_isLetter k 2) (fun L => [(0, .int (L 0))]) 24 (fun L => [])) ∧ (bT p l e (headSpec w_x_isLetter ({ frames := 0, cells := 0, slots := 0, locals := 0 })).room s m #[.int (L0 0)] below meth c dC dI cy a A (qI dC dI cy a A below #[.int (L0 0)] s) 1 (x_isLetter k 3) (fun L => [(0, .int (L 0))]) 28 (fun L => [])) ∧ (bT p l e (headSpec w_x_isLetter ({ frames := 0, cells := 0, slots := 0, locals := 0 })).room s m #[.int (L0 0)] below meth c dC dI cy a A (qI dC dI cy a A below #[.int (L0 0)] s) 1 (x_isLetter k 4) (fun L => [(0, .int (L 0))]) 29 (fun L => [.int (L 100)])) := by
    intro k
    induction k with
    | zero => exact ⟨fun L σ r h => (by cases h), fun L σ r h => (by cases h), fun L σ r h => (by cases h), fun L σ r h => (by cases h), fun L σ r h => (by cases h)⟩
    | succ k ih =>
      refine ⟨?_, ?_, ?_, ?_, ?_⟩
      · intro L σ r h H locs ls hP hD hS hl
        rw [x_isLetter] at h
        refine lv_iload_n hx hb dX12_isLetter_0 rfl (lv_at hl 0 rfl) ?_
        refine lv_bipush (v := 65) hx hb dX12_isLetter_1 (by decide) ?_
        refine lv_icmp_lt (tgt := 12) hx hb dX12_isLetter_3 (by decide) (fun c1 => ?_) (fun c1 => ?_)
        · rw [if_pos c1] at h
          exact ih.2.1 L σ r h H locs ls hP hD hS (lv_sub hl [0] rfl)
        · rw [if_neg c1] at h
          refine lv_iload_n hx hb dX12_isLetter_6 rfl (lv_at hl 0 rfl) ?_
          refine lv_bipush (v := 90) hx hb dX12_isLetter_7 (by decide) ?_
          refine lv_icmp_le (tgt := 24) hx hb dX12_isLetter_9 (by decide) (fun c2 => ?_) (fun c2 => ?_)
          · rw [if_pos c2] at h
            exact ih.2.2.1 L σ r h H locs ls hP hD hS (lv_sub hl [0] rfl)
          · rw [if_neg c2] at h
            exact ih.2.1 L σ r h H locs ls hP hD hS (lv_sub hl [0] rfl)
      · intro L σ r h H locs ls hP hD hS hl
        rw [x_isLetter] at h
        refine lv_iload_n hx hb dX12_isLetter_12 rfl (lv_at hl 0 rfl) ?_
        refine lv_bipush (v := 97) hx hb dX12_isLetter_13 (by decide) ?_
        refine lv_icmp_lt (tgt := 28) hx hb dX12_isLetter_15 (by decide) (fun c1 => ?_) (fun c1 => ?_)
        · rw [if_pos c1] at h
          exact ih.2.2.2.1 L σ r h H locs ls hP hD hS (lv_sub hl [0] rfl)
        · rw [if_neg c1] at h
          refine lv_iload_n hx hb dX12_isLetter_18 rfl (lv_at hl 0 rfl) ?_
          refine lv_bipush (v := 122) hx hb dX12_isLetter_19 (by decide) ?_
          refine lv_icmp_gt (tgt := 28) hx hb dX12_isLetter_21 (by decide) (fun c2 => ?_) (fun c2 => ?_)
          · rw [if_pos c2] at h
            exact ih.2.2.2.1 L σ r h H locs ls hP hD hS (lv_sub hl [0] rfl)
          · rw [if_neg c2] at h
            exact ih.2.2.1 L σ r h H locs ls hP hD hS (lv_sub hl [0] rfl)
      · intro L σ r h H locs ls hP hD hS hl
        rw [x_isLetter] at h
        refine lv_iconst (v := 1) hx hb dX12_isLetter_24 (by decide) ?_
        refine lv_goto (tgt := 29) hx hb dX12_isLetter_25 (by decide) ?_
        exact ih.2.2.2.2 (upd L 100 1) σ r h H locs ls hP hD hS (lv_sub hl [0] rfl)
      · intro L σ r h H locs ls hP hD hS hl
        rw [x_isLetter] at h
        refine lv_iconst (v := 0) hx hb dX12_isLetter_28 (by decide) ?_
        exact ih.2.2.2.2 (upd L 100 0) σ r h H locs ls hP hD hS (lv_sub hl [0] rfl)
      · intro L σ r h H locs ls hP hD hS hl
        rw [x_isLetter] at h
        obtain ⟨q1, h⟩ := nb_ite1 h
        cases h
        exact W.zret (v := (L 100)) hx hb hr (nb_bz q1) (fun t ht hW => ⟨⟨(L 100), (), rfl, rfl, by rw [ht]; exact hP, va_K.moved hW.alike hK, hD⟩, hS.F ht⟩) hS.2.2 dX12_isLetter_29
  exact (blk k0).1 L0 σ0 r0 h0 s.heap [] ls hP hD hS hl
/-! isDigit -/
def x_isDigit : Nat → Nat → (Nat → Int32) → MS → Option (Int32 × MS)
  | 0, _, _, _ => none
  | k + 1, 0, L, σ => if ((L 0)) < 48 then (x_isDigit k 1 L σ) else (if 57 < ((L 0)) then (x_isDigit k 1 L σ) else (x_isDigit k 2 (upd L 100 1) σ))
  | k + 1, 1, L, σ => x_isDigit k 2 (upd L 100 0) σ
  | k + 1, 2, L, σ => if ((L 100)) = 0 ∨ ((L 100)) = 1 then some ((L 100), σ) else none
  | _ + 1, _ + 3, _, _ => none
def o_x_isDigit : List Cond := []
theorem o_x_isDigit_good : o_x_isDigit.all goodWord = true := by decide +kernel
def p_x_isDigit : List Cond := o_x_isDigit ++ []
theorem p_x_isDigit_good : p_x_isDigit.all goodWord = true := nb_all2 o_x_isDigit_good rfl
def w_x_isDigit : List Cond := .code yX12_isDigit cX12_isDigit 1 (some .boolean) :: (p_x_isDigit ++ fM)
theorem w_x_isDigit_good : w_x_isDigit.all goodWord = true := nb_allc (by decide +kernel) (nb_all2 p_x_isDigit_good fM_good)
theorem in_x_isDigit : ∀ w ∈ wsX120, w ∈ w_x_isDigit := fun _ h => List.mem_cons_of_mem _ (List.mem_append_right _ h)
theorem hd_x_isDigit : yX12_isDigit.cls ≠ "java/lang/invoke/MethodHandle" ∧ yX12_isDigit.cls ≠ "java/lang/invoke/VarHandle" ∧ (parseMethodDescriptor yX12_isDigit.desc).map (fun d => d.parameters.length) = some 1 := by decide +kernel
set_option maxHeartbeats 40000000 in
set_option maxRecDepth 100000 in
theorem c_x_isDigit (l : Launch) (dC : Nat → ClassId) (dI : Nat → Nat → Nat) (cy : Nat → ClassId) (a : Nat → Nat) (k0 : Nat) (L0 : Nat → Int32) (σ0 : MS) (r0 : Int32 × MS) (h0 : x_isDigit k0 0 L0 σ0 = some r0) (sz : Nat) : Met l yX12_isDigit w_x_isDigit ({ frames := 0, cells := 0, slots := 0, locals := 0 }) (va_Pc [.int (L0 0)] (nIn (dC, dI) cy sz (vM cy a σ0))) (va_Qi (fun (z : Int32) (_ : Unit) => z = r0.1) (fun _ t => nOut (dC, dI) cy (va_A (vM cy a σ0) sz) (vM cy a r0.2) t) (va_A (vM cy a σ0) sz)) 0 0 (va_A (vM cy a σ0) sz) := by
  refine Met.ofW (cc := cX12_isDigit) (maxL := 1) (ret := (some .boolean)) (by decide) rfl ?_
  intro p e s m args below meth c s₁ B hml hv
  obtain ⟨rfl, hsz, hP, hK, hD0, hG⟩ := hv
  have hx := B.exec
  have hb := B.bytes
  have hr := B.returns
  have hts := atoms_spec (ws := w_x_isDigit) B.pre
  have hown : s.vm.findClass RX12 = some m.cls := findClass_of_methodNamed B.named
  have hlocks := B.notSynchronized
  subst hsz
  have hD := hD0.self (sz := s.heap.size)
  generalize hAe : va_A (vM cy a σ0) s.heap.size = A at hD ⊢
  have hA : ∀ q : Nat, s.heap.size ≤ q → A q := fun q h => by rw [← hAe]; exact Or.inr h
  have hS : va_S A s.heap s.heap [] := va_S.rf
  have hl := lv_entry ([.int (L0 0)]) (n := 1) (Nat.le_of_ble_eq_true rfl)
  rw [lg_entry_eq]
  generalize (lg_sl ([.int (L0 0)]) ++ List.replicate (1 - (lg_sl ([.int (L0 0)])).length) Slot.unset).toArray = ls at hl ⊢
  have hl : lv_has ls 1 [(0, .int (L0 0))] := hl
  have blk : ∀ k : Nat, (bT p l e (headSpec w_x_isDigit ({ frames := 0, cells := 0, slots := 0, locals := 0 })).room s m #[.int (L0 0)] below meth c dC dI cy a A (qI dC dI cy a A below #[.int (L0 0)] s) 1 (x_isDigit k 0) (fun L => [(0, .int (L 0))]) 0 (fun L => [])) ∧ (bT p l e (headSpec w_x_isDigit ({ frames := 0, cells := 0, slots := 0, locals := 0 })).room s m #[.int (L0 0)] below meth c dC dI cy a A (qI dC dI cy a A below #[.int (L0 0)] s) 1 (x_isDigit k 1) (fun L => [(0, .int (L 0))]) 16 (fun L => [])) ∧ (bT p l e (headSpec w_x_isDigit ({ frames := 0, cells := 0, slots := 0, locals := 0 })).room s m #[.int (L0 0)] below meth c dC dI cy a A (qI dC dI cy a A below #[.int (L0 0)] s) 1 (x_isDigit k 2) (fun L => [(0, .int (L 0))]) 17 (fun L => [.int (L 100)])) := by
    intro k
    induction k with
    | zero => exact ⟨fun L σ r h => (by cases h), fun L σ r h => (by cases h), fun L σ r h => (by cases h)⟩
    | succ k ih =>
      refine ⟨?_, ?_, ?_⟩
      · intro L σ r h H locs ls hP hD hS hl
        rw [x_isDigit] at h
        refine lv_iload_n hx hb dX12_isDigit_0 rfl (lv_at hl 0 rfl) ?_
        refine lv_bipush (v := 48) hx hb dX12_isDigit_1 (by decide) ?_
        refine lv_icmp_lt (tgt := 16) hx hb dX12_isDigit_3 (by decide) (fun c1 => ?_) (fun c1 => ?_)
        · rw [if_pos c1] at h
          exact ih.2.1 L σ r h H locs ls hP hD hS (lv_sub hl [0] rfl)
        · rw [if_neg c1] at h
          refine lv_iload_n hx hb dX12_isDigit_6 rfl (lv_at hl 0 rfl) ?_
          refine lv_bipush (v := 57) hx hb dX12_isDigit_7 (by decide) ?_
          refine lv_icmp_gt (tgt := 16) hx hb dX12_isDigit_9 (by decide) (fun c2 => ?_) (fun c2 => ?_)
          · rw [if_pos c2] at h
            exact ih.2.1 L σ r h H locs ls hP hD hS (lv_sub hl [0] rfl)
          · rw [if_neg c2] at h
            refine lv_iconst (v := 1) hx hb dX12_isDigit_12 (by decide) ?_
            refine lv_goto (tgt := 17) hx hb dX12_isDigit_13 (by decide) ?_
            exact ih.2.2 (upd L 100 1) σ r h H locs ls hP hD hS (lv_sub hl [0] rfl)
      · intro L σ r h H locs ls hP hD hS hl
        rw [x_isDigit] at h
        refine lv_iconst (v := 0) hx hb dX12_isDigit_16 (by decide) ?_
        exact ih.2.2 (upd L 100 0) σ r h H locs ls hP hD hS (lv_sub hl [0] rfl)
      · intro L σ r h H locs ls hP hD hS hl
        rw [x_isDigit] at h
        obtain ⟨q1, h⟩ := nb_ite1 h
        cases h
        exact W.zret (v := (L 100)) hx hb hr (nb_bz q1) (fun t ht hW => ⟨⟨(L 100), (), rfl, rfl, by rw [ht]; exact hP, va_K.moved hW.alike hK, hD⟩, hS.F ht⟩) hS.2.2 dX12_isDigit_17
  exact (blk k0).1 L0 σ0 r0 h0 s.heap [] ls hP hD hS hl
/-! fault -/
def x_fault : Nat → Nat → (Nat → Int32) → MS → Option (Int32 × MS)
  | 0, _, _, _ => none
  | k + 1, 0, L, σ => if ((σ.1 10)) = 0 then (x_fault k 1 L (upd σ.1 10 1, σ.2.1, σ.2.2)) else (x_fault k 3 L σ)
  | k + 1, 1, L, σ => x_fault k 2 L (upd σ.1 11 ((L 1)), σ.2.1, σ.2.2)
  | k + 1, 2, L, σ => x_fault k 3 L (upd σ.1 12 ((L 2)), σ.2.1, σ.2.2)
  | k + 1, 3, L, σ => some (0, σ)
  | _ + 1, _ + 4, _, _ => none
def o_x_fault : List Cond := [.fieldLink RX12 11 "SetHouseModel" "bad" "Z", .fieldLink RX12 15 "SetHouseModel" "faultCode" "I", .fieldLink RX12 18 "SetHouseModel" "faultPlace" "I"]
theorem o_x_fault_good : o_x_fault.all goodWord = true := by decide +kernel
def p_x_fault : List Cond := o_x_fault ++ []
theorem p_x_fault_good : p_x_fault.all goodWord = true := nb_all2 o_x_fault_good rfl
def w_x_fault : List Cond := .code yX12_fault cX12_fault 3 none :: (p_x_fault ++ fM)
theorem w_x_fault_good : w_x_fault.all goodWord = true := nb_allc (by decide +kernel) (nb_all2 p_x_fault_good fM_good)
theorem in_x_fault : ∀ w ∈ wsX120, w ∈ w_x_fault := fun _ h => List.mem_cons_of_mem _ (List.mem_append_right _ h)
theorem hd_x_fault : yX12_fault.cls = RX12 ∧ yX12_fault.cls ≠ "java/lang/invoke/MethodHandle" ∧ yX12_fault.cls ≠ "java/lang/invoke/VarHandle" ∧ (parseMethodDescriptor yX12_fault.desc).map (fun d => d.parameters.length) = some 2 := by decide +kernel
set_option maxHeartbeats 40000000 in
set_option maxRecDepth 100000 in
theorem c_x_fault (l : Launch) (dC : Nat → ClassId) (dI : Nat → Nat → Nat) (cy : Nat → ClassId) (a : Nat → Nat) (k0 : Nat) (L0 : Nat → Int32) (σ0 : MS) (r0 : Int32 × MS) (h0 : x_fault k0 0 L0 σ0 = some r0) (sz : Nat) : Met l yX12_fault w_x_fault ({ frames := 0, cells := 0, slots := 0, locals := 0 }) (va_Pc [.ref (a 0), .int (L0 1), .int (L0 2)] (nIn (dC, dI) cy sz (vM cy a σ0))) (va_Qv (fun _ : Unit => True) (fun _ t => nOut (dC, dI) cy (va_A (vM cy a σ0) sz) (vM cy a r0.2) t) (va_A (vM cy a σ0) sz)) 0 0 (va_A (vM cy a σ0) sz) := by
  refine Met.ofW (cc := cX12_fault) (maxL := 3) (ret := none) (by decide) rfl ?_
  intro p e s m args below meth c s₁ B hml hv
  obtain ⟨rfl, hsz, hP, hK, hD0, hG⟩ := hv
  have hx := B.exec
  have hb := B.bytes
  have hr := B.returns
  have hts := atoms_spec (ws := w_x_fault) B.pre
  have hown : s.vm.findClass RX12 = some m.cls := findClass_of_methodNamed B.named
  have hlocks := B.notSynchronized
  subst hsz
  have hD := hD0.self (sz := s.heap.size)
  generalize hAe : va_A (vM cy a σ0) s.heap.size = A at hD ⊢
  have hA : ∀ q : Nat, s.heap.size ≤ q → A q := fun q h => by rw [← hAe]; exact Or.inr h
  have hS : va_S A s.heap s.heap [] := va_S.rf
  have hl := lv_entry ([.ref (a 0), .int (L0 1), .int (L0 2)]) (n := 3) (Nat.le_of_ble_eq_true rfl)
  rw [lg_entry_eq]
  generalize (lg_sl ([.ref (a 0), .int (L0 1), .int (L0 2)]) ++ List.replicate (3 - (lg_sl ([.ref (a 0), .int (L0 1), .int (L0 2)])).length) Slot.unset).toArray = ls at hl ⊢
  have hl : lv_has ls 3 [(0, .ref (a 0)), (1, .int (L0 1)), (2, .int (L0 2))] := hl
  have blk : ∀ k : Nat, (bT p l e (headSpec w_x_fault ({ frames := 0, cells := 0, slots := 0, locals := 0 })).room s m #[.ref (a 0), .int (L0 1), .int (L0 2)] below meth c dC dI cy a A (qV dC dI cy a A below #[.ref (a 0), .int (L0 1), .int (L0 2)] s) 3 (x_fault k 0) (fun L => [(0, .ref (a 0)), (1, .int (L 1)), (2, .int (L 2))]) 0 (fun L => [])) ∧ (bT p l e (headSpec w_x_fault ({ frames := 0, cells := 0, slots := 0, locals := 0 })).room s m #[.ref (a 0), .int (L0 1), .int (L0 2)] below meth c dC dI cy a A (qV dC dI cy a A below #[.ref (a 0), .int (L0 1), .int (L0 2)] s) 3 (x_fault k 1) (fun L => [(0, .ref (a 0)), (1, .int (L 1)), (2, .int (L 2))]) 12 (fun L => [])) ∧ (bT p l e (headSpec w_x_fault ({ frames := 0, cells := 0, slots := 0, locals := 0 })).room s m #[.ref (a 0), .int (L0 1), .int (L0 2)] below meth c dC dI cy a A (qV dC dI cy a A below #[.ref (a 0), .int (L0 1), .int (L0 2)] s) 3 (x_fault k 2) (fun L => [(0, .ref (a 0)), (1, .int (L 1)), (2, .int (L 2))]) 17 (fun L => [])) ∧ (bT p l e (headSpec w_x_fault ({ frames := 0, cells := 0, slots := 0, locals := 0 })).room s m #[.ref (a 0), .int (L0 1), .int (L0 2)] below meth c dC dI cy a A (qV dC dI cy a A below #[.ref (a 0), .int (L0 1), .int (L0 2)] s) 3 (x_fault k 3) (fun L => [(0, .ref (a 0)), (1, .int (L 1)), (2, .int (L 2))]) 22 (fun L => [])) := by
    intro k
    induction k with
    | zero => exact ⟨fun L σ r h => (by cases h), fun L σ r h => (by cases h), fun L σ r h => (by cases h), fun L σ r h => (by cases h)⟩
    | succ k ih =>
      refine ⟨?_, ?_, ?_, ?_⟩
      · intro L σ r h H locs ls hP hD hS hl
        rw [x_fault] at h
        refine lv_aload_n hx hb dX12_fault_0 rfl (lv_at hl 0 rfl) ?_
        refine ng_10 hx hb hts in_x_fault hown hK hP (hts _ (List.mem_cons_of_mem _ (List.mem_append_left _ (List.mem_append_left _ (List.mem_of_getElem? (i := 0) rfl))))) dX12_fault_1 ?_
        refine lv_if_ne (tgt := 22) hx hb dX12_fault_4 (by decide) (fun c1 => ?_) (fun c1 => ?_)
        · rw [if_neg c1] at h
          exact ih.2.2.2 L σ r h H locs ls hP hD hS (lv_sub hl [0, 1, 2] rfl)
        · rw [if_pos c1] at h
          refine lv_aload_n hx hb dX12_fault_7 rfl (lv_at hl 0 rfl) ?_
          refine lv_iconst (v := 1) hx hb dX12_fault_8 (by decide) ?_
          refine np_10 hx hb hts in_x_fault hown hK hP hD hS (hts _ (List.mem_cons_of_mem _ (List.mem_append_left _ (List.mem_append_left _ (List.mem_of_getElem? (i := 0) rfl))))) (Or.inr rfl) dX12_fault_9 (fun H locs hP hD hS => ?_)
          exact ih.2.1 L (upd σ.1 10 1, σ.2.1, σ.2.2) r h H locs ls hP hD hS (lv_sub hl [0, 1, 2] rfl)
      · intro L σ r h H locs ls hP hD hS hl
        rw [x_fault] at h
        refine lv_aload_n hx hb dX12_fault_12 rfl (lv_at hl 0 rfl) ?_
        refine lv_iload_n hx hb dX12_fault_13 rfl (lv_at hl 1 rfl) ?_
        refine np_11 hx hb hts in_x_fault hown hK hP hD hS (hts _ (List.mem_cons_of_mem _ (List.mem_append_left _ (List.mem_append_left _ (List.mem_of_getElem? (i := 1) rfl))))) dX12_fault_14 (fun H locs hP hD hS => ?_)
        exact ih.2.2.1 L (upd σ.1 11 ((L 1)), σ.2.1, σ.2.2) r h H locs ls hP hD hS (lv_sub hl [0, 1, 2] rfl)
      · intro L σ r h H locs ls hP hD hS hl
        rw [x_fault] at h
        refine lv_aload_n hx hb dX12_fault_17 rfl (lv_at hl 0 rfl) ?_
        refine lv_iload_n hx hb dX12_fault_18 rfl (lv_at hl 2 rfl) ?_
        refine np_12 hx hb hts in_x_fault hown hK hP hD hS (hts _ (List.mem_cons_of_mem _ (List.mem_append_left _ (List.mem_append_left _ (List.mem_of_getElem? (i := 2) rfl))))) dX12_fault_19 (fun H locs hP hD hS => ?_)
        exact ih.2.2.2 L (upd σ.1 12 ((L 2)), σ.2.1, σ.2.2) r h H locs ls hP hD hS (lv_sub hl [0, 1, 2] rfl)
      · intro L σ r h H locs ls hP hD hS hl
        rw [x_fault] at h
        cases h
        exact W.vret hx hb hr (fun t ht hW => ⟨⟨(), rfl, trivial, by rw [ht]; exact hP, va_K.moved hW.alike hK, hD⟩, hS.F ht⟩) hS.2.2 dX12_fault_22
  exact (blk k0).1 L0 σ0 r0 h0 s.heap [] ls hP hD hS hl
/-! skip -/
def x_skip : Nat → Nat → (Nat → Int32) → MS → Option (Int32 × MS)
  | 0, _, _, _ => none
  | k + 1, 0, L, σ => x_skip k 1 (upd L 1 1) σ
  | k + 1, 1, L, σ => if ((L 1)) = 0 then (x_skip k 7 L σ) else (ob (x_byteAt k 0 (upd (fun _ => 0) 1 ((σ.1 5))) σ) (fun r2 => if ((r2.2.1 4)) ≤ ((r2.2.1 5)) then (x_skip k 3 (upd L 2 r2.1) r2.2) else (if r2.1 = 9 then (x_skip k 2 (upd L 2 r2.1) r2.2) else (if r2.1 = 10 then (x_skip k 2 (upd L 2 r2.1) r2.2) else (if r2.1 = 13 then (x_skip k 2 (upd L 2 r2.1) r2.2) else (if r2.1 = 32 then (x_skip k 2 (upd L 2 r2.1) r2.2) else (x_skip k 3 (upd L 2 r2.1) r2.2)))))))
  | k + 1, 2, L, σ => x_skip k 6 L (upd σ.1 5 ((((σ.1 5)) + 1)), σ.2.1, σ.2.2)
  | k + 1, 3, L, σ => if ((L 2)) = 45 then (ob (x_byteAt k 0 (upd (fun _ => 0) 1 ((((σ.1 5)) + 1))) σ) (fun r2 => if r2.1 = 45 then (x_skip k 4 L r2.2) else (x_skip k 5 L r2.2))) else (x_skip k 5 L σ)
  | k + 1, 4, L, σ => if ((σ.1 4)) ≤ ((σ.1 5)) then (x_skip k 6 L σ) else (if ¬ (((σ.1 5)) < 0 ∨ 32768 ≤ ((σ.1 5)).toNatClampNeg) then (if ((σ.2.2 3 ((σ.1 5)).toNatClampNeg)) = 10 then (x_skip k 6 L σ) else (x_skip k 4 L (upd σ.1 5 ((((σ.1 5)) + 1)), σ.2.1, σ.2.2))) else none)
  | k + 1, 5, L, σ => x_skip k 6 (upd L 1 0) σ
  | k + 1, 6, L, σ => x_skip k 1 L σ
  | k + 1, 7, L, σ => some (0, σ)
  | _ + 1, _ + 8, _, _ => none
def o_x_skip : List Cond := [.fieldLink RX12 21 "SetHouseModel" "at" "I", .methodLink RX12 24 yX12_byteAt, .instanceMethod yX12_byteAt, .selects RX12 yX12_byteAt yX12_byteAt, .initialized RX12, .fieldLink RX12 1 "SetHouseModel" "taped" "I", .fieldLink RX12 7 "SetHouseModel" "tape" "[I"]
theorem o_x_skip_good : o_x_skip.all goodWord = true := by decide +kernel
def p_x_skip : List Cond := o_x_skip ++ ((.code yX12_byteAt cX12_byteAt 2 (some .int) :: p_x_byteAt) ++ [])
theorem p_x_skip_good : p_x_skip.all goodWord = true := nb_all2 o_x_skip_good (nb_all2 (nb_allc (by decide +kernel) p_x_byteAt_good) rfl)
def w_x_skip : List Cond := .code yX12_skip cX12_skip 3 none :: (p_x_skip ++ fM)
theorem w_x_skip_good : w_x_skip.all goodWord = true := nb_allc (by decide +kernel) (nb_all2 p_x_skip_good fM_good)
theorem in_x_skip : ∀ w ∈ wsX120, w ∈ w_x_skip := fun _ h => List.mem_cons_of_mem _ (List.mem_append_right _ h)
theorem hd_x_skip : yX12_skip.cls = RX12 ∧ yX12_skip.cls ≠ "java/lang/invoke/MethodHandle" ∧ yX12_skip.cls ≠ "java/lang/invoke/VarHandle" ∧ (parseMethodDescriptor yX12_skip.desc).map (fun d => d.parameters.length) = some 0 := by decide +kernel
theorem gg_x_skip_byteAt : GoodIn w_x_skip w_x_byteAt := goodIn_sub (fun w h => (List.mem_cons.mp h).elim (fun e => (List.mem_cons_of_mem _ (List.mem_append_left _ (List.mem_append_right _ (List.mem_append_left _ (List.mem_cons.mpr (Or.inl e))))))) (fun h => (List.mem_append.mp h).elim (fun h => (List.mem_cons_of_mem _ (List.mem_append_left _ (List.mem_append_right _ (List.mem_append_left _ (List.mem_cons_of_mem _ h)))))) (fun h => List.mem_cons_of_mem _ (List.mem_append_right _ h)))) w_x_byteAt_good
theorem g_x_skip_byteAt_24 : GoodIn w_x_skip (wsV RX12 24 RX12 yX12_byteAt w_x_byteAt) := goodIn_app (nb_g4 (List.mem_cons_of_mem _ (List.mem_append_left _ (List.mem_append_left _ (List.mem_of_getElem? (i := 1) rfl)))) (List.mem_cons_of_mem _ (List.mem_append_left _ (List.mem_append_left _ (List.mem_of_getElem? (i := 2) rfl)))) (List.mem_cons_of_mem _ (List.mem_append_left _ (List.mem_append_left _ (List.mem_of_getElem? (i := 3) rfl)))) (List.mem_cons_of_mem _ (List.mem_append_left _ (List.mem_append_left _ (List.mem_of_getElem? (i := 4) rfl)))) (by decide +kernel)) gg_x_skip_byteAt
set_option maxHeartbeats 40000000 in
set_option maxRecDepth 100000 in
theorem c_x_skip (l : Launch) (dC : Nat → ClassId) (dI : Nat → Nat → Nat) (cy : Nat → ClassId) (a : Nat → Nat) (k0 : Nat) (L0 : Nat → Int32) (σ0 : MS) (r0 : Int32 × MS) (h0 : x_skip k0 0 L0 σ0 = some r0) (sz : Nat) : Met l yX12_skip w_x_skip ({ frames := 1, cells := 0, slots := 0, locals := 21 }) (va_Pc [.ref (a 0)] (nIn (dC, dI) cy sz (vM cy a σ0))) (va_Qv (fun _ : Unit => True) (fun _ t => nOut (dC, dI) cy (va_A (vM cy a σ0) sz) (vM cy a r0.2) t) (va_A (vM cy a σ0) sz)) 0 0 (va_A (vM cy a σ0) sz) := by
  refine Met.ofW (cc := cX12_skip) (maxL := 3) (ret := none) (by decide) rfl ?_
  intro p e s m args below meth c s₁ B hml hv
  obtain ⟨rfl, hsz, hP, hK, hD0, hG⟩ := hv
  have hx := B.exec
  have hb := B.bytes
  have hr := B.returns
  have hts := atoms_spec (ws := w_x_skip) B.pre
  have hown : s.vm.findClass RX12 = some m.cls := findClass_of_methodNamed B.named
  have hlocks := B.notSynchronized
  subst hsz
  have hD := hD0.self (sz := s.heap.size)
  generalize hAe : va_A (vM cy a σ0) s.heap.size = A at hD ⊢
  have hA : ∀ q : Nat, s.heap.size ≤ q → A q := fun q h => by rw [← hAe]; exact Or.inr h
  have hS : va_S A s.heap s.heap [] := va_S.rf
  have hl := lv_entry ([.ref (a 0)]) (n := 3) (Nat.le_of_ble_eq_true rfl)
  rw [lg_entry_eq]
  generalize (lg_sl ([.ref (a 0)]) ++ List.replicate (3 - (lg_sl ([.ref (a 0)])).length) Slot.unset).toArray = ls at hl ⊢
  have hl : lv_has ls 3 [(0, .ref (a 0))] := hl
  have blk : ∀ k : Nat, (bT p l e (headSpec w_x_skip ({ frames := 1, cells := 0, slots := 0, locals := 21 })).room s m #[.ref (a 0)] below meth c dC dI cy a A (qV dC dI cy a A below #[.ref (a 0)] s) 3 (x_skip k 0) (fun L => [(0, .ref (a 0))]) 0 (fun L => [])) ∧ (bT p l e (headSpec w_x_skip ({ frames := 1, cells := 0, slots := 0, locals := 21 })).room s m #[.ref (a 0)] below meth c dC dI cy a A (qV dC dI cy a A below #[.ref (a 0)] s) 3 (x_skip k 1) (fun L => [(0, .ref (a 0)), (1, .int (L 1))]) 2 (fun L => [])) ∧ (bT p l e (headSpec w_x_skip ({ frames := 1, cells := 0, slots := 0, locals := 21 })).room s m #[.ref (a 0)] below meth c dC dI cy a A (qV dC dI cy a A below #[.ref (a 0)] s) 3 (x_skip k 2) (fun L => [(0, .ref (a 0)), (1, .int (L 1)), (2, .int (L 2))]) 50 (fun L => [])) ∧ (bT p l e (headSpec w_x_skip ({ frames := 1, cells := 0, slots := 0, locals := 21 })).room s m #[.ref (a 0)] below meth c dC dI cy a A (qV dC dI cy a A below #[.ref (a 0)] s) 3 (x_skip k 3) (fun L => [(0, .ref (a 0)), (1, .int (L 1)), (2, .int (L 2))]) 63 (fun L => [])) ∧ (bT p l e (headSpec w_x_skip ({ frames := 1, cells := 0, slots := 0, locals := 21 })).room s m #[.ref (a 0)] below meth c dC dI cy a A (qV dC dI cy a A below #[.ref (a 0)] s) 3 (x_skip k 4) (fun L => [(0, .ref (a 0)), (1, .int (L 1)), (2, .int (L 2))]) 84 (fun L => [])) ∧ (bT p l e (headSpec w_x_skip ({ frames := 1, cells := 0, slots := 0, locals := 21 })).room s m #[.ref (a 0)] below meth c dC dI cy a A (qV dC dI cy a A below #[.ref (a 0)] s) 3 (x_skip k 5) (fun L => [(0, .ref (a 0)), (1, .int (L 1)), (2, .int (L 2))]) 122 (fun L => [])) ∧ (bT p l e (headSpec w_x_skip ({ frames := 1, cells := 0, slots := 0, locals := 21 })).room s m #[.ref (a 0)] below meth c dC dI cy a A (qV dC dI cy a A below #[.ref (a 0)] s) 3 (x_skip k 6) (fun L => [(0, .ref (a 0)), (1, .int (L 1)), (2, .int (L 2))]) 124 (fun L => [])) ∧ (bT p l e (headSpec w_x_skip ({ frames := 1, cells := 0, slots := 0, locals := 21 })).room s m #[.ref (a 0)] below meth c dC dI cy a A (qV dC dI cy a A below #[.ref (a 0)] s) 3 (x_skip k 7) (fun L => [(0, .ref (a 0)), (1, .int (L 1))]) 127 (fun L => [])) := by
    intro k
    induction k with
    | zero => exact ⟨fun L σ r h => (by cases h), fun L σ r h => (by cases h), fun L σ r h => (by cases h), fun L σ r h => (by cases h), fun L σ r h => (by cases h), fun L σ r h => (by cases h), fun L σ r h => (by cases h), fun L σ r h => (by cases h)⟩
    | succ k ih =>
      refine ⟨?_, ?_, ?_, ?_, ?_, ?_, ?_, ?_⟩
      · intro L σ r h H locs ls hP hD hS hl
        rw [x_skip] at h
        refine lv_iconst (v := 1) hx hb dX12_skip_0 (by decide) ?_
        refine lv_istore_n (lv' := [(1, .int 1), (0, .ref (a 0))]) hx hb dX12_skip_1 rfl hl (by decide) rfl (fun ls hl => ?_)
        exact ih.2.1 (upd L 1 1) σ r h H locs ls hP hD hS (lv_sub hl [1, 0] rfl)
      · intro L σ r h H locs ls hP hD hS hl
        rw [x_skip] at h
        refine lv_iload_n hx hb dX12_skip_2 rfl (lv_at hl 1 rfl) ?_
        refine lv_if_eq (tgt := 127) hx hb dX12_skip_3 (by decide) (fun c1 => ?_) (fun c1 => ?_)
        · rw [if_pos c1] at h
          exact ih.2.2.2.2.2.2.2 L σ r h H locs ls hP hD hS (lv_sub hl [0, 1] rfl)
        · rw [if_neg c1] at h
          refine lv_aload_n hx hb dX12_skip_6 rfl (lv_at hl 0 rfl) ?_
          refine lv_aload_n hx hb dX12_skip_7 rfl (lv_at hl 0 rfl) ?_
          refine ng_5 hx hb hts in_x_skip hown hK hP (hts _ (List.mem_cons_of_mem _ (List.mem_append_left _ (List.mem_append_left _ (List.mem_of_getElem? (i := 0) rfl))))) dX12_skip_8 ?_
          obtain ⟨r2, hc2, h⟩ := ob_ex h
          refine nc_Vi (As := [.int (σ.1 5)]) (rest := []) ⟨hx, hb, hml, hown, hts⟩ (c_x_byteAt l dC dI cy a k (upd (fun _ => 0) 1 ((σ.1 5))) σ r2 hc2 H.size) (cwV 1 hts g_x_skip_byteAt_24 rfl rfl rfl hd_x_byteAt ⟨Nat.le_of_ble_eq_true rfl, Nat.le_of_ble_eq_true rfl⟩) hK hG hA hP hD hS rfl hl.1 rfl (Nat.le_of_ble_eq_true rfl) dX12_skip_11 ⟨Nat.le_refl _, Nat.le_refl _⟩ (fun H locs hP hD hS => ?_)
          refine lv_istore_n (lv' := [(2, .int r2.1), (0, .ref (a 0)), (1, .int (L 1))]) hx hb dX12_skip_14 rfl hl (by decide) rfl (fun ls hl => ?_)
          refine lv_aload_n hx hb dX12_skip_15 rfl (lv_at hl 1 rfl) ?_
          refine ng_5 hx hb hts in_x_skip hown hK hP (hts _ (List.mem_cons_of_mem _ (List.mem_append_left _ (List.mem_append_left _ (List.mem_of_getElem? (i := 0) rfl))))) dX12_skip_16 ?_
          refine lv_aload_n hx hb dX12_skip_19 rfl (lv_at hl 1 rfl) ?_
          refine ng_4 hx hb hts in_x_skip hown hK hP (hts _ (List.mem_cons_of_mem _ (List.mem_append_left _ (List.mem_append_left _ (List.mem_of_getElem? (i := 5) rfl))))) dX12_skip_20 ?_
          refine lv_icmp_ge (tgt := 63) hx hb dX12_skip_23 (by decide) (fun c3 => ?_) (fun c3 => ?_)
          · rw [if_pos c3] at h
            exact ih.2.2.2.1 (upd L 2 r2.1) r2.2 r h H locs ls hP hD hS (lv_sub hl [1, 2, 0] rfl)
          · rw [if_neg c3] at h
            refine lv_iload_n hx hb dX12_skip_26 rfl (lv_at hl 0 rfl) ?_
            refine lv_bipush (v := 9) hx hb dX12_skip_27 (by decide) ?_
            refine lv_icmp_eq (tgt := 50) hx hb dX12_skip_29 (by decide) (fun c4 => ?_) (fun c4 => ?_)
            · rw [if_pos c4] at h
              exact ih.2.2.1 (upd L 2 r2.1) r2.2 r h H locs ls hP hD hS (lv_sub hl [1, 2, 0] rfl)
            · rw [if_neg c4] at h
              refine lv_iload_n hx hb dX12_skip_32 rfl (lv_at hl 0 rfl) ?_
              refine lv_bipush (v := 10) hx hb dX12_skip_33 (by decide) ?_
              refine lv_icmp_eq (tgt := 50) hx hb dX12_skip_35 (by decide) (fun c5 => ?_) (fun c5 => ?_)
              · rw [if_pos c5] at h
                exact ih.2.2.1 (upd L 2 r2.1) r2.2 r h H locs ls hP hD hS (lv_sub hl [1, 2, 0] rfl)
              · rw [if_neg c5] at h
                refine lv_iload_n hx hb dX12_skip_38 rfl (lv_at hl 0 rfl) ?_
                refine lv_bipush (v := 13) hx hb dX12_skip_39 (by decide) ?_
                refine lv_icmp_eq (tgt := 50) hx hb dX12_skip_41 (by decide) (fun c6 => ?_) (fun c6 => ?_)
                · rw [if_pos c6] at h
                  exact ih.2.2.1 (upd L 2 r2.1) r2.2 r h H locs ls hP hD hS (lv_sub hl [1, 2, 0] rfl)
                · rw [if_neg c6] at h
                  refine lv_iload_n hx hb dX12_skip_44 rfl (lv_at hl 0 rfl) ?_
                  refine lv_bipush (v := 32) hx hb dX12_skip_45 (by decide) ?_
                  refine lv_icmp_ne (tgt := 63) hx hb dX12_skip_47 (by decide) (fun c7 => ?_) (fun c7 => ?_)
                  · rw [if_neg c7] at h
                    exact ih.2.2.2.1 (upd L 2 r2.1) r2.2 r h H locs ls hP hD hS (lv_sub hl [1, 2, 0] rfl)
                  · rw [if_pos c7] at h
                    exact ih.2.2.1 (upd L 2 r2.1) r2.2 r h H locs ls hP hD hS (lv_sub hl [1, 2, 0] rfl)
      · intro L σ r h H locs ls hP hD hS hl
        rw [x_skip] at h
        refine lv_aload_n hx hb dX12_skip_50 rfl (lv_at hl 0 rfl) ?_
        refine lv_dup hx hb dX12_skip_51 rfl ?_
        refine ng_5 hx hb hts in_x_skip hown hK hP (hts _ (List.mem_cons_of_mem _ (List.mem_append_left _ (List.mem_append_left _ (List.mem_of_getElem? (i := 0) rfl))))) dX12_skip_52 ?_
        refine lv_iconst (v := 1) hx hb dX12_skip_55 (by decide) ?_
        refine lv_iadd hx hb dX12_skip_56 ?_
        refine np_5 hx hb hts in_x_skip hown hK hP hD hS (hts _ (List.mem_cons_of_mem _ (List.mem_append_left _ (List.mem_append_left _ (List.mem_of_getElem? (i := 0) rfl))))) dX12_skip_57 (fun H locs hP hD hS => ?_)
        refine lv_goto (tgt := 124) hx hb dX12_skip_60 (by decide) ?_
        exact ih.2.2.2.2.2.2.1 L (upd σ.1 5 ((((σ.1 5)) + 1)), σ.2.1, σ.2.2) r h H locs ls hP hD hS (lv_sub hl [0, 1, 2] rfl)
      · intro L σ r h H locs ls hP hD hS hl
        rw [x_skip] at h
        refine lv_iload_n hx hb dX12_skip_63 rfl (lv_at hl 2 rfl) ?_
        refine lv_bipush (v := 45) hx hb dX12_skip_64 (by decide) ?_
        refine lv_icmp_ne (tgt := 122) hx hb dX12_skip_66 (by decide) (fun c1 => ?_) (fun c1 => ?_)
        · rw [if_neg c1] at h
          exact ih.2.2.2.2.2.1 L σ r h H locs ls hP hD hS (lv_sub hl [0, 1, 2] rfl)
        · rw [if_pos c1] at h
          refine lv_aload_n hx hb dX12_skip_69 rfl (lv_at hl 0 rfl) ?_
          refine lv_aload_n hx hb dX12_skip_70 rfl (lv_at hl 0 rfl) ?_
          refine ng_5 hx hb hts in_x_skip hown hK hP (hts _ (List.mem_cons_of_mem _ (List.mem_append_left _ (List.mem_append_left _ (List.mem_of_getElem? (i := 0) rfl))))) dX12_skip_71 ?_
          refine lv_iconst (v := 1) hx hb dX12_skip_74 (by decide) ?_
          refine lv_iadd hx hb dX12_skip_75 ?_
          obtain ⟨r2, hc2, h⟩ := ob_ex h
          refine nc_Vi (As := [.int (((σ.1 5)) + 1)]) (rest := []) ⟨hx, hb, hml, hown, hts⟩ (c_x_byteAt l dC dI cy a k (upd (fun _ => 0) 1 ((((σ.1 5)) + 1))) σ r2 hc2 H.size) (cwV 1 hts g_x_skip_byteAt_24 rfl rfl rfl hd_x_byteAt ⟨Nat.le_of_ble_eq_true rfl, Nat.le_of_ble_eq_true rfl⟩) hK hG hA hP hD hS rfl hl.1 rfl (Nat.le_of_ble_eq_true rfl) dX12_skip_76 ⟨Nat.le_refl _, Nat.le_refl _⟩ (fun H locs hP hD hS => ?_)
          refine lv_bipush (v := 45) hx hb dX12_skip_79 (by decide) ?_
          refine lv_icmp_ne (tgt := 122) hx hb dX12_skip_81 (by decide) (fun c3 => ?_) (fun c3 => ?_)
          · rw [if_neg c3] at h
            exact ih.2.2.2.2.2.1 L r2.2 r h H locs ls hP hD hS (lv_sub hl [0, 1, 2] rfl)
          · rw [if_pos c3] at h
            exact ih.2.2.2.2.1 L r2.2 r h H locs ls hP hD hS (lv_sub hl [0, 1, 2] rfl)
      · intro L σ r h H locs ls hP hD hS hl
        rw [x_skip] at h
        refine lv_aload_n hx hb dX12_skip_84 rfl (lv_at hl 0 rfl) ?_
        refine ng_5 hx hb hts in_x_skip hown hK hP (hts _ (List.mem_cons_of_mem _ (List.mem_append_left _ (List.mem_append_left _ (List.mem_of_getElem? (i := 0) rfl))))) dX12_skip_85 ?_
        refine lv_aload_n hx hb dX12_skip_88 rfl (lv_at hl 0 rfl) ?_
        refine ng_4 hx hb hts in_x_skip hown hK hP (hts _ (List.mem_cons_of_mem _ (List.mem_append_left _ (List.mem_append_left _ (List.mem_of_getElem? (i := 5) rfl))))) dX12_skip_89 ?_
        refine lv_icmp_ge (tgt := 124) hx hb dX12_skip_92 (by decide) (fun c1 => ?_) (fun c1 => ?_)
        · rw [if_pos c1] at h
          exact ih.2.2.2.2.2.2.1 L σ r h H locs ls hP hD hS (lv_sub hl [0, 1, 2] rfl)
        · rw [if_neg c1] at h
          refine lv_aload_n hx hb dX12_skip_95 rfl (lv_at hl 0 rfl) ?_
          refine ng_3 hx hb hts in_x_skip hown hK hP (hts _ (List.mem_cons_of_mem _ (List.mem_append_left _ (List.mem_append_left _ (List.mem_of_getElem? (i := 6) rfl))))) dX12_skip_96 ?_
          refine lv_aload_n hx hb dX12_skip_99 rfl (lv_at hl 0 rfl) ?_
          refine ng_5 hx hb hts in_x_skip hown hK hP (hts _ (List.mem_cons_of_mem _ (List.mem_append_left _ (List.mem_append_left _ (List.mem_of_getElem? (i := 0) rfl))))) dX12_skip_100 ?_
          obtain ⟨q2, h⟩ := nb_ite1 h
          refine nl_3 hx hb hK hP q2 dX12_skip_103 ?_
          refine lv_bipush (v := 10) hx hb dX12_skip_104 (by decide) ?_
          refine lv_icmp_eq (tgt := 124) hx hb dX12_skip_106 (by decide) (fun c3 => ?_) (fun c3 => ?_)
          · rw [if_pos c3] at h
            exact ih.2.2.2.2.2.2.1 L σ r h H locs ls hP hD hS (lv_sub hl [0, 1, 2] rfl)
          · rw [if_neg c3] at h
            refine lv_aload_n hx hb dX12_skip_109 rfl (lv_at hl 0 rfl) ?_
            refine lv_dup hx hb dX12_skip_110 rfl ?_
            refine ng_5 hx hb hts in_x_skip hown hK hP (hts _ (List.mem_cons_of_mem _ (List.mem_append_left _ (List.mem_append_left _ (List.mem_of_getElem? (i := 0) rfl))))) dX12_skip_111 ?_
            refine lv_iconst (v := 1) hx hb dX12_skip_114 (by decide) ?_
            refine lv_iadd hx hb dX12_skip_115 ?_
            refine np_5 hx hb hts in_x_skip hown hK hP hD hS (hts _ (List.mem_cons_of_mem _ (List.mem_append_left _ (List.mem_append_left _ (List.mem_of_getElem? (i := 0) rfl))))) dX12_skip_116 (fun H locs hP hD hS => ?_)
            refine lv_goto (tgt := 84) hx hb dX12_skip_119 (by decide) ?_
            exact ih.2.2.2.2.1 L (upd σ.1 5 ((((σ.1 5)) + 1)), σ.2.1, σ.2.2) r h H locs ls hP hD hS (lv_sub hl [0, 1, 2] rfl)
      · intro L σ r h H locs ls hP hD hS hl
        rw [x_skip] at h
        refine lv_iconst (v := 0) hx hb dX12_skip_122 (by decide) ?_
        refine lv_istore_n (lv' := [(1, .int 0), (0, .ref (a 0)), (2, .int (L 2))]) hx hb dX12_skip_123 rfl hl (by decide) rfl (fun ls hl => ?_)
        exact ih.2.2.2.2.2.2.1 (upd L 1 0) σ r h H locs ls hP hD hS (lv_sub hl [1, 0, 2] rfl)
      · intro L σ r h H locs ls hP hD hS hl
        rw [x_skip] at h
        refine lv_goto (tgt := 2) hx hb dX12_skip_124 (by decide) ?_
        exact ih.2.1 L σ r h H locs ls hP hD hS (lv_sub hl [0, 1] rfl)
      · intro L σ r h H locs ls hP hD hS hl
        rw [x_skip] at h
        cases h
        exact W.vret hx hb hr (fun t ht hW => ⟨⟨(), rfl, trivial, by rw [ht]; exact hP, va_K.moved hW.alike hK, hD⟩, hS.F ht⟩) hS.2.2 dX12_skip_127
  exact (blk k0).1 L0 σ0 r0 h0 s.heap [] ls hP hD hS hl
/-! sign -/
def x_sign : Nat → Nat → (Nat → Int32) → MS → Option (Int32 × MS)
  | 0, _, _, _ => none
  | k + 1, 0, L, σ => if ((L 0)) = (35 : Int32) then (x_sign k 31 L σ) else (if ((L 0)) = (40 : Int32) then (x_sign k 9 L σ) else (if ((L 0)) = (41 : Int32) then (x_sign k 10 L σ) else (if ((L 0)) = (42 : Int32) then (x_sign k 6 L σ) else (if ((L 0)) = (43 : Int32) then (x_sign k 4 L σ) else (if ((L 0)) = (44 : Int32) then (x_sign k 15 L σ) else (if ((L 0)) = (45 : Int32) then (x_sign k 5 L σ) else (if ((L 0)) = (46 : Int32) then (x_sign k 18 L σ) else (if ((L 0)) = (47 : Int32) then (x_sign k 22 L σ) else (if ((L 0)) = (58 : Int32) then (x_sign k 1 L σ) else (if ((L 0)) = (59 : Int32) then (x_sign k 16 L σ) else (if ((L 0)) = (60 : Int32) then (x_sign k 25 L σ) else (if ((L 0)) = (61 : Int32) then (x_sign k 21 L σ) else (if ((L 0)) = (62 : Int32) then (x_sign k 28 L σ) else (if ((L 0)) = (91 : Int32) then (x_sign k 13 L σ) else (if ((L 0)) = (93 : Int32) then (x_sign k 14 L σ) else (if ((L 0)) = (123 : Int32) then (x_sign k 11 L σ) else (if ((L 0)) = (124 : Int32) then (x_sign k 17 L σ) else (if ((L 0)) = (125 : Int32) then (x_sign k 12 L σ) else (x_sign k 32 L σ)))))))))))))))))))
  | k + 1, 1, L, σ => if ((L 1)) = 61 then (x_sign k 3 (upd L 100 1) σ) else (x_sign k 2 L σ)
  | k + 1, 2, L, σ => x_sign k 3 (upd L 100 14) σ
  | k + 1, 3, L, σ => some ((L 100), σ)
  | k + 1, 4, L, σ => some (2, σ)
  | k + 1, 5, L, σ => some (3, σ)
  | k + 1, 6, L, σ => if ((L 1)) = 42 then (x_sign k 8 (upd L 100 5) σ) else (x_sign k 7 L σ)
  | k + 1, 7, L, σ => x_sign k 8 (upd L 100 4) σ
  | k + 1, 8, L, σ => some ((L 100), σ)
  | k + 1, 9, L, σ => some (6, σ)
  | k + 1, 10, L, σ => some (7, σ)
  | k + 1, 11, L, σ => some (8, σ)
  | k + 1, 12, L, σ => some (9, σ)
  | k + 1, 13, L, σ => some (10, σ)
  | k + 1, 14, L, σ => some (11, σ)
  | k + 1, 15, L, σ => some (12, σ)
  | k + 1, 16, L, σ => some (13, σ)
  | k + 1, 17, L, σ => some (15, σ)
  | k + 1, 18, L, σ => if ((L 1)) = 46 then (x_sign k 20 (upd L 100 16) σ) else (x_sign k 19 L σ)
  | k + 1, 19, L, σ => x_sign k 20 (upd L 100 0) σ
  | k + 1, 20, L, σ => some ((L 100), σ)
  | k + 1, 21, L, σ => some (17, σ)
  | k + 1, 22, L, σ => if ((L 1)) = 61 then (x_sign k 24 (upd L 100 18) σ) else (x_sign k 23 L σ)
  | k + 1, 23, L, σ => x_sign k 24 (upd L 100 24) σ
  | k + 1, 24, L, σ => some ((L 100), σ)
  | k + 1, 25, L, σ => if ((L 1)) = 61 then (x_sign k 27 (upd L 100 20) σ) else (x_sign k 26 L σ)
  | k + 1, 26, L, σ => x_sign k 27 (upd L 100 19) σ
  | k + 1, 27, L, σ => some ((L 100), σ)
  | k + 1, 28, L, σ => if ((L 1)) = 61 then (x_sign k 30 (upd L 100 22) σ) else (x_sign k 29 L σ)
  | k + 1, 29, L, σ => x_sign k 30 (upd L 100 21) σ
  | k + 1, 30, L, σ => some ((L 100), σ)
  | k + 1, 31, L, σ => some (23, σ)
  | k + 1, 32, L, σ => some (0, σ)
  | _ + 1, _ + 33, _, _ => none
def o_x_sign : List Cond := []
theorem o_x_sign_good : o_x_sign.all goodWord = true := by decide +kernel
def p_x_sign : List Cond := o_x_sign ++ []
theorem p_x_sign_good : p_x_sign.all goodWord = true := nb_all2 o_x_sign_good rfl
def w_x_sign : List Cond := .code yX12_sign cX12_sign 2 (some .int) :: (p_x_sign ++ fM)
theorem w_x_sign_good : w_x_sign.all goodWord = true := nb_allc (by decide +kernel) (nb_all2 p_x_sign_good fM_good)
theorem in_x_sign : ∀ w ∈ wsX120, w ∈ w_x_sign := fun _ h => List.mem_cons_of_mem _ (List.mem_append_right _ h)
theorem hd_x_sign : yX12_sign.cls ≠ "java/lang/invoke/MethodHandle" ∧ yX12_sign.cls ≠ "java/lang/invoke/VarHandle" ∧ (parseMethodDescriptor yX12_sign.desc).map (fun d => d.parameters.length) = some 2 := by decide +kernel
set_option maxHeartbeats 40000000 in
set_option maxRecDepth 100000 in
theorem c_x_sign (l : Launch) (dC : Nat → ClassId) (dI : Nat → Nat → Nat) (cy : Nat → ClassId) (a : Nat → Nat) (k0 : Nat) (L0 : Nat → Int32) (σ0 : MS) (r0 : Int32 × MS) (h0 : x_sign k0 0 L0 σ0 = some r0) (sz : Nat) : Met l yX12_sign w_x_sign ({ frames := 0, cells := 0, slots := 0, locals := 0 }) (va_Pc [.int (L0 0), .int (L0 1)] (nIn (dC, dI) cy sz (vM cy a σ0))) (va_Qi (fun (z : Int32) (_ : Unit) => z = r0.1) (fun _ t => nOut (dC, dI) cy (va_A (vM cy a σ0) sz) (vM cy a r0.2) t) (va_A (vM cy a σ0) sz)) 0 0 (va_A (vM cy a σ0) sz) := by
  refine Met.ofW (cc := cX12_sign) (maxL := 2) (ret := (some .int)) (by decide) rfl ?_
  intro p e s m args below meth c s₁ B hml hv
  obtain ⟨rfl, hsz, hP, hK, hD0, hG⟩ := hv
  have hx := B.exec
  have hb := B.bytes
  have hr := B.returns
  have hts := atoms_spec (ws := w_x_sign) B.pre
  have hown : s.vm.findClass RX12 = some m.cls := findClass_of_methodNamed B.named
  have hlocks := B.notSynchronized
  subst hsz
  have hD := hD0.self (sz := s.heap.size)
  generalize hAe : va_A (vM cy a σ0) s.heap.size = A at hD ⊢
  have hA : ∀ q : Nat, s.heap.size ≤ q → A q := fun q h => by rw [← hAe]; exact Or.inr h
  have hS : va_S A s.heap s.heap [] := va_S.rf
  have hl := lv_entry ([.int (L0 0), .int (L0 1)]) (n := 2) (Nat.le_of_ble_eq_true rfl)
  rw [lg_entry_eq]
  generalize (lg_sl ([.int (L0 0), .int (L0 1)]) ++ List.replicate (2 - (lg_sl ([.int (L0 0), .int (L0 1)])).length) Slot.unset).toArray = ls at hl ⊢
  have hl : lv_has ls 2 [(0, .int (L0 0)), (1, .int (L0 1))] := hl
  have blk : ∀ k : Nat, (bT p l e (headSpec w_x_sign ({ frames := 0, cells := 0, slots := 0, locals := 0 })).room s m #[.int (L0 0), .int (L0 1)] below meth c dC dI cy a A (qI dC dI cy a A below #[.int (L0 0), .int (L0 1)] s) 2 (x_sign k 0) (fun L => [(0, .int (L 0)), (1, .int (L 1))]) 0 (fun L => [])) ∧ (bT p l e (headSpec w_x_sign ({ frames := 0, cells := 0, slots := 0, locals := 0 })).room s m #[.int (L0 0), .int (L0 1)] below meth c dC dI cy a A (qI dC dI cy a A below #[.int (L0 0), .int (L0 1)] s) 2 (x_sign k 1) (fun L => [(0, .int (L 0)), (1, .int (L 1))]) 164 (fun L => [])) ∧ (bT p l e (headSpec w_x_sign ({ frames := 0, cells := 0, slots := 0, locals := 0 })).room s m #[.int (L0 0), .int (L0 1)] below meth c dC dI cy a A (qI dC dI cy a A below #[.int (L0 0), .int (L0 1)] s) 2 (x_sign k 2) (fun L => [(0, .int (L 0)), (1, .int (L 1))]) 174 (fun L => [])) ∧ (bT p l e (headSpec w_x_sign ({ frames := 0, cells := 0, slots := 0, locals := 0 })).room s m #[.int (L0 0), .int (L0 1)] below meth c dC dI cy a A (qI dC dI cy a A below #[.int (L0 0), .int (L0 1)] s) 2 (x_sign k 3) (fun L => [(0, .int (L 0)), (1, .int (L 1))]) 176 (fun L => [.int (L 100)])) ∧ (bT p l e (headSpec w_x_sign ({ frames := 0, cells := 0, slots := 0, locals := 0 })).room s m #[.int (L0 0), .int (L0 1)] below meth c dC dI cy a A (qI dC dI cy a A below #[.int (L0 0), .int (L0 1)] s) 2 (x_sign k 4) (fun L => [(0, .int (L 0)), (1, .int (L 1))]) 177 (fun L => [])) ∧ (bT p l e (headSpec w_x_sign ({ frames := 0, cells := 0, slots := 0, locals := 0 })).room s m #[.int (L0 0), .int (L0 1)] below meth c dC dI cy a A (qI dC dI cy a A below #[.int (L0 0), .int (L0 1)] s) 2 (x_sign k 5) (fun L => [(0, .int (L 0)), (1, .int (L 1))]) 179 (fun L => [])) ∧ (bT p l e (headSpec w_x_sign ({ frames := 0, cells := 0, slots := 0, locals := 0 })).room s m #[.int (L0 0), .int (L0 1)] below meth c dC dI cy a A (qI dC dI cy a A below #[.int (L0 0), .int (L0 1)] s) 2 (x_sign k 6) (fun L => [(0, .int (L 0)), (1, .int (L 1))]) 181 (fun L => [])) ∧ (bT p l e (headSpec w_x_sign ({ frames := 0, cells := 0, slots := 0, locals := 0 })).room s m #[.int (L0 0), .int (L0 1)] below meth c dC dI cy a A (qI dC dI cy a A below #[.int (L0 0), .int (L0 1)] s) 2 (x_sign k 7) (fun L => [(0, .int (L 0)), (1, .int (L 1))]) 191 (fun L => [])) ∧ (bT p l e (headSpec w_x_sign ({ frames := 0, cells := 0, slots := 0, locals := 0 })).room s m #[.int (L0 0), .int (L0 1)] below meth c dC dI cy a A (qI dC dI cy a A below #[.int (L0 0), .int (L0 1)] s) 2 (x_sign k 8) (fun L => [(0, .int (L 0)), (1, .int (L 1))]) 192 (fun L => [.int (L 100)])) ∧ (bT p l e (headSpec w_x_sign ({ frames := 0, cells := 0, slots := 0, locals := 0 })).room s m #[.int (L0 0), .int (L0 1)] below meth c dC dI cy a A (qI dC dI cy a A below #[.int (L0 0), .int (L0 1)] s) 2 (x_sign k 9) (fun L => [(0, .int (L 0)), (1, .int (L 1))]) 193 (fun L => [])) ∧ (bT p l e (headSpec w_x_sign ({ frames := 0, cells := 0, slots := 0, locals := 0 })).room s m #[.int (L0 0), .int (L0 1)] below meth c dC dI cy a A (qI dC dI cy a A below #[.int (L0 0), .int (L0 1)] s) 2 (x_sign k 10) (fun L => [(0, .int (L 0)), (1, .int (L 1))]) 196 (fun L => [])) ∧ (bT p l e (headSpec w_x_sign ({ frames := 0, cells := 0, slots := 0, locals := 0 })).room s m #[.int (L0 0), .int (L0 1)] below meth c dC dI cy a A (qI dC dI cy a A below #[.int (L0 0), .int (L0 1)] s) 2 (x_sign k 11) (fun L => [(0, .int (L 0)), (1, .int (L 1))]) 199 (fun L => [])) ∧ (bT p l e (headSpec w_x_sign ({ frames := 0, cells := 0, slots := 0, locals := 0 })).room s m #[.int (L0 0), .int (L0 1)] below meth c dC dI cy a A (qI dC dI cy a A below #[.int (L0 0), .int (L0 1)] s) 2 (x_sign k 12) (fun L => [(0, .int (L 0)), (1, .int (L 1))]) 202 (fun L => [])) ∧ (bT p l e (headSpec w_x_sign ({ frames := 0, cells := 0, slots := 0, locals := 0 })).room s m #[.int (L0 0), .int (L0 1)] below meth c dC dI cy a A (qI dC dI cy a A below #[.int (L0 0), .int (L0 1)] s) 2 (x_sign k 13) (fun L => [(0, .int (L 0)), (1, .int (L 1))]) 205 (fun L => [])) ∧ (bT p l e (headSpec w_x_sign ({ frames := 0, cells := 0, slots := 0, locals := 0 })).room s m #[.int (L0 0), .int (L0 1)] below meth c dC dI cy a A (qI dC dI cy a A below #[.int (L0 0), .int (L0 1)] s) 2 (x_sign k 14) (fun L => [(0, .int (L 0)), (1, .int (L 1))]) 208 (fun L => [])) ∧ (bT p l e (headSpec w_x_sign ({ frames := 0, cells := 0, slots := 0, locals := 0 })).room s m #[.int (L0 0), .int (L0 1)] below meth c dC dI cy a A (qI dC dI cy a A below #[.int (L0 0), .int (L0 1)] s) 2 (x_sign k 15) (fun L => [(0, .int (L 0)), (1, .int (L 1))]) 211 (fun L => [])) ∧ (bT p l e (headSpec w_x_sign ({ frames := 0, cells := 0, slots := 0, locals := 0 })).room s m #[.int (L0 0), .int (L0 1)] below meth c dC dI cy a A (qI dC dI cy a A below #[.int (L0 0), .int (L0 1)] s) 2 (x_sign k 16) (fun L => [(0, .int (L 0)), (1, .int (L 1))]) 214 (fun L => [])) ∧ (bT p l e (headSpec w_x_sign ({ frames := 0, cells := 0, slots := 0, locals := 0 })).room s m #[.int (L0 0), .int (L0 1)] below meth c dC dI cy a A (qI dC dI cy a A below #[.int (L0 0), .int (L0 1)] s) 2 (x_sign k 17) (fun L => [(0, .int (L 0)), (1, .int (L 1))]) 217 (fun L => [])) ∧ (bT p l e (headSpec w_x_sign ({ frames := 0, cells := 0, slots := 0, locals := 0 })).room s m #[.int (L0 0), .int (L0 1)] below meth c dC dI cy a A (qI dC dI cy a A below #[.int (L0 0), .int (L0 1)] s) 2 (x_sign k 18) (fun L => [(0, .int (L 0)), (1, .int (L 1))]) 220 (fun L => [])) ∧ (bT p l e (headSpec w_x_sign ({ frames := 0, cells := 0, slots := 0, locals := 0 })).room s m #[.int (L0 0), .int (L0 1)] below meth c dC dI cy a A (qI dC dI cy a A below #[.int (L0 0), .int (L0 1)] s) 2 (x_sign k 19) (fun L => [(0, .int (L 0)), (1, .int (L 1))]) 231 (fun L => [])) ∧ (bT p l e (headSpec w_x_sign ({ frames := 0, cells := 0, slots := 0, locals := 0 })).room s m #[.int (L0 0), .int (L0 1)] below meth c dC dI cy a A (qI dC dI cy a A below #[.int (L0 0), .int (L0 1)] s) 2 (x_sign k 20) (fun L => [(0, .int (L 0)), (1, .int (L 1))]) 232 (fun L => [.int (L 100)])) ∧ (bT p l e (headSpec w_x_sign ({ frames := 0, cells := 0, slots := 0, locals := 0 })).room s m #[.int (L0 0), .int (L0 1)] below meth c dC dI cy a A (qI dC dI cy a A below #[.int (L0 0), .int (L0 1)] s) 2 (x_sign k 21) (fun L => [(0, .int (L 0)), (1, .int (L 1))]) 233 (fun L => [])) ∧ (bT p l e (headSpec w_x_sign ({ frames := 0, cells := 0, slots := 0, locals := 0 })).room s m #[.int (L0 0), .int (L0 1)] below meth c dC dI cy a A (qI dC dI cy a A below #[.int (L0 0), .int (L0 1)] s) 2 (x_sign k 22) (fun L => [(0, .int (L 0)), (1, .int (L 1))]) 236 (fun L => [])) ∧ (bT p l e (headSpec w_x_sign ({ frames := 0, cells := 0, slots := 0, locals := 0 })).room s m #[.int (L0 0), .int (L0 1)] below meth c dC dI cy a A (qI dC dI cy a A below #[.int (L0 0), .int (L0 1)] s) 2 (x_sign k 23) (fun L => [(0, .int (L 0)), (1, .int (L 1))]) 247 (fun L => [])) ∧ (bT p l e (headSpec w_x_sign ({ frames := 0, cells := 0, slots := 0, locals := 0 })).room s m #[.int (L0 0), .int (L0 1)] below meth c dC dI cy a A (qI dC dI cy a A below #[.int (L0 0), .int (L0 1)] s) 2 (x_sign k 24) (fun L => [(0, .int (L 0)), (1, .int (L 1))]) 249 (fun L => [.int (L 100)])) ∧ (bT p l e (headSpec w_x_sign ({ frames := 0, cells := 0, slots := 0, locals := 0 })).room s m #[.int (L0 0), .int (L0 1)] below meth c dC dI cy a A (qI dC dI cy a A below #[.int (L0 0), .int (L0 1)] s) 2 (x_sign k 25) (fun L => [(0, .int (L 0)), (1, .int (L 1))]) 250 (fun L => [])) ∧ (bT p l e (headSpec w_x_sign ({ frames := 0, cells := 0, slots := 0, locals := 0 })).room s m #[.int (L0 0), .int (L0 1)] below meth c dC dI cy a A (qI dC dI cy a A below #[.int (L0 0), .int (L0 1)] s) 2 (x_sign k 26) (fun L => [(0, .int (L 0)), (1, .int (L 1))]) 261 (fun L => [])) ∧ (bT p l e (headSpec w_x_sign ({ frames := 0, cells := 0, slots := 0, locals := 0 })).room s m #[.int (L0 0), .int (L0 1)] below meth c dC dI cy a A (qI dC dI cy a A below #[.int (L0 0), .int (L0 1)] s) 2 (x_sign k 27) (fun L => [(0, .int (L 0)), (1, .int (L 1))]) 263 (fun L => [.int (L 100)])) ∧ (bT p l e (headSpec w_x_sign ({ frames := 0, cells := 0, slots := 0, locals := 0 })).room s m #[.int (L0 0), .int (L0 1)] below meth c dC dI cy a A (qI dC dI cy a A below #[.int (L0 0), .int (L0 1)] s) 2 (x_sign k 28) (fun L => [(0, .int (L 0)), (1, .int (L 1))]) 264 (fun L => [])) ∧ (bT p l e (headSpec w_x_sign ({ frames := 0, cells := 0, slots := 0, locals := 0 })).room s m #[.int (L0 0), .int (L0 1)] below meth c dC dI cy a A (qI dC dI cy a A below #[.int (L0 0), .int (L0 1)] s) 2 (x_sign k 29) (fun L => [(0, .int (L 0)), (1, .int (L 1))]) 275 (fun L => [])) ∧ (bT p l e (headSpec w_x_sign ({ frames := 0, cells := 0, slots := 0, locals := 0 })).room s m #[.int (L0 0), .int (L0 1)] below meth c dC dI cy a A (qI dC dI cy a A below #[.int (L0 0), .int (L0 1)] s) 2 (x_sign k 30) (fun L => [(0, .int (L 0)), (1, .int (L 1))]) 277 (fun L => [.int (L 100)])) ∧ (bT p l e (headSpec w_x_sign ({ frames := 0, cells := 0, slots := 0, locals := 0 })).room s m #[.int (L0 0), .int (L0 1)] below meth c dC dI cy a A (qI dC dI cy a A below #[.int (L0 0), .int (L0 1)] s) 2 (x_sign k 31) (fun L => [(0, .int (L 0)), (1, .int (L 1))]) 278 (fun L => [])) ∧ (bT p l e (headSpec w_x_sign ({ frames := 0, cells := 0, slots := 0, locals := 0 })).room s m #[.int (L0 0), .int (L0 1)] below meth c dC dI cy a A (qI dC dI cy a A below #[.int (L0 0), .int (L0 1)] s) 2 (x_sign k 32) (fun L => [(0, .int (L 0)), (1, .int (L 1))]) 281 (fun L => [])) := by
    intro k
    induction k with
    | zero => exact ⟨fun L σ r h => (by cases h), fun L σ r h => (by cases h), fun L σ r h => (by cases h), fun L σ r h => (by cases h), fun L σ r h => (by cases h), fun L σ r h => (by cases h), fun L σ r h => (by cases h), fun L σ r h => (by cases h), fun L σ r h => (by cases h), fun L σ r h => (by cases h), fun L σ r h => (by cases h), fun L σ r h => (by cases h), fun L σ r h => (by cases h), fun L σ r h => (by cases h), fun L σ r h => (by cases h), fun L σ r h => (by cases h), fun L σ r h => (by cases h), fun L σ r h => (by cases h), fun L σ r h => (by cases h), fun L σ r h => (by cases h), fun L σ r h => (by cases h), fun L σ r h => (by cases h), fun L σ r h => (by cases h), fun L σ r h => (by cases h), fun L σ r h => (by cases h), fun L σ r h => (by cases h), fun L σ r h => (by cases h), fun L σ r h => (by cases h), fun L σ r h => (by cases h), fun L σ r h => (by cases h), fun L σ r h => (by cases h), fun L σ r h => (by cases h), fun L σ r h => (by cases h)⟩
    | succ k ih =>
      refine ⟨?_, ?_, ?_, ?_, ?_, ?_, ?_, ?_, ?_, ?_, ?_, ?_, ?_, ?_, ?_, ?_, ?_, ?_, ?_, ?_, ?_, ?_, ?_, ?_, ?_, ?_, ?_, ?_, ?_, ?_, ?_, ?_, ?_⟩
      · intro L σ r h H locs ls hP hD hS hl
        rw [x_sign] at h
        refine lv_iload_n hx hb dX12_sign_0 rfl (lv_at hl 0 rfl) ?_
        by_cases q1 : ((L 0)) = (35 : Int32)
        · rw [if_pos q1] at h
          refine lv_lookup (off := 277) (tgt := 278) hx hb dX12_sign_1 (by decide) (by rw [q1]; decide) (by decide) ?_
          exact ih.2.2.2.2.2.2.2.2.2.2.2.2.2.2.2.2.2.2.2.2.2.2.2.2.2.2.2.2.2.2.2.1 L σ r h H locs ls hP hD hS (lv_sub hl [0, 1] rfl)
        · rw [if_neg q1] at h
          by_cases q2 : ((L 0)) = (40 : Int32)
          · rw [if_pos q2] at h
            refine lv_lookup (off := 192) (tgt := 193) hx hb dX12_sign_1 (by decide) (by rw [q2]; decide) (by decide) ?_
            exact ih.2.2.2.2.2.2.2.2.2.1 L σ r h H locs ls hP hD hS (lv_sub hl [0, 1] rfl)
          · rw [if_neg q2] at h
            by_cases q3 : ((L 0)) = (41 : Int32)
            · rw [if_pos q3] at h
              refine lv_lookup (off := 195) (tgt := 196) hx hb dX12_sign_1 (by decide) (by rw [q3]; decide) (by decide) ?_
              exact ih.2.2.2.2.2.2.2.2.2.2.1 L σ r h H locs ls hP hD hS (lv_sub hl [0, 1] rfl)
            · rw [if_neg q3] at h
              by_cases q4 : ((L 0)) = (42 : Int32)
              · rw [if_pos q4] at h
                refine lv_lookup (off := 180) (tgt := 181) hx hb dX12_sign_1 (by decide) (by rw [q4]; decide) (by decide) ?_
                exact ih.2.2.2.2.2.2.1 L σ r h H locs ls hP hD hS (lv_sub hl [0, 1] rfl)
              · rw [if_neg q4] at h
                by_cases q5 : ((L 0)) = (43 : Int32)
                · rw [if_pos q5] at h
                  refine lv_lookup (off := 176) (tgt := 177) hx hb dX12_sign_1 (by decide) (by rw [q5]; decide) (by decide) ?_
                  exact ih.2.2.2.2.1 L σ r h H locs ls hP hD hS (lv_sub hl [0, 1] rfl)
                · rw [if_neg q5] at h
                  by_cases q6 : ((L 0)) = (44 : Int32)
                  · rw [if_pos q6] at h
                    refine lv_lookup (off := 210) (tgt := 211) hx hb dX12_sign_1 (by decide) (by rw [q6]; decide) (by decide) ?_
                    exact ih.2.2.2.2.2.2.2.2.2.2.2.2.2.2.2.1 L σ r h H locs ls hP hD hS (lv_sub hl [0, 1] rfl)
                  · rw [if_neg q6] at h
                    by_cases q7 : ((L 0)) = (45 : Int32)
                    · rw [if_pos q7] at h
                      refine lv_lookup (off := 178) (tgt := 179) hx hb dX12_sign_1 (by decide) (by rw [q7]; decide) (by decide) ?_
                      exact ih.2.2.2.2.2.1 L σ r h H locs ls hP hD hS (lv_sub hl [0, 1] rfl)
                    · rw [if_neg q7] at h
                      by_cases q8 : ((L 0)) = (46 : Int32)
                      · rw [if_pos q8] at h
                        refine lv_lookup (off := 219) (tgt := 220) hx hb dX12_sign_1 (by decide) (by rw [q8]; decide) (by decide) ?_
                        exact ih.2.2.2.2.2.2.2.2.2.2.2.2.2.2.2.2.2.2.1 L σ r h H locs ls hP hD hS (lv_sub hl [0, 1] rfl)
                      · rw [if_neg q8] at h
                        by_cases q9 : ((L 0)) = (47 : Int32)
                        · rw [if_pos q9] at h
                          refine lv_lookup (off := 235) (tgt := 236) hx hb dX12_sign_1 (by decide) (by rw [q9]; decide) (by decide) ?_
                          exact ih.2.2.2.2.2.2.2.2.2.2.2.2.2.2.2.2.2.2.2.2.2.2.1 L σ r h H locs ls hP hD hS (lv_sub hl [0, 1] rfl)
                        · rw [if_neg q9] at h
                          by_cases q10 : ((L 0)) = (58 : Int32)
                          · rw [if_pos q10] at h
                            refine lv_lookup (off := 163) (tgt := 164) hx hb dX12_sign_1 (by decide) (by rw [q10]; decide) (by decide) ?_
                            exact ih.2.1 L σ r h H locs ls hP hD hS (lv_sub hl [0, 1] rfl)
                          · rw [if_neg q10] at h
                            by_cases q11 : ((L 0)) = (59 : Int32)
                            · rw [if_pos q11] at h
                              refine lv_lookup (off := 213) (tgt := 214) hx hb dX12_sign_1 (by decide) (by rw [q11]; decide) (by decide) ?_
                              exact ih.2.2.2.2.2.2.2.2.2.2.2.2.2.2.2.2.1 L σ r h H locs ls hP hD hS (lv_sub hl [0, 1] rfl)
                            · rw [if_neg q11] at h
                              by_cases q12 : ((L 0)) = (60 : Int32)
                              · rw [if_pos q12] at h
                                refine lv_lookup (off := 249) (tgt := 250) hx hb dX12_sign_1 (by decide) (by rw [q12]; decide) (by decide) ?_
                                exact ih.2.2.2.2.2.2.2.2.2.2.2.2.2.2.2.2.2.2.2.2.2.2.2.2.2.1 L σ r h H locs ls hP hD hS (lv_sub hl [0, 1] rfl)
                              · rw [if_neg q12] at h
                                by_cases q13 : ((L 0)) = (61 : Int32)
                                · rw [if_pos q13] at h
                                  refine lv_lookup (off := 232) (tgt := 233) hx hb dX12_sign_1 (by decide) (by rw [q13]; decide) (by decide) ?_
                                  exact ih.2.2.2.2.2.2.2.2.2.2.2.2.2.2.2.2.2.2.2.2.2.1 L σ r h H locs ls hP hD hS (lv_sub hl [0, 1] rfl)
                                · rw [if_neg q13] at h
                                  by_cases q14 : ((L 0)) = (62 : Int32)
                                  · rw [if_pos q14] at h
                                    refine lv_lookup (off := 263) (tgt := 264) hx hb dX12_sign_1 (by decide) (by rw [q14]; decide) (by decide) ?_
                                    exact ih.2.2.2.2.2.2.2.2.2.2.2.2.2.2.2.2.2.2.2.2.2.2.2.2.2.2.2.2.1 L σ r h H locs ls hP hD hS (lv_sub hl [0, 1] rfl)
                                  · rw [if_neg q14] at h
                                    by_cases q15 : ((L 0)) = (91 : Int32)
                                    · rw [if_pos q15] at h
                                      refine lv_lookup (off := 204) (tgt := 205) hx hb dX12_sign_1 (by decide) (by rw [q15]; decide) (by decide) ?_
                                      exact ih.2.2.2.2.2.2.2.2.2.2.2.2.2.1 L σ r h H locs ls hP hD hS (lv_sub hl [0, 1] rfl)
                                    · rw [if_neg q15] at h
                                      by_cases q16 : ((L 0)) = (93 : Int32)
                                      · rw [if_pos q16] at h
                                        refine lv_lookup (off := 207) (tgt := 208) hx hb dX12_sign_1 (by decide) (by rw [q16]; decide) (by decide) ?_
                                        exact ih.2.2.2.2.2.2.2.2.2.2.2.2.2.2.1 L σ r h H locs ls hP hD hS (lv_sub hl [0, 1] rfl)
                                      · rw [if_neg q16] at h
                                        by_cases q17 : ((L 0)) = (123 : Int32)
                                        · rw [if_pos q17] at h
                                          refine lv_lookup (off := 198) (tgt := 199) hx hb dX12_sign_1 (by decide) (by rw [q17]; decide) (by decide) ?_
                                          exact ih.2.2.2.2.2.2.2.2.2.2.2.1 L σ r h H locs ls hP hD hS (lv_sub hl [0, 1] rfl)
                                        · rw [if_neg q17] at h
                                          by_cases q18 : ((L 0)) = (124 : Int32)
                                          · rw [if_pos q18] at h
                                            refine lv_lookup (off := 216) (tgt := 217) hx hb dX12_sign_1 (by decide) (by rw [q18]; decide) (by decide) ?_
                                            exact ih.2.2.2.2.2.2.2.2.2.2.2.2.2.2.2.2.2.1 L σ r h H locs ls hP hD hS (lv_sub hl [0, 1] rfl)
                                          · rw [if_neg q18] at h
                                            by_cases q19 : ((L 0)) = (125 : Int32)
                                            · rw [if_pos q19] at h
                                              refine lv_lookup (off := 201) (tgt := 202) hx hb dX12_sign_1 (by decide) (by rw [q19]; decide) (by decide) ?_
                                              exact ih.2.2.2.2.2.2.2.2.2.2.2.2.1 L σ r h H locs ls hP hD hS (lv_sub hl [0, 1] rfl)
                                            · rw [if_neg q19] at h
                                              have nq1 : ¬ ((L 0)).toInt = 35 := nb_ti q1 rfl
                                              have nq2 : ¬ ((L 0)).toInt = 40 := nb_ti q2 rfl
                                              have nq3 : ¬ ((L 0)).toInt = 41 := nb_ti q3 rfl
                                              have nq4 : ¬ ((L 0)).toInt = 42 := nb_ti q4 rfl
                                              have nq5 : ¬ ((L 0)).toInt = 43 := nb_ti q5 rfl
                                              have nq6 : ¬ ((L 0)).toInt = 44 := nb_ti q6 rfl
                                              have nq7 : ¬ ((L 0)).toInt = 45 := nb_ti q7 rfl
                                              have nq8 : ¬ ((L 0)).toInt = 46 := nb_ti q8 rfl
                                              have nq9 : ¬ ((L 0)).toInt = 47 := nb_ti q9 rfl
                                              have nq10 : ¬ ((L 0)).toInt = 58 := nb_ti q10 rfl
                                              have nq11 : ¬ ((L 0)).toInt = 59 := nb_ti q11 rfl
                                              have nq12 : ¬ ((L 0)).toInt = 60 := nb_ti q12 rfl
                                              have nq13 : ¬ ((L 0)).toInt = 61 := nb_ti q13 rfl
                                              have nq14 : ¬ ((L 0)).toInt = 62 := nb_ti q14 rfl
                                              have nq15 : ¬ ((L 0)).toInt = 91 := nb_ti q15 rfl
                                              have nq16 : ¬ ((L 0)).toInt = 93 := nb_ti q16 rfl
                                              have nq17 : ¬ ((L 0)).toInt = 123 := nb_ti q17 rfl
                                              have nq18 : ¬ ((L 0)).toInt = 124 := nb_ti q18 rfl
                                              have nq19 : ¬ ((L 0)).toInt = 125 := nb_ti q19 rfl
                                              refine lv_lookup (off := 280) (tgt := 281) hx hb dX12_sign_1 (by decide) (nb_lk (by simp only [List.forall_mem_cons]; exact ⟨nq1, nq2, nq3, nq4, nq5, nq6, nq7, nq8, nq9, nq10, nq11, nq12, nq13, nq14, nq15, nq16, nq17, nq18, nq19, fun _ h => absurd h List.not_mem_nil⟩)) (by decide) ?_
                                              exact ih.2.2.2.2.2.2.2.2.2.2.2.2.2.2.2.2.2.2.2.2.2.2.2.2.2.2.2.2.2.2.2.2 L σ r h H locs ls hP hD hS (lv_sub hl [0, 1] rfl)
      · intro L σ r h H locs ls hP hD hS hl
        rw [x_sign] at h
        refine lv_iload_n hx hb dX12_sign_164 rfl (lv_at hl 1 rfl) ?_
        refine lv_bipush (v := 61) hx hb dX12_sign_165 (by decide) ?_
        refine lv_icmp_ne (tgt := 174) hx hb dX12_sign_167 (by decide) (fun c1 => ?_) (fun c1 => ?_)
        · rw [if_neg c1] at h
          exact ih.2.2.1 L σ r h H locs ls hP hD hS (lv_sub hl [0, 1] rfl)
        · rw [if_pos c1] at h
          refine lv_iconst (v := 1) hx hb dX12_sign_170 (by decide) ?_
          refine lv_goto (tgt := 176) hx hb dX12_sign_171 (by decide) ?_
          exact ih.2.2.2.1 (upd L 100 1) σ r h H locs ls hP hD hS (lv_sub hl [0, 1] rfl)
      · intro L σ r h H locs ls hP hD hS hl
        rw [x_sign] at h
        refine lv_bipush (v := 14) hx hb dX12_sign_174 (by decide) ?_
        exact ih.2.2.2.1 (upd L 100 14) σ r h H locs ls hP hD hS (lv_sub hl [0, 1] rfl)
      · intro L σ r h H locs ls hP hD hS hl
        rw [x_sign] at h
        cases h
        exact W.iret (v := (L 100)) hx hb hr (fun t ht hW => ⟨⟨(L 100), (), rfl, rfl, by rw [ht]; exact hP, va_K.moved hW.alike hK, hD⟩, hS.F ht⟩) hS.2.2 dX12_sign_176
      · intro L σ r h H locs ls hP hD hS hl
        rw [x_sign] at h
        refine lv_iconst (v := 2) hx hb dX12_sign_177 (by decide) ?_
        cases h
        exact W.iret (v := 2) hx hb hr (fun t ht hW => ⟨⟨2, (), rfl, rfl, by rw [ht]; exact hP, va_K.moved hW.alike hK, hD⟩, hS.F ht⟩) hS.2.2 dX12_sign_178
      · intro L σ r h H locs ls hP hD hS hl
        rw [x_sign] at h
        refine lv_iconst (v := 3) hx hb dX12_sign_179 (by decide) ?_
        cases h
        exact W.iret (v := 3) hx hb hr (fun t ht hW => ⟨⟨3, (), rfl, rfl, by rw [ht]; exact hP, va_K.moved hW.alike hK, hD⟩, hS.F ht⟩) hS.2.2 dX12_sign_180
      · intro L σ r h H locs ls hP hD hS hl
        rw [x_sign] at h
        refine lv_iload_n hx hb dX12_sign_181 rfl (lv_at hl 1 rfl) ?_
        refine lv_bipush (v := 42) hx hb dX12_sign_182 (by decide) ?_
        refine lv_icmp_ne (tgt := 191) hx hb dX12_sign_184 (by decide) (fun c1 => ?_) (fun c1 => ?_)
        · rw [if_neg c1] at h
          exact ih.2.2.2.2.2.2.2.1 L σ r h H locs ls hP hD hS (lv_sub hl [0, 1] rfl)
        · rw [if_pos c1] at h
          refine lv_iconst (v := 5) hx hb dX12_sign_187 (by decide) ?_
          refine lv_goto (tgt := 192) hx hb dX12_sign_188 (by decide) ?_
          exact ih.2.2.2.2.2.2.2.2.1 (upd L 100 5) σ r h H locs ls hP hD hS (lv_sub hl [0, 1] rfl)
      · intro L σ r h H locs ls hP hD hS hl
        rw [x_sign] at h
        refine lv_iconst (v := 4) hx hb dX12_sign_191 (by decide) ?_
        exact ih.2.2.2.2.2.2.2.2.1 (upd L 100 4) σ r h H locs ls hP hD hS (lv_sub hl [0, 1] rfl)
      · intro L σ r h H locs ls hP hD hS hl
        rw [x_sign] at h
        cases h
        exact W.iret (v := (L 100)) hx hb hr (fun t ht hW => ⟨⟨(L 100), (), rfl, rfl, by rw [ht]; exact hP, va_K.moved hW.alike hK, hD⟩, hS.F ht⟩) hS.2.2 dX12_sign_192
      · intro L σ r h H locs ls hP hD hS hl
        rw [x_sign] at h
        refine lv_bipush (v := 6) hx hb dX12_sign_193 (by decide) ?_
        cases h
        exact W.iret (v := 6) hx hb hr (fun t ht hW => ⟨⟨6, (), rfl, rfl, by rw [ht]; exact hP, va_K.moved hW.alike hK, hD⟩, hS.F ht⟩) hS.2.2 dX12_sign_195
      · intro L σ r h H locs ls hP hD hS hl
        rw [x_sign] at h
        refine lv_bipush (v := 7) hx hb dX12_sign_196 (by decide) ?_
        cases h
        exact W.iret (v := 7) hx hb hr (fun t ht hW => ⟨⟨7, (), rfl, rfl, by rw [ht]; exact hP, va_K.moved hW.alike hK, hD⟩, hS.F ht⟩) hS.2.2 dX12_sign_198
      · intro L σ r h H locs ls hP hD hS hl
        rw [x_sign] at h
        refine lv_bipush (v := 8) hx hb dX12_sign_199 (by decide) ?_
        cases h
        exact W.iret (v := 8) hx hb hr (fun t ht hW => ⟨⟨8, (), rfl, rfl, by rw [ht]; exact hP, va_K.moved hW.alike hK, hD⟩, hS.F ht⟩) hS.2.2 dX12_sign_201
      · intro L σ r h H locs ls hP hD hS hl
        rw [x_sign] at h
        refine lv_bipush (v := 9) hx hb dX12_sign_202 (by decide) ?_
        cases h
        exact W.iret (v := 9) hx hb hr (fun t ht hW => ⟨⟨9, (), rfl, rfl, by rw [ht]; exact hP, va_K.moved hW.alike hK, hD⟩, hS.F ht⟩) hS.2.2 dX12_sign_204
      · intro L σ r h H locs ls hP hD hS hl
        rw [x_sign] at h
        refine lv_bipush (v := 10) hx hb dX12_sign_205 (by decide) ?_
        cases h
        exact W.iret (v := 10) hx hb hr (fun t ht hW => ⟨⟨10, (), rfl, rfl, by rw [ht]; exact hP, va_K.moved hW.alike hK, hD⟩, hS.F ht⟩) hS.2.2 dX12_sign_207
      · intro L σ r h H locs ls hP hD hS hl
        rw [x_sign] at h
        refine lv_bipush (v := 11) hx hb dX12_sign_208 (by decide) ?_
        cases h
        exact W.iret (v := 11) hx hb hr (fun t ht hW => ⟨⟨11, (), rfl, rfl, by rw [ht]; exact hP, va_K.moved hW.alike hK, hD⟩, hS.F ht⟩) hS.2.2 dX12_sign_210
      · intro L σ r h H locs ls hP hD hS hl
        rw [x_sign] at h
        refine lv_bipush (v := 12) hx hb dX12_sign_211 (by decide) ?_
        cases h
        exact W.iret (v := 12) hx hb hr (fun t ht hW => ⟨⟨12, (), rfl, rfl, by rw [ht]; exact hP, va_K.moved hW.alike hK, hD⟩, hS.F ht⟩) hS.2.2 dX12_sign_213
      · intro L σ r h H locs ls hP hD hS hl
        rw [x_sign] at h
        refine lv_bipush (v := 13) hx hb dX12_sign_214 (by decide) ?_
        cases h
        exact W.iret (v := 13) hx hb hr (fun t ht hW => ⟨⟨13, (), rfl, rfl, by rw [ht]; exact hP, va_K.moved hW.alike hK, hD⟩, hS.F ht⟩) hS.2.2 dX12_sign_216
      · intro L σ r h H locs ls hP hD hS hl
        rw [x_sign] at h
        refine lv_bipush (v := 15) hx hb dX12_sign_217 (by decide) ?_
        cases h
        exact W.iret (v := 15) hx hb hr (fun t ht hW => ⟨⟨15, (), rfl, rfl, by rw [ht]; exact hP, va_K.moved hW.alike hK, hD⟩, hS.F ht⟩) hS.2.2 dX12_sign_219
      · intro L σ r h H locs ls hP hD hS hl
        rw [x_sign] at h
        refine lv_iload_n hx hb dX12_sign_220 rfl (lv_at hl 1 rfl) ?_
        refine lv_bipush (v := 46) hx hb dX12_sign_221 (by decide) ?_
        refine lv_icmp_ne (tgt := 231) hx hb dX12_sign_223 (by decide) (fun c1 => ?_) (fun c1 => ?_)
        · rw [if_neg c1] at h
          exact ih.2.2.2.2.2.2.2.2.2.2.2.2.2.2.2.2.2.2.2.1 L σ r h H locs ls hP hD hS (lv_sub hl [0, 1] rfl)
        · rw [if_pos c1] at h
          refine lv_bipush (v := 16) hx hb dX12_sign_226 (by decide) ?_
          refine lv_goto (tgt := 232) hx hb dX12_sign_228 (by decide) ?_
          exact ih.2.2.2.2.2.2.2.2.2.2.2.2.2.2.2.2.2.2.2.2.1 (upd L 100 16) σ r h H locs ls hP hD hS (lv_sub hl [0, 1] rfl)
      · intro L σ r h H locs ls hP hD hS hl
        rw [x_sign] at h
        refine lv_iconst (v := 0) hx hb dX12_sign_231 (by decide) ?_
        exact ih.2.2.2.2.2.2.2.2.2.2.2.2.2.2.2.2.2.2.2.2.1 (upd L 100 0) σ r h H locs ls hP hD hS (lv_sub hl [0, 1] rfl)
      · intro L σ r h H locs ls hP hD hS hl
        rw [x_sign] at h
        cases h
        exact W.iret (v := (L 100)) hx hb hr (fun t ht hW => ⟨⟨(L 100), (), rfl, rfl, by rw [ht]; exact hP, va_K.moved hW.alike hK, hD⟩, hS.F ht⟩) hS.2.2 dX12_sign_232
      · intro L σ r h H locs ls hP hD hS hl
        rw [x_sign] at h
        refine lv_bipush (v := 17) hx hb dX12_sign_233 (by decide) ?_
        cases h
        exact W.iret (v := 17) hx hb hr (fun t ht hW => ⟨⟨17, (), rfl, rfl, by rw [ht]; exact hP, va_K.moved hW.alike hK, hD⟩, hS.F ht⟩) hS.2.2 dX12_sign_235
      · intro L σ r h H locs ls hP hD hS hl
        rw [x_sign] at h
        refine lv_iload_n hx hb dX12_sign_236 rfl (lv_at hl 1 rfl) ?_
        refine lv_bipush (v := 61) hx hb dX12_sign_237 (by decide) ?_
        refine lv_icmp_ne (tgt := 247) hx hb dX12_sign_239 (by decide) (fun c1 => ?_) (fun c1 => ?_)
        · rw [if_neg c1] at h
          exact ih.2.2.2.2.2.2.2.2.2.2.2.2.2.2.2.2.2.2.2.2.2.2.2.1 L σ r h H locs ls hP hD hS (lv_sub hl [0, 1] rfl)
        · rw [if_pos c1] at h
          refine lv_bipush (v := 18) hx hb dX12_sign_242 (by decide) ?_
          refine lv_goto (tgt := 249) hx hb dX12_sign_244 (by decide) ?_
          exact ih.2.2.2.2.2.2.2.2.2.2.2.2.2.2.2.2.2.2.2.2.2.2.2.2.1 (upd L 100 18) σ r h H locs ls hP hD hS (lv_sub hl [0, 1] rfl)
      · intro L σ r h H locs ls hP hD hS hl
        rw [x_sign] at h
        refine lv_bipush (v := 24) hx hb dX12_sign_247 (by decide) ?_
        exact ih.2.2.2.2.2.2.2.2.2.2.2.2.2.2.2.2.2.2.2.2.2.2.2.2.1 (upd L 100 24) σ r h H locs ls hP hD hS (lv_sub hl [0, 1] rfl)
      · intro L σ r h H locs ls hP hD hS hl
        rw [x_sign] at h
        cases h
        exact W.iret (v := (L 100)) hx hb hr (fun t ht hW => ⟨⟨(L 100), (), rfl, rfl, by rw [ht]; exact hP, va_K.moved hW.alike hK, hD⟩, hS.F ht⟩) hS.2.2 dX12_sign_249
      · intro L σ r h H locs ls hP hD hS hl
        rw [x_sign] at h
        refine lv_iload_n hx hb dX12_sign_250 rfl (lv_at hl 1 rfl) ?_
        refine lv_bipush (v := 61) hx hb dX12_sign_251 (by decide) ?_
        refine lv_icmp_ne (tgt := 261) hx hb dX12_sign_253 (by decide) (fun c1 => ?_) (fun c1 => ?_)
        · rw [if_neg c1] at h
          exact ih.2.2.2.2.2.2.2.2.2.2.2.2.2.2.2.2.2.2.2.2.2.2.2.2.2.2.1 L σ r h H locs ls hP hD hS (lv_sub hl [0, 1] rfl)
        · rw [if_pos c1] at h
          refine lv_bipush (v := 20) hx hb dX12_sign_256 (by decide) ?_
          refine lv_goto (tgt := 263) hx hb dX12_sign_258 (by decide) ?_
          exact ih.2.2.2.2.2.2.2.2.2.2.2.2.2.2.2.2.2.2.2.2.2.2.2.2.2.2.2.1 (upd L 100 20) σ r h H locs ls hP hD hS (lv_sub hl [0, 1] rfl)
      · intro L σ r h H locs ls hP hD hS hl
        rw [x_sign] at h
        refine lv_bipush (v := 19) hx hb dX12_sign_261 (by decide) ?_
        exact ih.2.2.2.2.2.2.2.2.2.2.2.2.2.2.2.2.2.2.2.2.2.2.2.2.2.2.2.1 (upd L 100 19) σ r h H locs ls hP hD hS (lv_sub hl [0, 1] rfl)
      · intro L σ r h H locs ls hP hD hS hl
        rw [x_sign] at h
        cases h
        exact W.iret (v := (L 100)) hx hb hr (fun t ht hW => ⟨⟨(L 100), (), rfl, rfl, by rw [ht]; exact hP, va_K.moved hW.alike hK, hD⟩, hS.F ht⟩) hS.2.2 dX12_sign_263
      · intro L σ r h H locs ls hP hD hS hl
        rw [x_sign] at h
        refine lv_iload_n hx hb dX12_sign_264 rfl (lv_at hl 1 rfl) ?_
        refine lv_bipush (v := 61) hx hb dX12_sign_265 (by decide) ?_
        refine lv_icmp_ne (tgt := 275) hx hb dX12_sign_267 (by decide) (fun c1 => ?_) (fun c1 => ?_)
        · rw [if_neg c1] at h
          exact ih.2.2.2.2.2.2.2.2.2.2.2.2.2.2.2.2.2.2.2.2.2.2.2.2.2.2.2.2.2.1 L σ r h H locs ls hP hD hS (lv_sub hl [0, 1] rfl)
        · rw [if_pos c1] at h
          refine lv_bipush (v := 22) hx hb dX12_sign_270 (by decide) ?_
          refine lv_goto (tgt := 277) hx hb dX12_sign_272 (by decide) ?_
          exact ih.2.2.2.2.2.2.2.2.2.2.2.2.2.2.2.2.2.2.2.2.2.2.2.2.2.2.2.2.2.2.1 (upd L 100 22) σ r h H locs ls hP hD hS (lv_sub hl [0, 1] rfl)
      · intro L σ r h H locs ls hP hD hS hl
        rw [x_sign] at h
        refine lv_bipush (v := 21) hx hb dX12_sign_275 (by decide) ?_
        exact ih.2.2.2.2.2.2.2.2.2.2.2.2.2.2.2.2.2.2.2.2.2.2.2.2.2.2.2.2.2.2.1 (upd L 100 21) σ r h H locs ls hP hD hS (lv_sub hl [0, 1] rfl)
      · intro L σ r h H locs ls hP hD hS hl
        rw [x_sign] at h
        cases h
        exact W.iret (v := (L 100)) hx hb hr (fun t ht hW => ⟨⟨(L 100), (), rfl, rfl, by rw [ht]; exact hP, va_K.moved hW.alike hK, hD⟩, hS.F ht⟩) hS.2.2 dX12_sign_277
      · intro L σ r h H locs ls hP hD hS hl
        rw [x_sign] at h
        refine lv_bipush (v := 23) hx hb dX12_sign_278 (by decide) ?_
        cases h
        exact W.iret (v := 23) hx hb hr (fun t ht hW => ⟨⟨23, (), rfl, rfl, by rw [ht]; exact hP, va_K.moved hW.alike hK, hD⟩, hS.F ht⟩) hS.2.2 dX12_sign_280
      · intro L σ r h H locs ls hP hD hS hl
        rw [x_sign] at h
        refine lv_iconst (v := 0) hx hb dX12_sign_281 (by decide) ?_
        cases h
        exact W.iret (v := 0) hx hb hr (fun t ht hW => ⟨⟨0, (), rfl, rfl, by rw [ht]; exact hP, va_K.moved hW.alike hK, hD⟩, hS.F ht⟩) hS.2.2 dX12_sign_282
  exact (blk k0).1 L0 σ0 r0 h0 s.heap [] ls hP hD hS hl
/-! wordAt -/
def x_wordAt : Nat → Nat → (Nat → Int32) → MS → Option (Int32 × MS)
  | 0, _, _, _ => none
  | k + 1, 0, L, σ => x_wordAt k 1 (upd (upd L 3 0) 4 0) σ
  | k + 1, 1, L, σ => if 264 ≤ ((L 4)) then (x_wordAt k 6 L σ) else (x_wordAt k 2 (upd (upd L 5 ((L 1))) 6 ((L 4))) σ)
  | k + 1, 2, L, σ => if ((L 2)) ≤ ((L 5)) then (x_wordAt k 3 L σ) else (if ¬ (((L 6)) < 0 ∨ 264 ≤ ((L 6)).toNatClampNeg) then (if ¬ (((L 5)) < 0 ∨ 32768 ≤ ((L 5)).toNatClampNeg) then (if ((σ.2.2 1 ((L 6)).toNatClampNeg)) = ((σ.2.2 3 ((L 5)).toNatClampNeg)) then (x_wordAt k 2 (upd (upd L 5 (((L 5)) + 1)) 6 (((L 6)) + 1)) σ) else (x_wordAt k 3 L σ)) else none) else none)
  | k + 1, 3, L, σ => if ((L 5)) = ((L 2)) then (if ¬ (((L 6)) < 0 ∨ 264 ≤ ((L 6)).toNatClampNeg) then (if ((σ.2.2 1 ((L 6)).toNatClampNeg)) = 32 then (some ((L 3), σ)) else (x_wordAt k 4 L σ)) else none) else (x_wordAt k 4 L σ)
  | k + 1, 4, L, σ => if ¬ (((L 4)) < 0 ∨ 264 ≤ ((L 4)).toNatClampNeg) then (if ((σ.2.2 1 ((L 4)).toNatClampNeg)) = 32 then (x_wordAt k 5 L σ) else (x_wordAt k 4 (upd L 4 (((L 4)) + 1)) σ)) else none
  | k + 1, 5, L, σ => x_wordAt k 1 (upd (upd L 4 (((L 4)) + 1)) 3 (((L 3)) + 1)) σ
  | k + 1, 6, L, σ => some ((-1), σ)
  | _ + 1, _ + 7, _, _ => none
def o_x_wordAt : List Cond := [.fieldLink RX12 62 "SetHouseModel" "words" "[I", .fieldLink RX12 7 "SetHouseModel" "tape" "[I"]
theorem o_x_wordAt_good : o_x_wordAt.all goodWord = true := by decide +kernel
def p_x_wordAt : List Cond := o_x_wordAt ++ []
theorem p_x_wordAt_good : p_x_wordAt.all goodWord = true := nb_all2 o_x_wordAt_good rfl
def w_x_wordAt : List Cond := .code yX12_wordAt cX12_wordAt 7 (some .int) :: (p_x_wordAt ++ fM)
theorem w_x_wordAt_good : w_x_wordAt.all goodWord = true := nb_allc (by decide +kernel) (nb_all2 p_x_wordAt_good fM_good)
theorem in_x_wordAt : ∀ w ∈ wsX120, w ∈ w_x_wordAt := fun _ h => List.mem_cons_of_mem _ (List.mem_append_right _ h)
theorem hd_x_wordAt : yX12_wordAt.cls = RX12 ∧ yX12_wordAt.cls ≠ "java/lang/invoke/MethodHandle" ∧ yX12_wordAt.cls ≠ "java/lang/invoke/VarHandle" ∧ (parseMethodDescriptor yX12_wordAt.desc).map (fun d => d.parameters.length) = some 2 := by decide +kernel
set_option maxHeartbeats 40000000 in
set_option maxRecDepth 100000 in
theorem c_x_wordAt (l : Launch) (dC : Nat → ClassId) (dI : Nat → Nat → Nat) (cy : Nat → ClassId) (a : Nat → Nat) (k0 : Nat) (L0 : Nat → Int32) (σ0 : MS) (r0 : Int32 × MS) (h0 : x_wordAt k0 0 L0 σ0 = some r0) (sz : Nat) : Met l yX12_wordAt w_x_wordAt ({ frames := 0, cells := 0, slots := 0, locals := 0 }) (va_Pc [.ref (a 0), .int (L0 1), .int (L0 2)] (nIn (dC, dI) cy sz (vM cy a σ0))) (va_Qi (fun (z : Int32) (_ : Unit) => z = r0.1) (fun _ t => nOut (dC, dI) cy (va_A (vM cy a σ0) sz) (vM cy a r0.2) t) (va_A (vM cy a σ0) sz)) 0 0 (va_A (vM cy a σ0) sz) := by
  refine Met.ofW (cc := cX12_wordAt) (maxL := 7) (ret := (some .int)) (by decide) rfl ?_
  intro p e s m args below meth c s₁ B hml hv
  obtain ⟨rfl, hsz, hP, hK, hD0, hG⟩ := hv
  have hx := B.exec
  have hb := B.bytes
  have hr := B.returns
  have hts := atoms_spec (ws := w_x_wordAt) B.pre
  have hown : s.vm.findClass RX12 = some m.cls := findClass_of_methodNamed B.named
  have hlocks := B.notSynchronized
  subst hsz
  have hD := hD0.self (sz := s.heap.size)
  generalize hAe : va_A (vM cy a σ0) s.heap.size = A at hD ⊢
  have hA : ∀ q : Nat, s.heap.size ≤ q → A q := fun q h => by rw [← hAe]; exact Or.inr h
  have hS : va_S A s.heap s.heap [] := va_S.rf
  have hl := lv_entry ([.ref (a 0), .int (L0 1), .int (L0 2)]) (n := 7) (Nat.le_of_ble_eq_true rfl)
  rw [lg_entry_eq]
  generalize (lg_sl ([.ref (a 0), .int (L0 1), .int (L0 2)]) ++ List.replicate (7 - (lg_sl ([.ref (a 0), .int (L0 1), .int (L0 2)])).length) Slot.unset).toArray = ls at hl ⊢
  have hl : lv_has ls 7 [(0, .ref (a 0)), (1, .int (L0 1)), (2, .int (L0 2))] := hl
  have blk : ∀ k : Nat, (bT p l e (headSpec w_x_wordAt ({ frames := 0, cells := 0, slots := 0, locals := 0 })).room s m #[.ref (a 0), .int (L0 1), .int (L0 2)] below meth c dC dI cy a A (qI dC dI cy a A below #[.ref (a 0), .int (L0 1), .int (L0 2)] s) 7 (x_wordAt k 0) (fun L => [(0, .ref (a 0)), (1, .int (L 1)), (2, .int (L 2))]) 0 (fun L => [])) ∧ (bT p l e (headSpec w_x_wordAt ({ frames := 0, cells := 0, slots := 0, locals := 0 })).room s m #[.ref (a 0), .int (L0 1), .int (L0 2)] below meth c dC dI cy a A (qI dC dI cy a A below #[.ref (a 0), .int (L0 1), .int (L0 2)] s) 7 (x_wordAt k 1) (fun L => [(0, .ref (a 0)), (1, .int (L 1)), (2, .int (L 2)), (3, .int (L 3)), (4, .int (L 4))]) 5 (fun L => [])) ∧ (bT p l e (headSpec w_x_wordAt ({ frames := 0, cells := 0, slots := 0, locals := 0 })).room s m #[.ref (a 0), .int (L0 1), .int (L0 2)] below meth c dC dI cy a A (qI dC dI cy a A below #[.ref (a 0), .int (L0 1), .int (L0 2)] s) 7 (x_wordAt k 2) (fun L => [(0, .ref (a 0)), (1, .int (L 1)), (2, .int (L 2)), (3, .int (L 3)), (4, .int (L 4)), (5, .int (L 5)), (6, .int (L 6))]) 22 (fun L => [])) ∧ (bT p l e (headSpec w_x_wordAt ({ frames := 0, cells := 0, slots := 0, locals := 0 })).room s m #[.ref (a 0), .int (L0 1), .int (L0 2)] below meth c dC dI cy a A (qI dC dI cy a A below #[.ref (a 0), .int (L0 1), .int (L0 2)] s) 7 (x_wordAt k 3) (fun L => [(0, .ref (a 0)), (1, .int (L 1)), (2, .int (L 2)), (3, .int (L 3)), (4, .int (L 4)), (5, .int (L 5)), (6, .int (L 6))]) 54 (fun L => [])) ∧ (bT p l e (headSpec w_x_wordAt ({ frames := 0, cells := 0, slots := 0, locals := 0 })).room s m #[.ref (a 0), .int (L0 1), .int (L0 2)] below meth c dC dI cy a A (qI dC dI cy a A below #[.ref (a 0), .int (L0 1), .int (L0 2)] s) 7 (x_wordAt k 4) (fun L => [(0, .ref (a 0)), (1, .int (L 1)), (2, .int (L 2)), (3, .int (L 3)), (4, .int (L 4)), (5, .int (L 5)), (6, .int (L 6))]) 74 (fun L => [])) ∧ (bT p l e (headSpec w_x_wordAt ({ frames := 0, cells := 0, slots := 0, locals := 0 })).room s m #[.ref (a 0), .int (L0 1), .int (L0 2)] below meth c dC dI cy a A (qI dC dI cy a A below #[.ref (a 0), .int (L0 1), .int (L0 2)] s) 7 (x_wordAt k 5) (fun L => [(0, .ref (a 0)), (1, .int (L 1)), (2, .int (L 2)), (3, .int (L 3)), (4, .int (L 4)), (5, .int (L 5)), (6, .int (L 6))]) 92 (fun L => [])) ∧ (bT p l e (headSpec w_x_wordAt ({ frames := 0, cells := 0, slots := 0, locals := 0 })).room s m #[.ref (a 0), .int (L0 1), .int (L0 2)] below meth c dC dI cy a A (qI dC dI cy a A below #[.ref (a 0), .int (L0 1), .int (L0 2)] s) 7 (x_wordAt k 6) (fun L => [(0, .ref (a 0)), (1, .int (L 1)), (2, .int (L 2)), (3, .int (L 3)), (4, .int (L 4))]) 101 (fun L => [])) := by
    intro k
    induction k with
    | zero => exact ⟨fun L σ r h => (by cases h), fun L σ r h => (by cases h), fun L σ r h => (by cases h), fun L σ r h => (by cases h), fun L σ r h => (by cases h), fun L σ r h => (by cases h), fun L σ r h => (by cases h)⟩
    | succ k ih =>
      refine ⟨?_, ?_, ?_, ?_, ?_, ?_, ?_⟩
      · intro L σ r h H locs ls hP hD hS hl
        rw [x_wordAt] at h
        refine lv_iconst (v := 0) hx hb dX12_wordAt_0 (by decide) ?_
        refine lv_istore_n (lv' := [(3, .int 0), (0, .ref (a 0)), (1, .int (L 1)), (2, .int (L 2))]) hx hb dX12_wordAt_1 rfl hl (by decide) rfl (fun ls hl => ?_)
        refine lv_iconst (v := 0) hx hb dX12_wordAt_2 (by decide) ?_
        refine lv_istore (lv' := [(4, .int 0), (3, .int 0), (0, .ref (a 0)), (1, .int (L 1)), (2, .int (L 2))]) hx hb dX12_wordAt_3 hl (by decide) rfl (fun ls hl => ?_)
        exact ih.2.1 (upd (upd L 3 0) 4 0) σ r h H locs ls hP hD hS (lv_sub hl [2, 3, 4, 1, 0] rfl)
      · intro L σ r h H locs ls hP hD hS hl
        rw [x_wordAt] at h
        refine lv_iload hx hb dX12_wordAt_5 (lv_at hl 4 rfl) ?_
        refine lv_aload_n hx hb dX12_wordAt_7 rfl (lv_at hl 0 rfl) ?_
        refine ng_0 hx hb hts in_x_wordAt hown hK hP (hts _ (List.mem_cons_of_mem _ (List.mem_append_left _ (List.mem_append_left _ (List.mem_of_getElem? (i := 0) rfl))))) dX12_wordAt_8 ?_
        refine va_alen hx hb hK hP 1 1 rfl rfl (v := 264) rfl dX12_wordAt_11 ?_
        refine lv_icmp_ge (tgt := 101) hx hb dX12_wordAt_12 (by decide) (fun c1 => ?_) (fun c1 => ?_)
        · rw [if_pos c1] at h
          exact ih.2.2.2.2.2.2 L σ r h H locs ls hP hD hS (lv_sub hl [0, 1, 2, 3, 4] rfl)
        · rw [if_neg c1] at h
          refine lv_iload_n hx hb dX12_wordAt_15 rfl (lv_at hl 1 rfl) ?_
          refine lv_istore (lv' := [(5, .int (L 1)), (0, .ref (a 0)), (1, .int (L 1)), (2, .int (L 2)), (3, .int (L 3)), (4, .int (L 4))]) hx hb dX12_wordAt_16 hl (by decide) rfl (fun ls hl => ?_)
          refine lv_iload hx hb dX12_wordAt_18 (lv_at hl 5 rfl) ?_
          refine lv_istore (lv' := [(6, .int (L 4)), (5, .int (L 1)), (0, .ref (a 0)), (1, .int (L 1)), (2, .int (L 2)), (3, .int (L 3)), (4, .int (L 4))]) hx hb dX12_wordAt_20 hl (by decide) rfl (fun ls hl => ?_)
          exact ih.2.2.1 (upd (upd L 5 ((L 1))) 6 ((L 4))) σ r h H locs ls hP hD hS (lv_sub hl [2, 3, 4, 5, 6, 1, 0] rfl)
      · intro L σ r h H locs ls hP hD hS hl
        rw [x_wordAt] at h
        refine lv_iload hx hb dX12_wordAt_22 (lv_at hl 5 rfl) ?_
        refine lv_iload_n hx hb dX12_wordAt_24 rfl (lv_at hl 2 rfl) ?_
        refine lv_icmp_ge (tgt := 54) hx hb dX12_wordAt_25 (by decide) (fun c1 => ?_) (fun c1 => ?_)
        · rw [if_pos c1] at h
          exact ih.2.2.2.1 L σ r h H locs ls hP hD hS (lv_sub hl [0, 1, 2, 3, 4, 5, 6] rfl)
        · rw [if_neg c1] at h
          refine lv_aload_n hx hb dX12_wordAt_28 rfl (lv_at hl 0 rfl) ?_
          refine ng_0 hx hb hts in_x_wordAt hown hK hP (hts _ (List.mem_cons_of_mem _ (List.mem_append_left _ (List.mem_append_left _ (List.mem_of_getElem? (i := 0) rfl))))) dX12_wordAt_29 ?_
          refine lv_iload hx hb dX12_wordAt_32 (lv_at hl 6 rfl) ?_
          obtain ⟨q2, h⟩ := nb_ite1 h
          refine nl_1 hx hb hK hP q2 dX12_wordAt_34 ?_
          refine lv_aload_n hx hb dX12_wordAt_35 rfl (lv_at hl 0 rfl) ?_
          refine ng_3 hx hb hts in_x_wordAt hown hK hP (hts _ (List.mem_cons_of_mem _ (List.mem_append_left _ (List.mem_append_left _ (List.mem_of_getElem? (i := 1) rfl))))) dX12_wordAt_36 ?_
          refine lv_iload hx hb dX12_wordAt_39 (lv_at hl 5 rfl) ?_
          obtain ⟨q3, h⟩ := nb_ite1 h
          refine nl_3 hx hb hK hP q3 dX12_wordAt_41 ?_
          refine lv_icmp_ne (tgt := 54) hx hb dX12_wordAt_42 (by decide) (fun c4 => ?_) (fun c4 => ?_)
          · rw [if_neg c4] at h
            exact ih.2.2.2.1 L σ r h H locs ls hP hD hS (lv_sub hl [0, 1, 2, 3, 4, 5, 6] rfl)
          · rw [if_pos c4] at h
            refine lv_iinc (v := ((L 5)) + 1) (lv' := [(5, .int (((L 5)) + 1)), (0, .ref (a 0)), (1, .int (L 1)), (2, .int (L 2)), (3, .int (L 3)), (4, .int (L 4)), (6, .int (L 6))]) hx hb dX12_wordAt_45 hl (k := 5) rfl rfl (by decide) rfl (fun ls hl => ?_)
            refine lv_iinc (v := ((L 6)) + 1) (lv' := [(6, .int (((L 6)) + 1)), (5, .int (((L 5)) + 1)), (0, .ref (a 0)), (1, .int (L 1)), (2, .int (L 2)), (3, .int (L 3)), (4, .int (L 4))]) hx hb dX12_wordAt_48 hl (k := 6) rfl rfl (by decide) rfl (fun ls hl => ?_)
            refine lv_goto (tgt := 22) hx hb dX12_wordAt_51 (by decide) ?_
            exact ih.2.2.1 (upd (upd L 5 (((L 5)) + 1)) 6 (((L 6)) + 1)) σ r h H locs ls hP hD hS (lv_sub hl [2, 3, 4, 5, 6, 1, 0] rfl)
      · intro L σ r h H locs ls hP hD hS hl
        rw [x_wordAt] at h
        refine lv_iload hx hb dX12_wordAt_54 (lv_at hl 5 rfl) ?_
        refine lv_iload_n hx hb dX12_wordAt_56 rfl (lv_at hl 2 rfl) ?_
        refine lv_icmp_ne (tgt := 74) hx hb dX12_wordAt_57 (by decide) (fun c1 => ?_) (fun c1 => ?_)
        · rw [if_neg c1] at h
          exact ih.2.2.2.2.1 L σ r h H locs ls hP hD hS (lv_sub hl [0, 1, 2, 3, 4, 5, 6] rfl)
        · rw [if_pos c1] at h
          refine lv_aload_n hx hb dX12_wordAt_60 rfl (lv_at hl 0 rfl) ?_
          refine ng_0 hx hb hts in_x_wordAt hown hK hP (hts _ (List.mem_cons_of_mem _ (List.mem_append_left _ (List.mem_append_left _ (List.mem_of_getElem? (i := 0) rfl))))) dX12_wordAt_61 ?_
          refine lv_iload hx hb dX12_wordAt_64 (lv_at hl 6 rfl) ?_
          obtain ⟨q2, h⟩ := nb_ite1 h
          refine nl_1 hx hb hK hP q2 dX12_wordAt_66 ?_
          refine lv_bipush (v := 32) hx hb dX12_wordAt_67 (by decide) ?_
          refine lv_icmp_ne (tgt := 74) hx hb dX12_wordAt_69 (by decide) (fun c3 => ?_) (fun c3 => ?_)
          · rw [if_neg c3] at h
            exact ih.2.2.2.2.1 L σ r h H locs ls hP hD hS (lv_sub hl [0, 1, 2, 3, 4, 5, 6] rfl)
          · rw [if_pos c3] at h
            refine lv_iload_n hx hb dX12_wordAt_72 rfl (lv_at hl 3 rfl) ?_
            cases h
            exact W.iret (v := (L 3)) hx hb hr (fun t ht hW => ⟨⟨(L 3), (), rfl, rfl, by rw [ht]; exact hP, va_K.moved hW.alike hK, hD⟩, hS.F ht⟩) hS.2.2 dX12_wordAt_73
      · intro L σ r h H locs ls hP hD hS hl
        rw [x_wordAt] at h
        refine lv_aload_n hx hb dX12_wordAt_74 rfl (lv_at hl 0 rfl) ?_
        refine ng_0 hx hb hts in_x_wordAt hown hK hP (hts _ (List.mem_cons_of_mem _ (List.mem_append_left _ (List.mem_append_left _ (List.mem_of_getElem? (i := 0) rfl))))) dX12_wordAt_75 ?_
        refine lv_iload hx hb dX12_wordAt_78 (lv_at hl 4 rfl) ?_
        obtain ⟨q1, h⟩ := nb_ite1 h
        refine nl_1 hx hb hK hP q1 dX12_wordAt_80 ?_
        refine lv_bipush (v := 32) hx hb dX12_wordAt_81 (by decide) ?_
        refine lv_icmp_eq (tgt := 92) hx hb dX12_wordAt_83 (by decide) (fun c2 => ?_) (fun c2 => ?_)
        · rw [if_pos c2] at h
          exact ih.2.2.2.2.2.1 L σ r h H locs ls hP hD hS (lv_sub hl [0, 1, 2, 3, 4, 5, 6] rfl)
        · rw [if_neg c2] at h
          refine lv_iinc (v := ((L 4)) + 1) (lv' := [(4, .int (((L 4)) + 1)), (0, .ref (a 0)), (1, .int (L 1)), (2, .int (L 2)), (3, .int (L 3)), (5, .int (L 5)), (6, .int (L 6))]) hx hb dX12_wordAt_86 hl (k := 4) rfl rfl (by decide) rfl (fun ls hl => ?_)
          refine lv_goto (tgt := 74) hx hb dX12_wordAt_89 (by decide) ?_
          exact ih.2.2.2.2.1 (upd L 4 (((L 4)) + 1)) σ r h H locs ls hP hD hS (lv_sub hl [1, 2, 3, 4, 0, 5, 6] rfl)
      · intro L σ r h H locs ls hP hD hS hl
        rw [x_wordAt] at h
        refine lv_iinc (v := ((L 4)) + 1) (lv' := [(4, .int (((L 4)) + 1)), (0, .ref (a 0)), (1, .int (L 1)), (2, .int (L 2)), (3, .int (L 3)), (5, .int (L 5)), (6, .int (L 6))]) hx hb dX12_wordAt_92 hl (k := 4) rfl rfl (by decide) rfl (fun ls hl => ?_)
        refine lv_iinc (v := ((L 3)) + 1) (lv' := [(3, .int (((L 3)) + 1)), (4, .int (((L 4)) + 1)), (0, .ref (a 0)), (1, .int (L 1)), (2, .int (L 2)), (5, .int (L 5)), (6, .int (L 6))]) hx hb dX12_wordAt_95 hl (k := 4) rfl rfl (by decide) rfl (fun ls hl => ?_)
        refine lv_goto (tgt := 5) hx hb dX12_wordAt_98 (by decide) ?_
        exact ih.2.1 (upd (upd L 4 (((L 4)) + 1)) 3 (((L 3)) + 1)) σ r h H locs ls hP hD hS (lv_sub hl [2, 3, 4, 0, 1] rfl)
      · intro L σ r h H locs ls hP hD hS hl
        rw [x_wordAt] at h
        refine lv_iconst (v := (-1)) hx hb dX12_wordAt_101 (by decide) ?_
        cases h
        exact W.iret (v := (-1)) hx hb hr (fun t ht hW => ⟨⟨(-1), (), rfl, rfl, by rw [ht]; exact hP, va_K.moved hW.alike hK, hD⟩, hS.F ht⟩) hS.2.2 dX12_wordAt_102
  exact (blk k0).1 L0 σ0 r0 h0 s.heap [] ls hP hD hS hl
/-! take -/
def x_take : Nat → Nat → (Nat → Int32) → MS → Option (Int32 × MS)
  | 0, _, _, _ => none
  | k + 1, 0, L, σ => ob (x_skip k 0 (fun _ => 0) σ) (fun r1 => x_take k 1 L (upd r1.2.1 8 ((r1.2.1 5)), r1.2.2.1, r1.2.2.2))
  | k + 1, 1, L, σ => if ((σ.1 5)) = ((σ.1 4)) then (x_take k 33 L (upd σ.1 6 0, σ.2.1, σ.2.2)) else (x_take k 2 L σ)
  | k + 1, 2, L, σ => ob (x_byteAt k 0 (upd (fun _ => 0) 1 ((σ.1 5))) σ) (fun r1 => ob (x_isLetter k 0 (upd (fun _ => 0) 0 r1.1) r1.2) (fun r2 => if r2.1 = 0 then (x_take k 10 L r2.2) else (x_take k 3 L r2.2)))
  | k + 1, 3, L, σ => ob (x_byteAt k 0 (upd (fun _ => 0) 1 ((σ.1 5))) σ) (fun r1 => ob (x_isLetter k 0 (upd (fun _ => 0) 0 r1.1) r1.2) (fun r2 => if r2.1 = 0 then (ob (x_byteAt k 0 (upd (fun _ => 0) 1 ((r2.2.1 5))) r2.2) (fun r4 => ob (x_isDigit k 0 (upd (fun _ => 0) 0 r4.1) r4.2) (fun r5 => if r5.1 = 0 then (ob (x_byteAt k 0 (upd (fun _ => 0) 1 ((r5.2.1 5))) r5.2) (fun r7 => if r7.1 = 95 then (x_take k 4 L r7.2) else (x_take k 5 L r7.2))) else (x_take k 4 L r5.2)))) else (x_take k 4 L r2.2)))
  | k + 1, 4, L, σ => x_take k 3 L (upd σ.1 5 ((((σ.1 5)) + 1)), σ.2.1, σ.2.2)
  | k + 1, 5, L, σ => ob (x_wordAt k 0 (upd (upd (fun _ => 0) 1 ((σ.1 8))) 2 ((σ.1 5))) σ) (fun r1 => x_take k 6 L (upd r1.2.1 7 r1.1, r1.2.2.1, r1.2.2.2))
  | k + 1, 6, L, σ => if ((((σ.1 5)) - ((σ.1 8)))) ≤ 16 then (x_take k 7 L σ) else (x_take k 9 (upd L 100 6) σ)
  | k + 1, 7, L, σ => if ((σ.1 7)) = ((-1)) then (x_take k 9 (upd L 100 1) σ) else (x_take k 8 L σ)
  | k + 1, 8, L, σ => x_take k 9 (upd L 100 5) σ
  | k + 1, 9, L, σ => x_take k 33 L (upd σ.1 6 ((L 100)), σ.2.1, σ.2.2)
  | k + 1, 10, L, σ => ob (x_byteAt k 0 (upd (fun _ => 0) 1 ((σ.1 5))) σ) (fun r1 => ob (x_isDigit k 0 (upd (fun _ => 0) 0 r1.1) r1.2) (fun r2 => if r2.1 = 0 then (x_take k 15 L r2.2) else (x_take k 11 L r2.2)))
  | k + 1, 11, L, σ => ob (x_byteAt k 0 (upd (fun _ => 0) 1 ((σ.1 5))) σ) (fun r1 => ob (x_isDigit k 0 (upd (fun _ => 0) 0 r1.1) r1.2) (fun r2 => if r2.1 = 0 then (x_take k 12 L r2.2) else (x_take k 11 L (upd r2.2.1 5 ((((r2.2.1 5)) + 1)), r2.2.2.1, r2.2.2.2))))
  | k + 1, 12, L, σ => if ((((σ.1 5)) - ((σ.1 8)))) ≤ 60 then (x_take k 13 L σ) else (x_take k 14 (upd L 100 6) σ)
  | k + 1, 13, L, σ => x_take k 14 (upd L 100 2) σ
  | k + 1, 14, L, σ => x_take k 33 L (upd σ.1 6 ((L 100)), σ.2.1, σ.2.2)
  | k + 1, 15, L, σ => ob (x_byteAt k 0 (upd (fun _ => 0) 1 ((σ.1 5))) σ) (fun r1 => if r1.1 = 34 then (x_take k 16 L (upd r1.2.1 5 ((((r1.2.1 5)) + 1)), r1.2.2.1, r1.2.2.2)) else (x_take k 25 L r1.2))
  | k + 1, 16, L, σ => if ((σ.1 4)) ≤ ((σ.1 5)) then (x_take k 17 L σ) else (if ¬ (((σ.1 5)) < 0 ∨ 32768 ≤ ((σ.1 5)).toNatClampNeg) then (if ((σ.2.2 3 ((σ.1 5)).toNatClampNeg)) = 34 then (x_take k 17 L σ) else (if ¬ (((σ.1 5)) < 0 ∨ 32768 ≤ ((σ.1 5)).toNatClampNeg) then (if ((σ.2.2 3 ((σ.1 5)).toNatClampNeg)) ≤ 31 then (x_take k 17 L σ) else (x_take k 16 L (upd σ.1 5 ((((σ.1 5)) + 1)), σ.2.1, σ.2.2))) else none)) else none)
  | k + 1, 17, L, σ => if ((σ.1 4)) ≤ ((σ.1 5)) then (x_take k 18 L σ) else (if ¬ (((σ.1 5)) < 0 ∨ 32768 ≤ ((σ.1 5)).toNatClampNeg) then (if ((σ.2.2 3 ((σ.1 5)).toNatClampNeg)) = 34 then (x_take k 19 (upd L 100 1) σ) else (x_take k 18 L σ)) else none)
  | k + 1, 18, L, σ => x_take k 19 (upd L 100 0) σ
  | k + 1, 19, L, σ => if ((L 100)) = 0 then (x_take k 20 (upd L 1 ((L 100))) σ) else (if 100 < ((((((σ.1 5)) - ((σ.1 8)))) - 1)) then (x_take k 20 (upd L 1 ((L 100))) σ) else (x_take k 21 (upd (upd L 1 ((L 100))) 100 3) σ))
  | k + 1, 20, L, σ => x_take k 21 (upd L 100 6) σ
  | k + 1, 21, L, σ => x_take k 22 L (upd σ.1 6 ((L 100)), σ.2.1, σ.2.2)
  | k + 1, 22, L, σ => if ((L 1)) = 0 then (x_take k 23 (upd L 100 ((σ.1 5))) σ) else (x_take k 24 (upd (upd L 100 1) 101 ((σ.1 5))) σ)
  | k + 1, 23, L, σ => x_take k 24 (upd (upd L 100 0) 101 ((L 100))) σ
  | k + 1, 24, L, σ => x_take k 33 L (upd σ.1 5 ((((L 101)) + ((L 100)))), σ.2.1, σ.2.2)
  | k + 1, 25, L, σ => ob (x_byteAt k 0 (upd (fun _ => 0) 1 ((σ.1 5))) σ) (fun r1 => ob (x_byteAt k 0 (upd (fun _ => 0) 1 ((((r1.2.1 5)) + 1))) r1.2) (fun r2 => ob (x_sign k 0 (upd (upd (fun _ => 0) 0 r1.1) 1 r2.1) r2.2) (fun r3 => x_take k 26 L (upd r3.2.1 7 r3.1, r3.2.2.1, r3.2.2.2))))
  | k + 1, 26, L, σ => if ((σ.1 7)) = 0 then (x_take k 28 (upd L 100 6) σ) else (x_take k 27 L σ)
  | k + 1, 27, L, σ => x_take k 28 (upd L 100 4) σ
  | k + 1, 28, L, σ => x_take k 29 L (upd σ.1 6 ((L 100)), σ.2.1, σ.2.2)
  | k + 1, 29, L, σ => if ((σ.1 7)) = 1 then (x_take k 30 (upd L 100 ((σ.1 5))) σ) else (if ((σ.1 7)) = 5 then (x_take k 30 (upd L 100 ((σ.1 5))) σ) else (if ((σ.1 7)) = 16 then (x_take k 30 (upd L 100 ((σ.1 5))) σ) else (if ((σ.1 7)) = 18 then (x_take k 30 (upd L 100 ((σ.1 5))) σ) else (if ((σ.1 7)) = 20 then (x_take k 30 (upd L 100 ((σ.1 5))) σ) else (if ((σ.1 7)) = 22 then (x_take k 30 (upd L 100 ((σ.1 5))) σ) else (x_take k 31 (upd L 100 ((σ.1 5))) σ))))))
  | k + 1, 30, L, σ => x_take k 32 (upd (upd L 100 2) 101 ((L 100))) σ
  | k + 1, 31, L, σ => x_take k 32 (upd (upd L 100 1) 101 ((L 100))) σ
  | k + 1, 32, L, σ => x_take k 33 L (upd σ.1 5 ((((L 101)) + ((L 100)))), σ.2.1, σ.2.2)
  | k + 1, 33, L, σ => x_take k 34 L (upd σ.1 9 ((σ.1 5)), σ.2.1, σ.2.2)
  | k + 1, 34, L, σ => if ((σ.1 6)) = 6 then (ob (x_fault k 0 (upd (upd (fun _ => 0) 1 1) 2 ((σ.1 8))) σ) (fun r2 => x_take k 35 L r2.2)) else (x_take k 35 L σ)
  | k + 1, 35, L, σ => some (0, σ)
  | _ + 1, _ + 36, _, _ => none
def o_x_take : List Cond := [.methodLink RX12 28 yX12_skip, .instanceMethod yX12_skip, .selects RX12 yX12_skip yX12_skip, .initialized RX12, .fieldLink RX12 21 "SetHouseModel" "at" "I", .fieldLink RX12 32 "SetHouseModel" "tFrom" "I", .fieldLink RX12 1 "SetHouseModel" "taped" "I", .fieldLink RX12 35 "SetHouseModel" "tKind" "I", .methodLink RX12 24 yX12_byteAt, .instanceMethod yX12_byteAt, .selects RX12 yX12_byteAt yX12_byteAt, .methodLink RX12 38 yX12_isLetter, .static yX12_isLetter, .methodLink RX12 42 yX12_isDigit, .static yX12_isDigit, .methodLink RX12 45 yX12_wordAt, .instanceMethod yX12_wordAt, .selects RX12 yX12_wordAt yX12_wordAt, .fieldLink RX12 49 "SetHouseModel" "tWhat" "I", .fieldLink RX12 7 "SetHouseModel" "tape" "[I", .methodLink RX12 52 yX12_sign, .static yX12_sign, .fieldLink RX12 55 "SetHouseModel" "tTo" "I", .methodLink RX12 58 yX12_fault, .instanceMethod yX12_fault, .selects RX12 yX12_fault yX12_fault]
theorem o_x_take_good : o_x_take.all goodWord = true := by decide +kernel
def p_x_take : List Cond := o_x_take ++ ((.code yX12_skip cX12_skip 3 none :: p_x_skip) ++ ((.code yX12_byteAt cX12_byteAt 2 (some .int) :: p_x_byteAt) ++ ((.code yX12_isLetter cX12_isLetter 1 (some .boolean) :: p_x_isLetter) ++ ((.code yX12_isDigit cX12_isDigit 1 (some .boolean) :: p_x_isDigit) ++ ((.code yX12_wordAt cX12_wordAt 7 (some .int) :: p_x_wordAt) ++ ((.code yX12_sign cX12_sign 2 (some .int) :: p_x_sign) ++ ((.code yX12_fault cX12_fault 3 none :: p_x_fault) ++ [])))))))
theorem p_x_take_good : p_x_take.all goodWord = true := nb_all2 o_x_take_good (nb_all2 (nb_allc (by decide +kernel) p_x_skip_good) (nb_all2 (nb_allc (by decide +kernel) p_x_byteAt_good) (nb_all2 (nb_allc (by decide +kernel) p_x_isLetter_good) (nb_all2 (nb_allc (by decide +kernel) p_x_isDigit_good) (nb_all2 (nb_allc (by decide +kernel) p_x_wordAt_good) (nb_all2 (nb_allc (by decide +kernel) p_x_sign_good) (nb_all2 (nb_allc (by decide +kernel) p_x_fault_good) rfl)))))))
def w_x_take : List Cond := .code yX12_take cX12_take 2 none :: (p_x_take ++ fM)
theorem w_x_take_good : w_x_take.all goodWord = true := nb_allc (by decide +kernel) (nb_all2 p_x_take_good fM_good)
theorem in_x_take : ∀ w ∈ wsX120, w ∈ w_x_take := fun _ h => List.mem_cons_of_mem _ (List.mem_append_right _ h)
theorem hd_x_take : yX12_take.cls = RX12 ∧ yX12_take.cls ≠ "java/lang/invoke/MethodHandle" ∧ yX12_take.cls ≠ "java/lang/invoke/VarHandle" ∧ (parseMethodDescriptor yX12_take.desc).map (fun d => d.parameters.length) = some 0 := by decide +kernel
theorem gg_x_take_byteAt : GoodIn w_x_take w_x_byteAt := goodIn_sub (fun w h => (List.mem_cons.mp h).elim (fun e => (List.mem_cons_of_mem _ (List.mem_append_left _ (List.mem_append_right _ (List.mem_append_right _ (List.mem_append_left _ (List.mem_cons.mpr (Or.inl e)))))))) (fun h => (List.mem_append.mp h).elim (fun h => (List.mem_cons_of_mem _ (List.mem_append_left _ (List.mem_append_right _ (List.mem_append_right _ (List.mem_append_left _ (List.mem_cons_of_mem _ h))))))) (fun h => List.mem_cons_of_mem _ (List.mem_append_right _ h)))) w_x_byteAt_good
theorem g_x_take_byteAt_24 : GoodIn w_x_take (wsV RX12 24 RX12 yX12_byteAt w_x_byteAt) := goodIn_app (nb_g4 (List.mem_cons_of_mem _ (List.mem_append_left _ (List.mem_append_left _ (List.mem_of_getElem? (i := 8) rfl)))) (List.mem_cons_of_mem _ (List.mem_append_left _ (List.mem_append_left _ (List.mem_of_getElem? (i := 9) rfl)))) (List.mem_cons_of_mem _ (List.mem_append_left _ (List.mem_append_left _ (List.mem_of_getElem? (i := 10) rfl)))) (List.mem_cons_of_mem _ (List.mem_append_left _ (List.mem_append_left _ (List.mem_of_getElem? (i := 3) rfl)))) (by decide +kernel)) gg_x_take_byteAt
theorem gg_x_take_fault : GoodIn w_x_take w_x_fault := goodIn_sub (fun w h => (List.mem_cons.mp h).elim (fun e => (List.mem_cons_of_mem _ (List.mem_append_left _ (List.mem_append_right _ (List.mem_append_right _ (List.mem_append_right _ (List.mem_append_right _ (List.mem_append_right _ (List.mem_append_right _ (List.mem_append_right _ (List.mem_append_left _ (List.mem_cons.mpr (Or.inl e))))))))))))) (fun h => (List.mem_append.mp h).elim (fun h => (List.mem_cons_of_mem _ (List.mem_append_left _ (List.mem_append_right _ (List.mem_append_right _ (List.mem_append_right _ (List.mem_append_right _ (List.mem_append_right _ (List.mem_append_right _ (List.mem_append_right _ (List.mem_append_left _ (List.mem_cons_of_mem _ h)))))))))))) (fun h => List.mem_cons_of_mem _ (List.mem_append_right _ h)))) w_x_fault_good
theorem g_x_take_fault_58 : GoodIn w_x_take (wsV RX12 58 RX12 yX12_fault w_x_fault) := goodIn_app (nb_g4 (List.mem_cons_of_mem _ (List.mem_append_left _ (List.mem_append_left _ (List.mem_of_getElem? (i := 23) rfl)))) (List.mem_cons_of_mem _ (List.mem_append_left _ (List.mem_append_left _ (List.mem_of_getElem? (i := 24) rfl)))) (List.mem_cons_of_mem _ (List.mem_append_left _ (List.mem_append_left _ (List.mem_of_getElem? (i := 25) rfl)))) (List.mem_cons_of_mem _ (List.mem_append_left _ (List.mem_append_left _ (List.mem_of_getElem? (i := 3) rfl)))) (by decide +kernel)) gg_x_take_fault
theorem gg_x_take_isDigit : GoodIn w_x_take w_x_isDigit := goodIn_sub (fun w h => (List.mem_cons.mp h).elim (fun e => (List.mem_cons_of_mem _ (List.mem_append_left _ (List.mem_append_right _ (List.mem_append_right _ (List.mem_append_right _ (List.mem_append_right _ (List.mem_append_left _ (List.mem_cons.mpr (Or.inl e)))))))))) (fun h => (List.mem_append.mp h).elim (fun h => (List.mem_cons_of_mem _ (List.mem_append_left _ (List.mem_append_right _ (List.mem_append_right _ (List.mem_append_right _ (List.mem_append_right _ (List.mem_append_left _ (List.mem_cons_of_mem _ h))))))))) (fun h => List.mem_cons_of_mem _ (List.mem_append_right _ h)))) w_x_isDigit_good
theorem g_x_take_isDigit_42 : GoodIn w_x_take (va_wsS RX12 42 yX12_isDigit w_x_isDigit) := goodIn_app (nb_g3 (List.mem_cons_of_mem _ (List.mem_append_left _ (List.mem_append_left _ (List.mem_of_getElem? (i := 13) rfl)))) (List.mem_cons_of_mem _ (List.mem_append_left _ (List.mem_append_left _ (List.mem_of_getElem? (i := 14) rfl)))) (List.mem_cons_of_mem _ (List.mem_append_left _ (List.mem_append_left _ (List.mem_of_getElem? (i := 3) rfl)))) (by decide +kernel)) gg_x_take_isDigit
theorem gg_x_take_isLetter : GoodIn w_x_take w_x_isLetter := goodIn_sub (fun w h => (List.mem_cons.mp h).elim (fun e => (List.mem_cons_of_mem _ (List.mem_append_left _ (List.mem_append_right _ (List.mem_append_right _ (List.mem_append_right _ (List.mem_append_left _ (List.mem_cons.mpr (Or.inl e))))))))) (fun h => (List.mem_append.mp h).elim (fun h => (List.mem_cons_of_mem _ (List.mem_append_left _ (List.mem_append_right _ (List.mem_append_right _ (List.mem_append_right _ (List.mem_append_left _ (List.mem_cons_of_mem _ h)))))))) (fun h => List.mem_cons_of_mem _ (List.mem_append_right _ h)))) w_x_isLetter_good
theorem g_x_take_isLetter_38 : GoodIn w_x_take (va_wsS RX12 38 yX12_isLetter w_x_isLetter) := goodIn_app (nb_g3 (List.mem_cons_of_mem _ (List.mem_append_left _ (List.mem_append_left _ (List.mem_of_getElem? (i := 11) rfl)))) (List.mem_cons_of_mem _ (List.mem_append_left _ (List.mem_append_left _ (List.mem_of_getElem? (i := 12) rfl)))) (List.mem_cons_of_mem _ (List.mem_append_left _ (List.mem_append_left _ (List.mem_of_getElem? (i := 3) rfl)))) (by decide +kernel)) gg_x_take_isLetter
theorem gg_x_take_sign : GoodIn w_x_take w_x_sign := goodIn_sub (fun w h => (List.mem_cons.mp h).elim (fun e => (List.mem_cons_of_mem _ (List.mem_append_left _ (List.mem_append_right _ (List.mem_append_right _ (List.mem_append_right _ (List.mem_append_right _ (List.mem_append_right _ (List.mem_append_right _ (List.mem_append_left _ (List.mem_cons.mpr (Or.inl e)))))))))))) (fun h => (List.mem_append.mp h).elim (fun h => (List.mem_cons_of_mem _ (List.mem_append_left _ (List.mem_append_right _ (List.mem_append_right _ (List.mem_append_right _ (List.mem_append_right _ (List.mem_append_right _ (List.mem_append_right _ (List.mem_append_left _ (List.mem_cons_of_mem _ h))))))))))) (fun h => List.mem_cons_of_mem _ (List.mem_append_right _ h)))) w_x_sign_good
theorem g_x_take_sign_52 : GoodIn w_x_take (va_wsS RX12 52 yX12_sign w_x_sign) := goodIn_app (nb_g3 (List.mem_cons_of_mem _ (List.mem_append_left _ (List.mem_append_left _ (List.mem_of_getElem? (i := 20) rfl)))) (List.mem_cons_of_mem _ (List.mem_append_left _ (List.mem_append_left _ (List.mem_of_getElem? (i := 21) rfl)))) (List.mem_cons_of_mem _ (List.mem_append_left _ (List.mem_append_left _ (List.mem_of_getElem? (i := 3) rfl)))) (by decide +kernel)) gg_x_take_sign
theorem gg_x_take_skip : GoodIn w_x_take w_x_skip := goodIn_sub (fun w h => (List.mem_cons.mp h).elim (fun e => (List.mem_cons_of_mem _ (List.mem_append_left _ (List.mem_append_right _ (List.mem_append_left _ (List.mem_cons.mpr (Or.inl e))))))) (fun h => (List.mem_append.mp h).elim (fun h => (List.mem_cons_of_mem _ (List.mem_append_left _ (List.mem_append_right _ (List.mem_append_left _ (List.mem_cons_of_mem _ h)))))) (fun h => List.mem_cons_of_mem _ (List.mem_append_right _ h)))) w_x_skip_good
theorem g_x_take_skip_28 : GoodIn w_x_take (wsV RX12 28 RX12 yX12_skip w_x_skip) := goodIn_app (nb_g4 (List.mem_cons_of_mem _ (List.mem_append_left _ (List.mem_append_left _ (List.mem_of_getElem? (i := 0) rfl)))) (List.mem_cons_of_mem _ (List.mem_append_left _ (List.mem_append_left _ (List.mem_of_getElem? (i := 1) rfl)))) (List.mem_cons_of_mem _ (List.mem_append_left _ (List.mem_append_left _ (List.mem_of_getElem? (i := 2) rfl)))) (List.mem_cons_of_mem _ (List.mem_append_left _ (List.mem_append_left _ (List.mem_of_getElem? (i := 3) rfl)))) (by decide +kernel)) gg_x_take_skip
theorem gg_x_take_wordAt : GoodIn w_x_take w_x_wordAt := goodIn_sub (fun w h => (List.mem_cons.mp h).elim (fun e => (List.mem_cons_of_mem _ (List.mem_append_left _ (List.mem_append_right _ (List.mem_append_right _ (List.mem_append_right _ (List.mem_append_right _ (List.mem_append_right _ (List.mem_append_left _ (List.mem_cons.mpr (Or.inl e))))))))))) (fun h => (List.mem_append.mp h).elim (fun h => (List.mem_cons_of_mem _ (List.mem_append_left _ (List.mem_append_right _ (List.mem_append_right _ (List.mem_append_right _ (List.mem_append_right _ (List.mem_append_right _ (List.mem_append_left _ (List.mem_cons_of_mem _ h)))))))))) (fun h => List.mem_cons_of_mem _ (List.mem_append_right _ h)))) w_x_wordAt_good
theorem g_x_take_wordAt_45 : GoodIn w_x_take (wsV RX12 45 RX12 yX12_wordAt w_x_wordAt) := goodIn_app (nb_g4 (List.mem_cons_of_mem _ (List.mem_append_left _ (List.mem_append_left _ (List.mem_of_getElem? (i := 15) rfl)))) (List.mem_cons_of_mem _ (List.mem_append_left _ (List.mem_append_left _ (List.mem_of_getElem? (i := 16) rfl)))) (List.mem_cons_of_mem _ (List.mem_append_left _ (List.mem_append_left _ (List.mem_of_getElem? (i := 17) rfl)))) (List.mem_cons_of_mem _ (List.mem_append_left _ (List.mem_append_left _ (List.mem_of_getElem? (i := 3) rfl)))) (by decide +kernel)) gg_x_take_wordAt
set_option maxHeartbeats 40000000 in
set_option maxRecDepth 100000 in
theorem c_x_take (l : Launch) (dC : Nat → ClassId) (dI : Nat → Nat → Nat) (cy : Nat → ClassId) (a : Nat → Nat) (k0 : Nat) (L0 : Nat → Int32) (σ0 : MS) (r0 : Int32 × MS) (h0 : x_take k0 0 L0 σ0 = some r0) (sz : Nat) : Met l yX12_take w_x_take ({ frames := 2, cells := 0, slots := 0, locals := 43 }) (va_Pc [.ref (a 0)] (nIn (dC, dI) cy sz (vM cy a σ0))) (va_Qv (fun _ : Unit => True) (fun _ t => nOut (dC, dI) cy (va_A (vM cy a σ0) sz) (vM cy a r0.2) t) (va_A (vM cy a σ0) sz)) 0 0 (va_A (vM cy a σ0) sz) := by
  refine Met.ofW (cc := cX12_take) (maxL := 2) (ret := none) (by decide) rfl ?_
  intro p e s m args below meth c s₁ B hml hv
  obtain ⟨rfl, hsz, hP, hK, hD0, hG⟩ := hv
  have hx := B.exec
  have hb := B.bytes
  have hr := B.returns
  have hts := atoms_spec (ws := w_x_take) B.pre
  have hown : s.vm.findClass RX12 = some m.cls := findClass_of_methodNamed B.named
  have hlocks := B.notSynchronized
  subst hsz
  have hD := hD0.self (sz := s.heap.size)
  generalize hAe : va_A (vM cy a σ0) s.heap.size = A at hD ⊢
  have hA : ∀ q : Nat, s.heap.size ≤ q → A q := fun q h => by rw [← hAe]; exact Or.inr h
  have hS : va_S A s.heap s.heap [] := va_S.rf
  have hl := lv_entry ([.ref (a 0)]) (n := 2) (Nat.le_of_ble_eq_true rfl)
  rw [lg_entry_eq]
  generalize (lg_sl ([.ref (a 0)]) ++ List.replicate (2 - (lg_sl ([.ref (a 0)])).length) Slot.unset).toArray = ls at hl ⊢
  have hl : lv_has ls 2 [(0, .ref (a 0))] := hl
  have blk : ∀ k : Nat, (bT p l e (headSpec w_x_take ({ frames := 2, cells := 0, slots := 0, locals := 43 })).room s m #[.ref (a 0)] below meth c dC dI cy a A (qV dC dI cy a A below #[.ref (a 0)] s) 2 (x_take k 0) (fun L => [(0, .ref (a 0))]) 0 (fun L => [])) ∧ (bT p l e (headSpec w_x_take ({ frames := 2, cells := 0, slots := 0, locals := 43 })).room s m #[.ref (a 0)] below meth c dC dI cy a A (qV dC dI cy a A below #[.ref (a 0)] s) 2 (x_take k 1) (fun L => [(0, .ref (a 0))]) 12 (fun L => [])) ∧ (bT p l e (headSpec w_x_take ({ frames := 2, cells := 0, slots := 0, locals := 43 })).room s m #[.ref (a 0)] below meth c dC dI cy a A (qV dC dI cy a A below #[.ref (a 0)] s) 2 (x_take k 2) (fun L => [(0, .ref (a 0))]) 31 (fun L => [])) ∧ (bT p l e (headSpec w_x_take ({ frames := 2, cells := 0, slots := 0, locals := 43 })).room s m #[.ref (a 0)] below meth c dC dI cy a A (qV dC dI cy a A below #[.ref (a 0)] s) 2 (x_take k 3) (fun L => [(0, .ref (a 0))]) 45 (fun L => [])) ∧ (bT p l e (headSpec w_x_take ({ frames := 2, cells := 0, slots := 0, locals := 43 })).room s m #[.ref (a 0)] below meth c dC dI cy a A (qV dC dI cy a A below #[.ref (a 0)] s) 2 (x_take k 4) (fun L => [(0, .ref (a 0))]) 86 (fun L => [])) ∧ (bT p l e (headSpec w_x_take ({ frames := 2, cells := 0, slots := 0, locals := 43 })).room s m #[.ref (a 0)] below meth c dC dI cy a A (qV dC dI cy a A below #[.ref (a 0)] s) 2 (x_take k 5) (fun L => [(0, .ref (a 0))]) 99 (fun L => [])) ∧ (bT p l e (headSpec w_x_take ({ frames := 2, cells := 0, slots := 0, locals := 43 })).room s m #[.ref (a 0)] below meth c dC dI cy a A (qV dC dI cy a A below #[.ref (a 0)] s) 2 (x_take k 6) (fun L => [(0, .ref (a 0))]) 115 (fun L => [])) ∧ (bT p l e (headSpec w_x_take ({ frames := 2, cells := 0, slots := 0, locals := 43 })).room s m #[.ref (a 0)] below meth c dC dI cy a A (qV dC dI cy a A below #[.ref (a 0)] s) 2 (x_take k 7) (fun L => [(0, .ref (a 0))]) 135 (fun L => [.ref (a 0)])) ∧ (bT p l e (headSpec w_x_take ({ frames := 2, cells := 0, slots := 0, locals := 43 })).room s m #[.ref (a 0)] below meth c dC dI cy a A (qV dC dI cy a A below #[.ref (a 0)] s) 2 (x_take k 8) (fun L => [(0, .ref (a 0))]) 147 (fun L => [.ref (a 0)])) ∧ (bT p l e (headSpec w_x_take ({ frames := 2, cells := 0, slots := 0, locals := 43 })).room s m #[.ref (a 0)] below meth c dC dI cy a A (qV dC dI cy a A below #[.ref (a 0)] s) 2 (x_take k 9) (fun L => [(0, .ref (a 0))]) 148 (fun L => [.int (L 100), .ref (a 0)])) ∧ (bT p l e (headSpec w_x_take ({ frames := 2, cells := 0, slots := 0, locals := 43 })).room s m #[.ref (a 0)] below meth c dC dI cy a A (qV dC dI cy a A below #[.ref (a 0)] s) 2 (x_take k 10) (fun L => [(0, .ref (a 0))]) 154 (fun L => [])) ∧ (bT p l e (headSpec w_x_take ({ frames := 2, cells := 0, slots := 0, locals := 43 })).room s m #[.ref (a 0)] below meth c dC dI cy a A (qV dC dI cy a A below #[.ref (a 0)] s) 2 (x_take k 11) (fun L => [(0, .ref (a 0))]) 168 (fun L => [])) ∧ (bT p l e (headSpec w_x_take ({ frames := 2, cells := 0, slots := 0, locals := 43 })).room s m #[.ref (a 0)] below meth c dC dI cy a A (qV dC dI cy a A below #[.ref (a 0)] s) 2 (x_take k 12) (fun L => [(0, .ref (a 0))]) 195 (fun L => [])) ∧ (bT p l e (headSpec w_x_take ({ frames := 2, cells := 0, slots := 0, locals := 43 })).room s m #[.ref (a 0)] below meth c dC dI cy a A (qV dC dI cy a A below #[.ref (a 0)] s) 2 (x_take k 13) (fun L => [(0, .ref (a 0))]) 215 (fun L => [.ref (a 0)])) ∧ (bT p l e (headSpec w_x_take ({ frames := 2, cells := 0, slots := 0, locals := 43 })).room s m #[.ref (a 0)] below meth c dC dI cy a A (qV dC dI cy a A below #[.ref (a 0)] s) 2 (x_take k 14) (fun L => [(0, .ref (a 0))]) 216 (fun L => [.int (L 100), .ref (a 0)])) ∧ (bT p l e (headSpec w_x_take ({ frames := 2, cells := 0, slots := 0, locals := 43 })).room s m #[.ref (a 0)] below meth c dC dI cy a A (qV dC dI cy a A below #[.ref (a 0)] s) 2 (x_take k 15) (fun L => [(0, .ref (a 0))]) 222 (fun L => [])) ∧ (bT p l e (headSpec w_x_take ({ frames := 2, cells := 0, slots := 0, locals := 43 })).room s m #[.ref (a 0)] below meth c dC dI cy a A (qV dC dI cy a A below #[.ref (a 0)] s) 2 (x_take k 16) (fun L => [(0, .ref (a 0))]) 245 (fun L => [])) ∧ (bT p l e (headSpec w_x_take ({ frames := 2, cells := 0, slots := 0, locals := 43 })).room s m #[.ref (a 0)] below meth c dC dI cy a A (qV dC dI cy a A below #[.ref (a 0)] s) 2 (x_take k 17) (fun L => [(0, .ref (a 0))]) 297 (fun L => [])) ∧ (bT p l e (headSpec w_x_take ({ frames := 2, cells := 0, slots := 0, locals := 43 })).room s m #[.ref (a 0)] below meth c dC dI cy a A (qV dC dI cy a A below #[.ref (a 0)] s) 2 (x_take k 18) (fun L => [(0, .ref (a 0))]) 326 (fun L => [])) ∧ (bT p l e (headSpec w_x_take ({ frames := 2, cells := 0, slots := 0, locals := 43 })).room s m #[.ref (a 0)] below meth c dC dI cy a A (qV dC dI cy a A below #[.ref (a 0)] s) 2 (x_take k 19) (fun L => [(0, .ref (a 0))]) 327 (fun L => [.int (L 100)])) ∧ (bT p l e (headSpec w_x_take ({ frames := 2, cells := 0, slots := 0, locals := 43 })).room s m #[.ref (a 0)] below meth c dC dI cy a A (qV dC dI cy a A below #[.ref (a 0)] s) 2 (x_take k 20) (fun L => [(0, .ref (a 0)), (1, .int (L 1))]) 353 (fun L => [.ref (a 0)])) ∧ (bT p l e (headSpec w_x_take ({ frames := 2, cells := 0, slots := 0, locals := 43 })).room s m #[.ref (a 0)] below meth c dC dI cy a A (qV dC dI cy a A below #[.ref (a 0)] s) 2 (x_take k 21) (fun L => [(0, .ref (a 0)), (1, .int (L 1))]) 355 (fun L => [.int (L 100), .ref (a 0)])) ∧ (bT p l e (headSpec w_x_take ({ frames := 2, cells := 0, slots := 0, locals := 43 })).room s m #[.ref (a 0)] below meth c dC dI cy a A (qV dC dI cy a A below #[.ref (a 0)] s) 2 (x_take k 22) (fun L => [(0, .ref (a 0)), (1, .int (L 1))]) 358 (fun L => [])) ∧ (bT p l e (headSpec w_x_take ({ frames := 2, cells := 0, slots := 0, locals := 43 })).room s m #[.ref (a 0)] below meth c dC dI cy a A (qV dC dI cy a A below #[.ref (a 0)] s) 2 (x_take k 23) (fun L => [(0, .ref (a 0)), (1, .int (L 1))]) 371 (fun L => [.int (L 100), .ref (a 0)])) ∧ (bT p l e (headSpec w_x_take ({ frames := 2, cells := 0, slots := 0, locals := 43 })).room s m #[.ref (a 0)] below meth c dC dI cy a A (qV dC dI cy a A below #[.ref (a 0)] s) 2 (x_take k 24) (fun L => [(0, .ref (a 0)), (1, .int (L 1))]) 372 (fun L => [.int (L 100), .int (L 101), .ref (a 0)])) ∧ (bT p l e (headSpec w_x_take ({ frames := 2, cells := 0, slots := 0, locals := 43 })).room s m #[.ref (a 0)] below meth c dC dI cy a A (qV dC dI cy a A below #[.ref (a 0)] s) 2 (x_take k 25) (fun L => [(0, .ref (a 0))]) 379 (fun L => [])) ∧ (bT p l e (headSpec w_x_take ({ frames := 2, cells := 0, slots := 0, locals := 43 })).room s m #[.ref (a 0)] below meth c dC dI cy a A (qV dC dI cy a A below #[.ref (a 0)] s) 2 (x_take k 26) (fun L => [(0, .ref (a 0))]) 404 (fun L => [])) ∧ (bT p l e (headSpec w_x_take ({ frames := 2, cells := 0, slots := 0, locals := 43 })).room s m #[.ref (a 0)] below meth c dC dI cy a A (qV dC dI cy a A below #[.ref (a 0)] s) 2 (x_take k 27) (fun L => [(0, .ref (a 0))]) 417 (fun L => [.ref (a 0)])) ∧ (bT p l e (headSpec w_x_take ({ frames := 2, cells := 0, slots := 0, locals := 43 })).room s m #[.ref (a 0)] below meth c dC dI cy a A (qV dC dI cy a A below #[.ref (a 0)] s) 2 (x_take k 28) (fun L => [(0, .ref (a 0))]) 418 (fun L => [.int (L 100), .ref (a 0)])) ∧ (bT p l e (headSpec w_x_take ({ frames := 2, cells := 0, slots := 0, locals := 43 })).room s m #[.ref (a 0)] below meth c dC dI cy a A (qV dC dI cy a A below #[.ref (a 0)] s) 2 (x_take k 29) (fun L => [(0, .ref (a 0))]) 421 (fun L => [])) ∧ (bT p l e (headSpec w_x_take ({ frames := 2, cells := 0, slots := 0, locals := 43 })).room s m #[.ref (a 0)] below meth c dC dI cy a A (qV dC dI cy a A below #[.ref (a 0)] s) 2 (x_take k 30) (fun L => [(0, .ref (a 0))]) 478 (fun L => [.int (L 100), .ref (a 0)])) ∧ (bT p l e (headSpec w_x_take ({ frames := 2, cells := 0, slots := 0, locals := 43 })).room s m #[.ref (a 0)] below meth c dC dI cy a A (qV dC dI cy a A below #[.ref (a 0)] s) 2 (x_take k 31) (fun L => [(0, .ref (a 0))]) 482 (fun L => [.int (L 100), .ref (a 0)])) ∧ (bT p l e (headSpec w_x_take ({ frames := 2, cells := 0, slots := 0, locals := 43 })).room s m #[.ref (a 0)] below meth c dC dI cy a A (qV dC dI cy a A below #[.ref (a 0)] s) 2 (x_take k 32) (fun L => [(0, .ref (a 0))]) 483 (fun L => [.int (L 100), .int (L 101), .ref (a 0)])) ∧ (bT p l e (headSpec w_x_take ({ frames := 2, cells := 0, slots := 0, locals := 43 })).room s m #[.ref (a 0)] below meth c dC dI cy a A (qV dC dI cy a A below #[.ref (a 0)] s) 2 (x_take k 33) (fun L => [(0, .ref (a 0))]) 487 (fun L => [])) ∧ (bT p l e (headSpec w_x_take ({ frames := 2, cells := 0, slots := 0, locals := 43 })).room s m #[.ref (a 0)] below meth c dC dI cy a A (qV dC dI cy a A below #[.ref (a 0)] s) 2 (x_take k 34) (fun L => [(0, .ref (a 0))]) 495 (fun L => [])) ∧ (bT p l e (headSpec w_x_take ({ frames := 2, cells := 0, slots := 0, locals := 43 })).room s m #[.ref (a 0)] below meth c dC dI cy a A (qV dC dI cy a A below #[.ref (a 0)] s) 2 (x_take k 35) (fun L => [(0, .ref (a 0))]) 513 (fun L => [])) := by
    intro k
    induction k with
    | zero => exact ⟨fun L σ r h => (by cases h), fun L σ r h => (by cases h), fun L σ r h => (by cases h), fun L σ r h => (by cases h), fun L σ r h => (by cases h), fun L σ r h => (by cases h), fun L σ r h => (by cases h), fun L σ r h => (by cases h), fun L σ r h => (by cases h), fun L σ r h => (by cases h), fun L σ r h => (by cases h), fun L σ r h => (by cases h), fun L σ r h => (by cases h), fun L σ r h => (by cases h), fun L σ r h => (by cases h), fun L σ r h => (by cases h), fun L σ r h => (by cases h), fun L σ r h => (by cases h), fun L σ r h => (by cases h), fun L σ r h => (by cases h), fun L σ r h => (by cases h), fun L σ r h => (by cases h), fun L σ r h => (by cases h), fun L σ r h => (by cases h), fun L σ r h => (by cases h), fun L σ r h => (by cases h), fun L σ r h => (by cases h), fun L σ r h => (by cases h), fun L σ r h => (by cases h), fun L σ r h => (by cases h), fun L σ r h => (by cases h), fun L σ r h => (by cases h), fun L σ r h => (by cases h), fun L σ r h => (by cases h), fun L σ r h => (by cases h), fun L σ r h => (by cases h)⟩
    | succ k ih =>
      refine ⟨?_, ?_, ?_, ?_, ?_, ?_, ?_, ?_, ?_, ?_, ?_, ?_, ?_, ?_, ?_, ?_, ?_, ?_, ?_, ?_, ?_, ?_, ?_, ?_, ?_, ?_, ?_, ?_, ?_, ?_, ?_, ?_, ?_, ?_, ?_, ?_⟩
      · intro L σ r h H locs ls hP hD hS hl
        rw [x_take] at h
        refine lv_aload_n hx hb dX12_take_0 rfl (lv_at hl 0 rfl) ?_
        obtain ⟨r1, hc1, h⟩ := ob_ex h
        refine nc_Vv (As := []) (rest := []) ⟨hx, hb, hml, hown, hts⟩ (c_x_skip l dC dI cy a k (fun _ => 0) σ r1 hc1 H.size) (cwV 0 hts g_x_take_skip_28 rfl rfl rfl hd_x_skip ⟨Nat.le_of_ble_eq_true rfl, Nat.le_of_ble_eq_true rfl⟩) hK hG hA hP hD hS rfl hl.1 rfl (Nat.le_of_ble_eq_true rfl) dX12_take_1 ⟨Nat.le_refl _, Nat.le_refl _⟩ (fun H locs hP hD hS => ?_)
        refine lv_aload_n hx hb dX12_take_4 rfl (lv_at hl 0 rfl) ?_
        refine lv_aload_n hx hb dX12_take_5 rfl (lv_at hl 0 rfl) ?_
        refine ng_5 hx hb hts in_x_take hown hK hP (hts _ (List.mem_cons_of_mem _ (List.mem_append_left _ (List.mem_append_left _ (List.mem_of_getElem? (i := 4) rfl))))) dX12_take_6 ?_
        refine np_8 hx hb hts in_x_take hown hK hP hD hS (hts _ (List.mem_cons_of_mem _ (List.mem_append_left _ (List.mem_append_left _ (List.mem_of_getElem? (i := 5) rfl))))) dX12_take_9 (fun H locs hP hD hS => ?_)
        exact ih.2.1 L (upd r1.2.1 8 ((r1.2.1 5)), r1.2.2.1, r1.2.2.2) r h H locs ls hP hD hS (lv_sub hl [0] rfl)
      · intro L σ r h H locs ls hP hD hS hl
        rw [x_take] at h
        refine lv_aload_n hx hb dX12_take_12 rfl (lv_at hl 0 rfl) ?_
        refine ng_5 hx hb hts in_x_take hown hK hP (hts _ (List.mem_cons_of_mem _ (List.mem_append_left _ (List.mem_append_left _ (List.mem_of_getElem? (i := 4) rfl))))) dX12_take_13 ?_
        refine lv_aload_n hx hb dX12_take_16 rfl (lv_at hl 0 rfl) ?_
        refine ng_4 hx hb hts in_x_take hown hK hP (hts _ (List.mem_cons_of_mem _ (List.mem_append_left _ (List.mem_append_left _ (List.mem_of_getElem? (i := 6) rfl))))) dX12_take_17 ?_
        refine lv_icmp_ne (tgt := 31) hx hb dX12_take_20 (by decide) (fun c1 => ?_) (fun c1 => ?_)
        · rw [if_neg c1] at h
          exact ih.2.2.1 L σ r h H locs ls hP hD hS (lv_sub hl [0] rfl)
        · rw [if_pos c1] at h
          refine lv_aload_n hx hb dX12_take_23 rfl (lv_at hl 0 rfl) ?_
          refine lv_iconst (v := 0) hx hb dX12_take_24 (by decide) ?_
          refine np_6 hx hb hts in_x_take hown hK hP hD hS (hts _ (List.mem_cons_of_mem _ (List.mem_append_left _ (List.mem_append_left _ (List.mem_of_getElem? (i := 7) rfl))))) dX12_take_25 (fun H locs hP hD hS => ?_)
          refine lv_goto (tgt := 487) hx hb dX12_take_28 (by decide) ?_
          exact ih.2.2.2.2.2.2.2.2.2.2.2.2.2.2.2.2.2.2.2.2.2.2.2.2.2.2.2.2.2.2.2.2.2.1 L (upd σ.1 6 0, σ.2.1, σ.2.2) r h H locs ls hP hD hS (lv_sub hl [0] rfl)
      · intro L σ r h H locs ls hP hD hS hl
        rw [x_take] at h
        refine lv_aload_n hx hb dX12_take_31 rfl (lv_at hl 0 rfl) ?_
        refine lv_aload_n hx hb dX12_take_32 rfl (lv_at hl 0 rfl) ?_
        refine ng_5 hx hb hts in_x_take hown hK hP (hts _ (List.mem_cons_of_mem _ (List.mem_append_left _ (List.mem_append_left _ (List.mem_of_getElem? (i := 4) rfl))))) dX12_take_33 ?_
        obtain ⟨r1, hc1, h⟩ := ob_ex h
        refine nc_Vi (As := [.int (σ.1 5)]) (rest := []) ⟨hx, hb, hml, hown, hts⟩ (c_x_byteAt l dC dI cy a k (upd (fun _ => 0) 1 ((σ.1 5))) σ r1 hc1 H.size) (cwV 1 hts g_x_take_byteAt_24 rfl rfl rfl hd_x_byteAt ⟨Nat.le_of_ble_eq_true rfl, Nat.le_of_ble_eq_true rfl⟩) hK hG hA hP hD hS rfl hl.1 rfl (Nat.le_of_ble_eq_true rfl) dX12_take_36 ⟨Nat.le_refl _, Nat.le_refl _⟩ (fun H locs hP hD hS => ?_)
        obtain ⟨r2, hc2, h⟩ := ob_ex h
        refine nc_Si (As := [.int r1.1]) (rest := []) ⟨hx, hb, hml, hown, hts⟩ (c_x_isLetter l dC dI cy a k (upd (fun _ => 0) 0 r1.1) r1.2 r2 hc2 H.size) (va_cwS 1 hts g_x_take_isLetter_38 rfl rfl rfl hd_x_isLetter ⟨Nat.le_of_ble_eq_true rfl, Nat.le_of_ble_eq_true rfl⟩) hK hG hA hP hD hS rfl hl.1 rfl (Nat.le_of_ble_eq_true rfl) dX12_take_39 ⟨Nat.le_refl _, Nat.le_refl _⟩ (fun H locs hP hD hS => ?_)
        refine lv_if_eq (tgt := 154) hx hb dX12_take_42 (by decide) (fun c3 => ?_) (fun c3 => ?_)
        · rw [if_pos c3] at h
          exact ih.2.2.2.2.2.2.2.2.2.2.1 L r2.2 r h H locs ls hP hD hS (lv_sub hl [0] rfl)
        · rw [if_neg c3] at h
          exact ih.2.2.2.1 L r2.2 r h H locs ls hP hD hS (lv_sub hl [0] rfl)
      · intro L σ r h H locs ls hP hD hS hl
        rw [x_take] at h
        refine lv_aload_n hx hb dX12_take_45 rfl (lv_at hl 0 rfl) ?_
        refine lv_aload_n hx hb dX12_take_46 rfl (lv_at hl 0 rfl) ?_
        refine ng_5 hx hb hts in_x_take hown hK hP (hts _ (List.mem_cons_of_mem _ (List.mem_append_left _ (List.mem_append_left _ (List.mem_of_getElem? (i := 4) rfl))))) dX12_take_47 ?_
        obtain ⟨r1, hc1, h⟩ := ob_ex h
        refine nc_Vi (As := [.int (σ.1 5)]) (rest := []) ⟨hx, hb, hml, hown, hts⟩ (c_x_byteAt l dC dI cy a k (upd (fun _ => 0) 1 ((σ.1 5))) σ r1 hc1 H.size) (cwV 1 hts g_x_take_byteAt_24 rfl rfl rfl hd_x_byteAt ⟨Nat.le_of_ble_eq_true rfl, Nat.le_of_ble_eq_true rfl⟩) hK hG hA hP hD hS rfl hl.1 rfl (Nat.le_of_ble_eq_true rfl) dX12_take_50 ⟨Nat.le_refl _, Nat.le_refl _⟩ (fun H locs hP hD hS => ?_)
        obtain ⟨r2, hc2, h⟩ := ob_ex h
        refine nc_Si (As := [.int r1.1]) (rest := []) ⟨hx, hb, hml, hown, hts⟩ (c_x_isLetter l dC dI cy a k (upd (fun _ => 0) 0 r1.1) r1.2 r2 hc2 H.size) (va_cwS 1 hts g_x_take_isLetter_38 rfl rfl rfl hd_x_isLetter ⟨Nat.le_of_ble_eq_true rfl, Nat.le_of_ble_eq_true rfl⟩) hK hG hA hP hD hS rfl hl.1 rfl (Nat.le_of_ble_eq_true rfl) dX12_take_53 ⟨Nat.le_refl _, Nat.le_refl _⟩ (fun H locs hP hD hS => ?_)
        refine lv_if_ne (tgt := 86) hx hb dX12_take_56 (by decide) (fun c3 => ?_) (fun c3 => ?_)
        · rw [if_neg c3] at h
          exact ih.2.2.2.2.1 L r2.2 r h H locs ls hP hD hS (lv_sub hl [0] rfl)
        · rw [if_pos c3] at h
          refine lv_aload_n hx hb dX12_take_59 rfl (lv_at hl 0 rfl) ?_
          refine lv_aload_n hx hb dX12_take_60 rfl (lv_at hl 0 rfl) ?_
          refine ng_5 hx hb hts in_x_take hown hK hP (hts _ (List.mem_cons_of_mem _ (List.mem_append_left _ (List.mem_append_left _ (List.mem_of_getElem? (i := 4) rfl))))) dX12_take_61 ?_
          obtain ⟨r4, hc4, h⟩ := ob_ex h
          refine nc_Vi (As := [.int (r2.2.1 5)]) (rest := []) ⟨hx, hb, hml, hown, hts⟩ (c_x_byteAt l dC dI cy a k (upd (fun _ => 0) 1 ((r2.2.1 5))) r2.2 r4 hc4 H.size) (cwV 1 hts g_x_take_byteAt_24 rfl rfl rfl hd_x_byteAt ⟨Nat.le_of_ble_eq_true rfl, Nat.le_of_ble_eq_true rfl⟩) hK hG hA hP hD hS rfl hl.1 rfl (Nat.le_of_ble_eq_true rfl) dX12_take_64 ⟨Nat.le_refl _, Nat.le_refl _⟩ (fun H locs hP hD hS => ?_)
          obtain ⟨r5, hc5, h⟩ := ob_ex h
          refine nc_Si (As := [.int r4.1]) (rest := []) ⟨hx, hb, hml, hown, hts⟩ (c_x_isDigit l dC dI cy a k (upd (fun _ => 0) 0 r4.1) r4.2 r5 hc5 H.size) (va_cwS 1 hts g_x_take_isDigit_42 rfl rfl rfl hd_x_isDigit ⟨Nat.le_of_ble_eq_true rfl, Nat.le_of_ble_eq_true rfl⟩) hK hG hA hP hD hS rfl hl.1 rfl (Nat.le_of_ble_eq_true rfl) dX12_take_67 ⟨Nat.le_refl _, Nat.le_refl _⟩ (fun H locs hP hD hS => ?_)
          refine lv_if_ne (tgt := 86) hx hb dX12_take_70 (by decide) (fun c6 => ?_) (fun c6 => ?_)
          · rw [if_neg c6] at h
            exact ih.2.2.2.2.1 L r5.2 r h H locs ls hP hD hS (lv_sub hl [0] rfl)
          · rw [if_pos c6] at h
            refine lv_aload_n hx hb dX12_take_73 rfl (lv_at hl 0 rfl) ?_
            refine lv_aload_n hx hb dX12_take_74 rfl (lv_at hl 0 rfl) ?_
            refine ng_5 hx hb hts in_x_take hown hK hP (hts _ (List.mem_cons_of_mem _ (List.mem_append_left _ (List.mem_append_left _ (List.mem_of_getElem? (i := 4) rfl))))) dX12_take_75 ?_
            obtain ⟨r7, hc7, h⟩ := ob_ex h
            refine nc_Vi (As := [.int (r5.2.1 5)]) (rest := []) ⟨hx, hb, hml, hown, hts⟩ (c_x_byteAt l dC dI cy a k (upd (fun _ => 0) 1 ((r5.2.1 5))) r5.2 r7 hc7 H.size) (cwV 1 hts g_x_take_byteAt_24 rfl rfl rfl hd_x_byteAt ⟨Nat.le_of_ble_eq_true rfl, Nat.le_of_ble_eq_true rfl⟩) hK hG hA hP hD hS rfl hl.1 rfl (Nat.le_of_ble_eq_true rfl) dX12_take_78 ⟨Nat.le_refl _, Nat.le_refl _⟩ (fun H locs hP hD hS => ?_)
            refine lv_bipush (v := 95) hx hb dX12_take_81 (by decide) ?_
            refine lv_icmp_ne (tgt := 99) hx hb dX12_take_83 (by decide) (fun c8 => ?_) (fun c8 => ?_)
            · rw [if_neg c8] at h
              exact ih.2.2.2.2.2.1 L r7.2 r h H locs ls hP hD hS (lv_sub hl [0] rfl)
            · rw [if_pos c8] at h
              exact ih.2.2.2.2.1 L r7.2 r h H locs ls hP hD hS (lv_sub hl [0] rfl)
      · intro L σ r h H locs ls hP hD hS hl
        rw [x_take] at h
        refine lv_aload_n hx hb dX12_take_86 rfl (lv_at hl 0 rfl) ?_
        refine lv_dup hx hb dX12_take_87 rfl ?_
        refine ng_5 hx hb hts in_x_take hown hK hP (hts _ (List.mem_cons_of_mem _ (List.mem_append_left _ (List.mem_append_left _ (List.mem_of_getElem? (i := 4) rfl))))) dX12_take_88 ?_
        refine lv_iconst (v := 1) hx hb dX12_take_91 (by decide) ?_
        refine lv_iadd hx hb dX12_take_92 ?_
        refine np_5 hx hb hts in_x_take hown hK hP hD hS (hts _ (List.mem_cons_of_mem _ (List.mem_append_left _ (List.mem_append_left _ (List.mem_of_getElem? (i := 4) rfl))))) dX12_take_93 (fun H locs hP hD hS => ?_)
        refine lv_goto (tgt := 45) hx hb dX12_take_96 (by decide) ?_
        exact ih.2.2.2.1 L (upd σ.1 5 ((((σ.1 5)) + 1)), σ.2.1, σ.2.2) r h H locs ls hP hD hS (lv_sub hl [0] rfl)
      · intro L σ r h H locs ls hP hD hS hl
        rw [x_take] at h
        refine lv_aload_n hx hb dX12_take_99 rfl (lv_at hl 0 rfl) ?_
        refine lv_aload_n hx hb dX12_take_100 rfl (lv_at hl 0 rfl) ?_
        refine lv_aload_n hx hb dX12_take_101 rfl (lv_at hl 0 rfl) ?_
        refine ng_8 hx hb hts in_x_take hown hK hP (hts _ (List.mem_cons_of_mem _ (List.mem_append_left _ (List.mem_append_left _ (List.mem_of_getElem? (i := 5) rfl))))) dX12_take_102 ?_
        refine lv_aload_n hx hb dX12_take_105 rfl (lv_at hl 0 rfl) ?_
        refine ng_5 hx hb hts in_x_take hown hK hP (hts _ (List.mem_cons_of_mem _ (List.mem_append_left _ (List.mem_append_left _ (List.mem_of_getElem? (i := 4) rfl))))) dX12_take_106 ?_
        obtain ⟨r1, hc1, h⟩ := ob_ex h
        refine nc_Vi (As := [.int (σ.1 8), .int (σ.1 5)]) (rest := [.ref (a 0)]) ⟨hx, hb, hml, hown, hts⟩ (c_x_wordAt l dC dI cy a k (upd (upd (fun _ => 0) 1 ((σ.1 8))) 2 ((σ.1 5))) σ r1 hc1 H.size) (cwV 2 hts g_x_take_wordAt_45 rfl rfl rfl hd_x_wordAt ⟨Nat.le_of_ble_eq_true rfl, Nat.le_of_ble_eq_true rfl⟩) hK hG hA hP hD hS rfl hl.1 rfl (Nat.le_of_ble_eq_true rfl) dX12_take_109 ⟨Nat.le_refl _, Nat.le_refl _⟩ (fun H locs hP hD hS => ?_)
        refine np_7 hx hb hts in_x_take hown hK hP hD hS (hts _ (List.mem_cons_of_mem _ (List.mem_append_left _ (List.mem_append_left _ (List.mem_of_getElem? (i := 18) rfl))))) dX12_take_112 (fun H locs hP hD hS => ?_)
        exact ih.2.2.2.2.2.2.1 L (upd r1.2.1 7 r1.1, r1.2.2.1, r1.2.2.2) r h H locs ls hP hD hS (lv_sub hl [0] rfl)
      · intro L σ r h H locs ls hP hD hS hl
        rw [x_take] at h
        refine lv_aload_n hx hb dX12_take_115 rfl (lv_at hl 0 rfl) ?_
        refine lv_aload_n hx hb dX12_take_116 rfl (lv_at hl 0 rfl) ?_
        refine ng_5 hx hb hts in_x_take hown hK hP (hts _ (List.mem_cons_of_mem _ (List.mem_append_left _ (List.mem_append_left _ (List.mem_of_getElem? (i := 4) rfl))))) dX12_take_117 ?_
        refine lv_aload_n hx hb dX12_take_120 rfl (lv_at hl 0 rfl) ?_
        refine ng_8 hx hb hts in_x_take hown hK hP (hts _ (List.mem_cons_of_mem _ (List.mem_append_left _ (List.mem_append_left _ (List.mem_of_getElem? (i := 5) rfl))))) dX12_take_121 ?_
        refine lv_isub hx hb dX12_take_124 ?_
        refine lv_bipush (v := 16) hx hb dX12_take_125 (by decide) ?_
        refine lv_icmp_le (tgt := 135) hx hb dX12_take_127 (by decide) (fun c1 => ?_) (fun c1 => ?_)
        · rw [if_pos c1] at h
          exact ih.2.2.2.2.2.2.2.1 L σ r h H locs ls hP hD hS (lv_sub hl [0] rfl)
        · rw [if_neg c1] at h
          refine lv_bipush (v := 6) hx hb dX12_take_130 (by decide) ?_
          refine lv_goto (tgt := 148) hx hb dX12_take_132 (by decide) ?_
          exact ih.2.2.2.2.2.2.2.2.2.1 (upd L 100 6) σ r h H locs ls hP hD hS (lv_sub hl [0] rfl)
      · intro L σ r h H locs ls hP hD hS hl
        rw [x_take] at h
        refine lv_aload_n hx hb dX12_take_135 rfl (lv_at hl 0 rfl) ?_
        refine ng_7 hx hb hts in_x_take hown hK hP (hts _ (List.mem_cons_of_mem _ (List.mem_append_left _ (List.mem_append_left _ (List.mem_of_getElem? (i := 18) rfl))))) dX12_take_136 ?_
        refine lv_iconst (v := (-1)) hx hb dX12_take_139 (by decide) ?_
        refine lv_icmp_ne (tgt := 147) hx hb dX12_take_140 (by decide) (fun c1 => ?_) (fun c1 => ?_)
        · rw [if_neg c1] at h
          exact ih.2.2.2.2.2.2.2.2.1 L σ r h H locs ls hP hD hS (lv_sub hl [0] rfl)
        · rw [if_pos c1] at h
          refine lv_iconst (v := 1) hx hb dX12_take_143 (by decide) ?_
          refine lv_goto (tgt := 148) hx hb dX12_take_144 (by decide) ?_
          exact ih.2.2.2.2.2.2.2.2.2.1 (upd L 100 1) σ r h H locs ls hP hD hS (lv_sub hl [0] rfl)
      · intro L σ r h H locs ls hP hD hS hl
        rw [x_take] at h
        refine lv_iconst (v := 5) hx hb dX12_take_147 (by decide) ?_
        exact ih.2.2.2.2.2.2.2.2.2.1 (upd L 100 5) σ r h H locs ls hP hD hS (lv_sub hl [0] rfl)
      · intro L σ r h H locs ls hP hD hS hl
        rw [x_take] at h
        refine np_6 hx hb hts in_x_take hown hK hP hD hS (hts _ (List.mem_cons_of_mem _ (List.mem_append_left _ (List.mem_append_left _ (List.mem_of_getElem? (i := 7) rfl))))) dX12_take_148 (fun H locs hP hD hS => ?_)
        refine lv_goto (tgt := 487) hx hb dX12_take_151 (by decide) ?_
        exact ih.2.2.2.2.2.2.2.2.2.2.2.2.2.2.2.2.2.2.2.2.2.2.2.2.2.2.2.2.2.2.2.2.2.1 L (upd σ.1 6 ((L 100)), σ.2.1, σ.2.2) r h H locs ls hP hD hS (lv_sub hl [0] rfl)
      · intro L σ r h H locs ls hP hD hS hl
        rw [x_take] at h
        refine lv_aload_n hx hb dX12_take_154 rfl (lv_at hl 0 rfl) ?_
        refine lv_aload_n hx hb dX12_take_155 rfl (lv_at hl 0 rfl) ?_
        refine ng_5 hx hb hts in_x_take hown hK hP (hts _ (List.mem_cons_of_mem _ (List.mem_append_left _ (List.mem_append_left _ (List.mem_of_getElem? (i := 4) rfl))))) dX12_take_156 ?_
        obtain ⟨r1, hc1, h⟩ := ob_ex h
        refine nc_Vi (As := [.int (σ.1 5)]) (rest := []) ⟨hx, hb, hml, hown, hts⟩ (c_x_byteAt l dC dI cy a k (upd (fun _ => 0) 1 ((σ.1 5))) σ r1 hc1 H.size) (cwV 1 hts g_x_take_byteAt_24 rfl rfl rfl hd_x_byteAt ⟨Nat.le_of_ble_eq_true rfl, Nat.le_of_ble_eq_true rfl⟩) hK hG hA hP hD hS rfl hl.1 rfl (Nat.le_of_ble_eq_true rfl) dX12_take_159 ⟨Nat.le_refl _, Nat.le_refl _⟩ (fun H locs hP hD hS => ?_)
        obtain ⟨r2, hc2, h⟩ := ob_ex h
        refine nc_Si (As := [.int r1.1]) (rest := []) ⟨hx, hb, hml, hown, hts⟩ (c_x_isDigit l dC dI cy a k (upd (fun _ => 0) 0 r1.1) r1.2 r2 hc2 H.size) (va_cwS 1 hts g_x_take_isDigit_42 rfl rfl rfl hd_x_isDigit ⟨Nat.le_of_ble_eq_true rfl, Nat.le_of_ble_eq_true rfl⟩) hK hG hA hP hD hS rfl hl.1 rfl (Nat.le_of_ble_eq_true rfl) dX12_take_162 ⟨Nat.le_refl _, Nat.le_refl _⟩ (fun H locs hP hD hS => ?_)
        refine lv_if_eq (tgt := 222) hx hb dX12_take_165 (by decide) (fun c3 => ?_) (fun c3 => ?_)
        · rw [if_pos c3] at h
          exact ih.2.2.2.2.2.2.2.2.2.2.2.2.2.2.2.1 L r2.2 r h H locs ls hP hD hS (lv_sub hl [0] rfl)
        · rw [if_neg c3] at h
          exact ih.2.2.2.2.2.2.2.2.2.2.2.1 L r2.2 r h H locs ls hP hD hS (lv_sub hl [0] rfl)
      · intro L σ r h H locs ls hP hD hS hl
        rw [x_take] at h
        refine lv_aload_n hx hb dX12_take_168 rfl (lv_at hl 0 rfl) ?_
        refine lv_aload_n hx hb dX12_take_169 rfl (lv_at hl 0 rfl) ?_
        refine ng_5 hx hb hts in_x_take hown hK hP (hts _ (List.mem_cons_of_mem _ (List.mem_append_left _ (List.mem_append_left _ (List.mem_of_getElem? (i := 4) rfl))))) dX12_take_170 ?_
        obtain ⟨r1, hc1, h⟩ := ob_ex h
        refine nc_Vi (As := [.int (σ.1 5)]) (rest := []) ⟨hx, hb, hml, hown, hts⟩ (c_x_byteAt l dC dI cy a k (upd (fun _ => 0) 1 ((σ.1 5))) σ r1 hc1 H.size) (cwV 1 hts g_x_take_byteAt_24 rfl rfl rfl hd_x_byteAt ⟨Nat.le_of_ble_eq_true rfl, Nat.le_of_ble_eq_true rfl⟩) hK hG hA hP hD hS rfl hl.1 rfl (Nat.le_of_ble_eq_true rfl) dX12_take_173 ⟨Nat.le_refl _, Nat.le_refl _⟩ (fun H locs hP hD hS => ?_)
        obtain ⟨r2, hc2, h⟩ := ob_ex h
        refine nc_Si (As := [.int r1.1]) (rest := []) ⟨hx, hb, hml, hown, hts⟩ (c_x_isDigit l dC dI cy a k (upd (fun _ => 0) 0 r1.1) r1.2 r2 hc2 H.size) (va_cwS 1 hts g_x_take_isDigit_42 rfl rfl rfl hd_x_isDigit ⟨Nat.le_of_ble_eq_true rfl, Nat.le_of_ble_eq_true rfl⟩) hK hG hA hP hD hS rfl hl.1 rfl (Nat.le_of_ble_eq_true rfl) dX12_take_176 ⟨Nat.le_refl _, Nat.le_refl _⟩ (fun H locs hP hD hS => ?_)
        refine lv_if_eq (tgt := 195) hx hb dX12_take_179 (by decide) (fun c3 => ?_) (fun c3 => ?_)
        · rw [if_pos c3] at h
          exact ih.2.2.2.2.2.2.2.2.2.2.2.2.1 L r2.2 r h H locs ls hP hD hS (lv_sub hl [0] rfl)
        · rw [if_neg c3] at h
          refine lv_aload_n hx hb dX12_take_182 rfl (lv_at hl 0 rfl) ?_
          refine lv_dup hx hb dX12_take_183 rfl ?_
          refine ng_5 hx hb hts in_x_take hown hK hP (hts _ (List.mem_cons_of_mem _ (List.mem_append_left _ (List.mem_append_left _ (List.mem_of_getElem? (i := 4) rfl))))) dX12_take_184 ?_
          refine lv_iconst (v := 1) hx hb dX12_take_187 (by decide) ?_
          refine lv_iadd hx hb dX12_take_188 ?_
          refine np_5 hx hb hts in_x_take hown hK hP hD hS (hts _ (List.mem_cons_of_mem _ (List.mem_append_left _ (List.mem_append_left _ (List.mem_of_getElem? (i := 4) rfl))))) dX12_take_189 (fun H locs hP hD hS => ?_)
          refine lv_goto (tgt := 168) hx hb dX12_take_192 (by decide) ?_
          exact ih.2.2.2.2.2.2.2.2.2.2.2.1 L (upd r2.2.1 5 ((((r2.2.1 5)) + 1)), r2.2.2.1, r2.2.2.2) r h H locs ls hP hD hS (lv_sub hl [0] rfl)
      · intro L σ r h H locs ls hP hD hS hl
        rw [x_take] at h
        refine lv_aload_n hx hb dX12_take_195 rfl (lv_at hl 0 rfl) ?_
        refine lv_aload_n hx hb dX12_take_196 rfl (lv_at hl 0 rfl) ?_
        refine ng_5 hx hb hts in_x_take hown hK hP (hts _ (List.mem_cons_of_mem _ (List.mem_append_left _ (List.mem_append_left _ (List.mem_of_getElem? (i := 4) rfl))))) dX12_take_197 ?_
        refine lv_aload_n hx hb dX12_take_200 rfl (lv_at hl 0 rfl) ?_
        refine ng_8 hx hb hts in_x_take hown hK hP (hts _ (List.mem_cons_of_mem _ (List.mem_append_left _ (List.mem_append_left _ (List.mem_of_getElem? (i := 5) rfl))))) dX12_take_201 ?_
        refine lv_isub hx hb dX12_take_204 ?_
        refine lv_bipush (v := 60) hx hb dX12_take_205 (by decide) ?_
        refine lv_icmp_le (tgt := 215) hx hb dX12_take_207 (by decide) (fun c1 => ?_) (fun c1 => ?_)
        · rw [if_pos c1] at h
          exact ih.2.2.2.2.2.2.2.2.2.2.2.2.2.1 L σ r h H locs ls hP hD hS (lv_sub hl [0] rfl)
        · rw [if_neg c1] at h
          refine lv_bipush (v := 6) hx hb dX12_take_210 (by decide) ?_
          refine lv_goto (tgt := 216) hx hb dX12_take_212 (by decide) ?_
          exact ih.2.2.2.2.2.2.2.2.2.2.2.2.2.2.1 (upd L 100 6) σ r h H locs ls hP hD hS (lv_sub hl [0] rfl)
      · intro L σ r h H locs ls hP hD hS hl
        rw [x_take] at h
        refine lv_iconst (v := 2) hx hb dX12_take_215 (by decide) ?_
        exact ih.2.2.2.2.2.2.2.2.2.2.2.2.2.2.1 (upd L 100 2) σ r h H locs ls hP hD hS (lv_sub hl [0] rfl)
      · intro L σ r h H locs ls hP hD hS hl
        rw [x_take] at h
        refine np_6 hx hb hts in_x_take hown hK hP hD hS (hts _ (List.mem_cons_of_mem _ (List.mem_append_left _ (List.mem_append_left _ (List.mem_of_getElem? (i := 7) rfl))))) dX12_take_216 (fun H locs hP hD hS => ?_)
        refine lv_goto (tgt := 487) hx hb dX12_take_219 (by decide) ?_
        exact ih.2.2.2.2.2.2.2.2.2.2.2.2.2.2.2.2.2.2.2.2.2.2.2.2.2.2.2.2.2.2.2.2.2.1 L (upd σ.1 6 ((L 100)), σ.2.1, σ.2.2) r h H locs ls hP hD hS (lv_sub hl [0] rfl)
      · intro L σ r h H locs ls hP hD hS hl
        rw [x_take] at h
        refine lv_aload_n hx hb dX12_take_222 rfl (lv_at hl 0 rfl) ?_
        refine lv_aload_n hx hb dX12_take_223 rfl (lv_at hl 0 rfl) ?_
        refine ng_5 hx hb hts in_x_take hown hK hP (hts _ (List.mem_cons_of_mem _ (List.mem_append_left _ (List.mem_append_left _ (List.mem_of_getElem? (i := 4) rfl))))) dX12_take_224 ?_
        obtain ⟨r1, hc1, h⟩ := ob_ex h
        refine nc_Vi (As := [.int (σ.1 5)]) (rest := []) ⟨hx, hb, hml, hown, hts⟩ (c_x_byteAt l dC dI cy a k (upd (fun _ => 0) 1 ((σ.1 5))) σ r1 hc1 H.size) (cwV 1 hts g_x_take_byteAt_24 rfl rfl rfl hd_x_byteAt ⟨Nat.le_of_ble_eq_true rfl, Nat.le_of_ble_eq_true rfl⟩) hK hG hA hP hD hS rfl hl.1 rfl (Nat.le_of_ble_eq_true rfl) dX12_take_227 ⟨Nat.le_refl _, Nat.le_refl _⟩ (fun H locs hP hD hS => ?_)
        refine lv_bipush (v := 34) hx hb dX12_take_230 (by decide) ?_
        refine lv_icmp_ne (tgt := 379) hx hb dX12_take_232 (by decide) (fun c2 => ?_) (fun c2 => ?_)
        · rw [if_neg c2] at h
          exact ih.2.2.2.2.2.2.2.2.2.2.2.2.2.2.2.2.2.2.2.2.2.2.2.2.2.1 L r1.2 r h H locs ls hP hD hS (lv_sub hl [0] rfl)
        · rw [if_pos c2] at h
          refine lv_aload_n hx hb dX12_take_235 rfl (lv_at hl 0 rfl) ?_
          refine lv_dup hx hb dX12_take_236 rfl ?_
          refine ng_5 hx hb hts in_x_take hown hK hP (hts _ (List.mem_cons_of_mem _ (List.mem_append_left _ (List.mem_append_left _ (List.mem_of_getElem? (i := 4) rfl))))) dX12_take_237 ?_
          refine lv_iconst (v := 1) hx hb dX12_take_240 (by decide) ?_
          refine lv_iadd hx hb dX12_take_241 ?_
          refine np_5 hx hb hts in_x_take hown hK hP hD hS (hts _ (List.mem_cons_of_mem _ (List.mem_append_left _ (List.mem_append_left _ (List.mem_of_getElem? (i := 4) rfl))))) dX12_take_242 (fun H locs hP hD hS => ?_)
          exact ih.2.2.2.2.2.2.2.2.2.2.2.2.2.2.2.2.1 L (upd r1.2.1 5 ((((r1.2.1 5)) + 1)), r1.2.2.1, r1.2.2.2) r h H locs ls hP hD hS (lv_sub hl [0] rfl)
      · intro L σ r h H locs ls hP hD hS hl
        rw [x_take] at h
        refine lv_aload_n hx hb dX12_take_245 rfl (lv_at hl 0 rfl) ?_
        refine ng_5 hx hb hts in_x_take hown hK hP (hts _ (List.mem_cons_of_mem _ (List.mem_append_left _ (List.mem_append_left _ (List.mem_of_getElem? (i := 4) rfl))))) dX12_take_246 ?_
        refine lv_aload_n hx hb dX12_take_249 rfl (lv_at hl 0 rfl) ?_
        refine ng_4 hx hb hts in_x_take hown hK hP (hts _ (List.mem_cons_of_mem _ (List.mem_append_left _ (List.mem_append_left _ (List.mem_of_getElem? (i := 6) rfl))))) dX12_take_250 ?_
        refine lv_icmp_ge (tgt := 297) hx hb dX12_take_253 (by decide) (fun c1 => ?_) (fun c1 => ?_)
        · rw [if_pos c1] at h
          exact ih.2.2.2.2.2.2.2.2.2.2.2.2.2.2.2.2.2.1 L σ r h H locs ls hP hD hS (lv_sub hl [0] rfl)
        · rw [if_neg c1] at h
          refine lv_aload_n hx hb dX12_take_256 rfl (lv_at hl 0 rfl) ?_
          refine ng_3 hx hb hts in_x_take hown hK hP (hts _ (List.mem_cons_of_mem _ (List.mem_append_left _ (List.mem_append_left _ (List.mem_of_getElem? (i := 19) rfl))))) dX12_take_257 ?_
          refine lv_aload_n hx hb dX12_take_260 rfl (lv_at hl 0 rfl) ?_
          refine ng_5 hx hb hts in_x_take hown hK hP (hts _ (List.mem_cons_of_mem _ (List.mem_append_left _ (List.mem_append_left _ (List.mem_of_getElem? (i := 4) rfl))))) dX12_take_261 ?_
          obtain ⟨q2, h⟩ := nb_ite1 h
          refine nl_3 hx hb hK hP q2 dX12_take_264 ?_
          refine lv_bipush (v := 34) hx hb dX12_take_265 (by decide) ?_
          refine lv_icmp_eq (tgt := 297) hx hb dX12_take_267 (by decide) (fun c3 => ?_) (fun c3 => ?_)
          · rw [if_pos c3] at h
            exact ih.2.2.2.2.2.2.2.2.2.2.2.2.2.2.2.2.2.1 L σ r h H locs ls hP hD hS (lv_sub hl [0] rfl)
          · rw [if_neg c3] at h
            refine lv_aload_n hx hb dX12_take_270 rfl (lv_at hl 0 rfl) ?_
            refine ng_3 hx hb hts in_x_take hown hK hP (hts _ (List.mem_cons_of_mem _ (List.mem_append_left _ (List.mem_append_left _ (List.mem_of_getElem? (i := 19) rfl))))) dX12_take_271 ?_
            refine lv_aload_n hx hb dX12_take_274 rfl (lv_at hl 0 rfl) ?_
            refine ng_5 hx hb hts in_x_take hown hK hP (hts _ (List.mem_cons_of_mem _ (List.mem_append_left _ (List.mem_append_left _ (List.mem_of_getElem? (i := 4) rfl))))) dX12_take_275 ?_
            obtain ⟨q4, h⟩ := nb_ite1 h
            refine nl_3 hx hb hK hP q4 dX12_take_278 ?_
            refine lv_bipush (v := 31) hx hb dX12_take_279 (by decide) ?_
            refine lv_icmp_le (tgt := 297) hx hb dX12_take_281 (by decide) (fun c5 => ?_) (fun c5 => ?_)
            · rw [if_pos c5] at h
              exact ih.2.2.2.2.2.2.2.2.2.2.2.2.2.2.2.2.2.1 L σ r h H locs ls hP hD hS (lv_sub hl [0] rfl)
            · rw [if_neg c5] at h
              refine lv_aload_n hx hb dX12_take_284 rfl (lv_at hl 0 rfl) ?_
              refine lv_dup hx hb dX12_take_285 rfl ?_
              refine ng_5 hx hb hts in_x_take hown hK hP (hts _ (List.mem_cons_of_mem _ (List.mem_append_left _ (List.mem_append_left _ (List.mem_of_getElem? (i := 4) rfl))))) dX12_take_286 ?_
              refine lv_iconst (v := 1) hx hb dX12_take_289 (by decide) ?_
              refine lv_iadd hx hb dX12_take_290 ?_
              refine np_5 hx hb hts in_x_take hown hK hP hD hS (hts _ (List.mem_cons_of_mem _ (List.mem_append_left _ (List.mem_append_left _ (List.mem_of_getElem? (i := 4) rfl))))) dX12_take_291 (fun H locs hP hD hS => ?_)
              refine lv_goto (tgt := 245) hx hb dX12_take_294 (by decide) ?_
              exact ih.2.2.2.2.2.2.2.2.2.2.2.2.2.2.2.2.1 L (upd σ.1 5 ((((σ.1 5)) + 1)), σ.2.1, σ.2.2) r h H locs ls hP hD hS (lv_sub hl [0] rfl)
      · intro L σ r h H locs ls hP hD hS hl
        rw [x_take] at h
        refine lv_aload_n hx hb dX12_take_297 rfl (lv_at hl 0 rfl) ?_
        refine ng_5 hx hb hts in_x_take hown hK hP (hts _ (List.mem_cons_of_mem _ (List.mem_append_left _ (List.mem_append_left _ (List.mem_of_getElem? (i := 4) rfl))))) dX12_take_298 ?_
        refine lv_aload_n hx hb dX12_take_301 rfl (lv_at hl 0 rfl) ?_
        refine ng_4 hx hb hts in_x_take hown hK hP (hts _ (List.mem_cons_of_mem _ (List.mem_append_left _ (List.mem_append_left _ (List.mem_of_getElem? (i := 6) rfl))))) dX12_take_302 ?_
        refine lv_icmp_ge (tgt := 326) hx hb dX12_take_305 (by decide) (fun c1 => ?_) (fun c1 => ?_)
        · rw [if_pos c1] at h
          exact ih.2.2.2.2.2.2.2.2.2.2.2.2.2.2.2.2.2.2.1 L σ r h H locs ls hP hD hS (lv_sub hl [0] rfl)
        · rw [if_neg c1] at h
          refine lv_aload_n hx hb dX12_take_308 rfl (lv_at hl 0 rfl) ?_
          refine ng_3 hx hb hts in_x_take hown hK hP (hts _ (List.mem_cons_of_mem _ (List.mem_append_left _ (List.mem_append_left _ (List.mem_of_getElem? (i := 19) rfl))))) dX12_take_309 ?_
          refine lv_aload_n hx hb dX12_take_312 rfl (lv_at hl 0 rfl) ?_
          refine ng_5 hx hb hts in_x_take hown hK hP (hts _ (List.mem_cons_of_mem _ (List.mem_append_left _ (List.mem_append_left _ (List.mem_of_getElem? (i := 4) rfl))))) dX12_take_313 ?_
          obtain ⟨q2, h⟩ := nb_ite1 h
          refine nl_3 hx hb hK hP q2 dX12_take_316 ?_
          refine lv_bipush (v := 34) hx hb dX12_take_317 (by decide) ?_
          refine lv_icmp_ne (tgt := 326) hx hb dX12_take_319 (by decide) (fun c3 => ?_) (fun c3 => ?_)
          · rw [if_neg c3] at h
            exact ih.2.2.2.2.2.2.2.2.2.2.2.2.2.2.2.2.2.2.1 L σ r h H locs ls hP hD hS (lv_sub hl [0] rfl)
          · rw [if_pos c3] at h
            refine lv_iconst (v := 1) hx hb dX12_take_322 (by decide) ?_
            refine lv_goto (tgt := 327) hx hb dX12_take_323 (by decide) ?_
            exact ih.2.2.2.2.2.2.2.2.2.2.2.2.2.2.2.2.2.2.2.1 (upd L 100 1) σ r h H locs ls hP hD hS (lv_sub hl [0] rfl)
      · intro L σ r h H locs ls hP hD hS hl
        rw [x_take] at h
        refine lv_iconst (v := 0) hx hb dX12_take_326 (by decide) ?_
        exact ih.2.2.2.2.2.2.2.2.2.2.2.2.2.2.2.2.2.2.2.1 (upd L 100 0) σ r h H locs ls hP hD hS (lv_sub hl [0] rfl)
      · intro L σ r h H locs ls hP hD hS hl
        rw [x_take] at h
        refine lv_istore_n (lv' := [(1, .int (L 100)), (0, .ref (a 0))]) hx hb dX12_take_327 rfl hl (by decide) rfl (fun ls hl => ?_)
        refine lv_aload_n hx hb dX12_take_328 rfl (lv_at hl 1 rfl) ?_
        refine lv_iload_n hx hb dX12_take_329 rfl (lv_at hl 0 rfl) ?_
        refine lv_if_eq (tgt := 353) hx hb dX12_take_330 (by decide) (fun c1 => ?_) (fun c1 => ?_)
        · rw [if_pos c1] at h
          exact ih.2.2.2.2.2.2.2.2.2.2.2.2.2.2.2.2.2.2.2.2.1 (upd L 1 ((L 100))) σ r h H locs ls hP hD hS (lv_sub hl [1, 0] rfl)
        · rw [if_neg c1] at h
          refine lv_aload_n hx hb dX12_take_333 rfl (lv_at hl 1 rfl) ?_
          refine ng_5 hx hb hts in_x_take hown hK hP (hts _ (List.mem_cons_of_mem _ (List.mem_append_left _ (List.mem_append_left _ (List.mem_of_getElem? (i := 4) rfl))))) dX12_take_334 ?_
          refine lv_aload_n hx hb dX12_take_337 rfl (lv_at hl 1 rfl) ?_
          refine ng_8 hx hb hts in_x_take hown hK hP (hts _ (List.mem_cons_of_mem _ (List.mem_append_left _ (List.mem_append_left _ (List.mem_of_getElem? (i := 5) rfl))))) dX12_take_338 ?_
          refine lv_isub hx hb dX12_take_341 ?_
          refine lv_iconst (v := 1) hx hb dX12_take_342 (by decide) ?_
          refine lv_isub hx hb dX12_take_343 ?_
          refine lv_bipush (v := 100) hx hb dX12_take_344 (by decide) ?_
          refine lv_icmp_gt (tgt := 353) hx hb dX12_take_346 (by decide) (fun c2 => ?_) (fun c2 => ?_)
          · rw [if_pos c2] at h
            exact ih.2.2.2.2.2.2.2.2.2.2.2.2.2.2.2.2.2.2.2.2.1 (upd L 1 ((L 100))) σ r h H locs ls hP hD hS (lv_sub hl [1, 0] rfl)
          · rw [if_neg c2] at h
            refine lv_iconst (v := 3) hx hb dX12_take_349 (by decide) ?_
            refine lv_goto (tgt := 355) hx hb dX12_take_350 (by decide) ?_
            exact ih.2.2.2.2.2.2.2.2.2.2.2.2.2.2.2.2.2.2.2.2.2.1 (upd (upd L 1 ((L 100))) 100 3) σ r h H locs ls hP hD hS (lv_sub hl [1, 0] rfl)
      · intro L σ r h H locs ls hP hD hS hl
        rw [x_take] at h
        refine lv_bipush (v := 6) hx hb dX12_take_353 (by decide) ?_
        exact ih.2.2.2.2.2.2.2.2.2.2.2.2.2.2.2.2.2.2.2.2.2.1 (upd L 100 6) σ r h H locs ls hP hD hS (lv_sub hl [0, 1] rfl)
      · intro L σ r h H locs ls hP hD hS hl
        rw [x_take] at h
        refine np_6 hx hb hts in_x_take hown hK hP hD hS (hts _ (List.mem_cons_of_mem _ (List.mem_append_left _ (List.mem_append_left _ (List.mem_of_getElem? (i := 7) rfl))))) dX12_take_355 (fun H locs hP hD hS => ?_)
        exact ih.2.2.2.2.2.2.2.2.2.2.2.2.2.2.2.2.2.2.2.2.2.2.1 L (upd σ.1 6 ((L 100)), σ.2.1, σ.2.2) r h H locs ls hP hD hS (lv_sub hl [0, 1] rfl)
      · intro L σ r h H locs ls hP hD hS hl
        rw [x_take] at h
        refine lv_aload_n hx hb dX12_take_358 rfl (lv_at hl 0 rfl) ?_
        refine lv_dup hx hb dX12_take_359 rfl ?_
        refine ng_5 hx hb hts in_x_take hown hK hP (hts _ (List.mem_cons_of_mem _ (List.mem_append_left _ (List.mem_append_left _ (List.mem_of_getElem? (i := 4) rfl))))) dX12_take_360 ?_
        refine lv_iload_n hx hb dX12_take_363 rfl (lv_at hl 1 rfl) ?_
        refine lv_if_eq (tgt := 371) hx hb dX12_take_364 (by decide) (fun c1 => ?_) (fun c1 => ?_)
        · rw [if_pos c1] at h
          exact ih.2.2.2.2.2.2.2.2.2.2.2.2.2.2.2.2.2.2.2.2.2.2.2.1 (upd L 100 ((σ.1 5))) σ r h H locs ls hP hD hS (lv_sub hl [0, 1] rfl)
        · rw [if_neg c1] at h
          refine lv_iconst (v := 1) hx hb dX12_take_367 (by decide) ?_
          refine lv_goto (tgt := 372) hx hb dX12_take_368 (by decide) ?_
          exact ih.2.2.2.2.2.2.2.2.2.2.2.2.2.2.2.2.2.2.2.2.2.2.2.2.1 (upd (upd L 100 1) 101 ((σ.1 5))) σ r h H locs ls hP hD hS (lv_sub hl [0, 1] rfl)
      · intro L σ r h H locs ls hP hD hS hl
        rw [x_take] at h
        refine lv_iconst (v := 0) hx hb dX12_take_371 (by decide) ?_
        exact ih.2.2.2.2.2.2.2.2.2.2.2.2.2.2.2.2.2.2.2.2.2.2.2.2.1 (upd (upd L 100 0) 101 ((L 100))) σ r h H locs ls hP hD hS (lv_sub hl [0, 1] rfl)
      · intro L σ r h H locs ls hP hD hS hl
        rw [x_take] at h
        refine lv_iadd hx hb dX12_take_372 ?_
        refine np_5 hx hb hts in_x_take hown hK hP hD hS (hts _ (List.mem_cons_of_mem _ (List.mem_append_left _ (List.mem_append_left _ (List.mem_of_getElem? (i := 4) rfl))))) dX12_take_373 (fun H locs hP hD hS => ?_)
        refine lv_goto (tgt := 487) hx hb dX12_take_376 (by decide) ?_
        exact ih.2.2.2.2.2.2.2.2.2.2.2.2.2.2.2.2.2.2.2.2.2.2.2.2.2.2.2.2.2.2.2.2.2.1 L (upd σ.1 5 ((((L 101)) + ((L 100)))), σ.2.1, σ.2.2) r h H locs ls hP hD hS (lv_sub hl [0] rfl)
      · intro L σ r h H locs ls hP hD hS hl
        rw [x_take] at h
        refine lv_aload_n hx hb dX12_take_379 rfl (lv_at hl 0 rfl) ?_
        refine lv_aload_n hx hb dX12_take_380 rfl (lv_at hl 0 rfl) ?_
        refine lv_aload_n hx hb dX12_take_381 rfl (lv_at hl 0 rfl) ?_
        refine ng_5 hx hb hts in_x_take hown hK hP (hts _ (List.mem_cons_of_mem _ (List.mem_append_left _ (List.mem_append_left _ (List.mem_of_getElem? (i := 4) rfl))))) dX12_take_382 ?_
        obtain ⟨r1, hc1, h⟩ := ob_ex h
        refine nc_Vi (As := [.int (σ.1 5)]) (rest := [.ref (a 0)]) ⟨hx, hb, hml, hown, hts⟩ (c_x_byteAt l dC dI cy a k (upd (fun _ => 0) 1 ((σ.1 5))) σ r1 hc1 H.size) (cwV 1 hts g_x_take_byteAt_24 rfl rfl rfl hd_x_byteAt ⟨Nat.le_of_ble_eq_true rfl, Nat.le_of_ble_eq_true rfl⟩) hK hG hA hP hD hS rfl hl.1 rfl (Nat.le_of_ble_eq_true rfl) dX12_take_385 ⟨Nat.le_refl _, Nat.le_refl _⟩ (fun H locs hP hD hS => ?_)
        refine lv_aload_n hx hb dX12_take_388 rfl (lv_at hl 0 rfl) ?_
        refine lv_aload_n hx hb dX12_take_389 rfl (lv_at hl 0 rfl) ?_
        refine ng_5 hx hb hts in_x_take hown hK hP (hts _ (List.mem_cons_of_mem _ (List.mem_append_left _ (List.mem_append_left _ (List.mem_of_getElem? (i := 4) rfl))))) dX12_take_390 ?_
        refine lv_iconst (v := 1) hx hb dX12_take_393 (by decide) ?_
        refine lv_iadd hx hb dX12_take_394 ?_
        obtain ⟨r2, hc2, h⟩ := ob_ex h
        refine nc_Vi (As := [.int (((r1.2.1 5)) + 1)]) (rest := [.int r1.1, .ref (a 0)]) ⟨hx, hb, hml, hown, hts⟩ (c_x_byteAt l dC dI cy a k (upd (fun _ => 0) 1 ((((r1.2.1 5)) + 1))) r1.2 r2 hc2 H.size) (cwV 1 hts g_x_take_byteAt_24 rfl rfl rfl hd_x_byteAt ⟨Nat.le_of_ble_eq_true rfl, Nat.le_of_ble_eq_true rfl⟩) hK hG hA hP hD hS rfl hl.1 rfl (Nat.le_of_ble_eq_true rfl) dX12_take_395 ⟨Nat.le_refl _, Nat.le_refl _⟩ (fun H locs hP hD hS => ?_)
        obtain ⟨r3, hc3, h⟩ := ob_ex h
        refine nc_Si (As := [.int r1.1, .int r2.1]) (rest := [.ref (a 0)]) ⟨hx, hb, hml, hown, hts⟩ (c_x_sign l dC dI cy a k (upd (upd (fun _ => 0) 0 r1.1) 1 r2.1) r2.2 r3 hc3 H.size) (va_cwS 2 hts g_x_take_sign_52 rfl rfl rfl hd_x_sign ⟨Nat.le_of_ble_eq_true rfl, Nat.le_of_ble_eq_true rfl⟩) hK hG hA hP hD hS rfl hl.1 rfl (Nat.le_of_ble_eq_true rfl) dX12_take_398 ⟨Nat.le_refl _, Nat.le_refl _⟩ (fun H locs hP hD hS => ?_)
        refine np_7 hx hb hts in_x_take hown hK hP hD hS (hts _ (List.mem_cons_of_mem _ (List.mem_append_left _ (List.mem_append_left _ (List.mem_of_getElem? (i := 18) rfl))))) dX12_take_401 (fun H locs hP hD hS => ?_)
        exact ih.2.2.2.2.2.2.2.2.2.2.2.2.2.2.2.2.2.2.2.2.2.2.2.2.2.2.1 L (upd r3.2.1 7 r3.1, r3.2.2.1, r3.2.2.2) r h H locs ls hP hD hS (lv_sub hl [0] rfl)
      · intro L σ r h H locs ls hP hD hS hl
        rw [x_take] at h
        refine lv_aload_n hx hb dX12_take_404 rfl (lv_at hl 0 rfl) ?_
        refine lv_aload_n hx hb dX12_take_405 rfl (lv_at hl 0 rfl) ?_
        refine ng_7 hx hb hts in_x_take hown hK hP (hts _ (List.mem_cons_of_mem _ (List.mem_append_left _ (List.mem_append_left _ (List.mem_of_getElem? (i := 18) rfl))))) dX12_take_406 ?_
        refine lv_if_ne (tgt := 417) hx hb dX12_take_409 (by decide) (fun c1 => ?_) (fun c1 => ?_)
        · rw [if_neg c1] at h
          exact ih.2.2.2.2.2.2.2.2.2.2.2.2.2.2.2.2.2.2.2.2.2.2.2.2.2.2.2.1 L σ r h H locs ls hP hD hS (lv_sub hl [0] rfl)
        · rw [if_pos c1] at h
          refine lv_bipush (v := 6) hx hb dX12_take_412 (by decide) ?_
          refine lv_goto (tgt := 418) hx hb dX12_take_414 (by decide) ?_
          exact ih.2.2.2.2.2.2.2.2.2.2.2.2.2.2.2.2.2.2.2.2.2.2.2.2.2.2.2.2.1 (upd L 100 6) σ r h H locs ls hP hD hS (lv_sub hl [0] rfl)
      · intro L σ r h H locs ls hP hD hS hl
        rw [x_take] at h
        refine lv_iconst (v := 4) hx hb dX12_take_417 (by decide) ?_
        exact ih.2.2.2.2.2.2.2.2.2.2.2.2.2.2.2.2.2.2.2.2.2.2.2.2.2.2.2.2.1 (upd L 100 4) σ r h H locs ls hP hD hS (lv_sub hl [0] rfl)
      · intro L σ r h H locs ls hP hD hS hl
        rw [x_take] at h
        refine np_6 hx hb hts in_x_take hown hK hP hD hS (hts _ (List.mem_cons_of_mem _ (List.mem_append_left _ (List.mem_append_left _ (List.mem_of_getElem? (i := 7) rfl))))) dX12_take_418 (fun H locs hP hD hS => ?_)
        exact ih.2.2.2.2.2.2.2.2.2.2.2.2.2.2.2.2.2.2.2.2.2.2.2.2.2.2.2.2.2.1 L (upd σ.1 6 ((L 100)), σ.2.1, σ.2.2) r h H locs ls hP hD hS (lv_sub hl [0] rfl)
      · intro L σ r h H locs ls hP hD hS hl
        rw [x_take] at h
        refine lv_aload_n hx hb dX12_take_421 rfl (lv_at hl 0 rfl) ?_
        refine lv_dup hx hb dX12_take_422 rfl ?_
        refine ng_5 hx hb hts in_x_take hown hK hP (hts _ (List.mem_cons_of_mem _ (List.mem_append_left _ (List.mem_append_left _ (List.mem_of_getElem? (i := 4) rfl))))) dX12_take_423 ?_
        refine lv_aload_n hx hb dX12_take_426 rfl (lv_at hl 0 rfl) ?_
        refine ng_7 hx hb hts in_x_take hown hK hP (hts _ (List.mem_cons_of_mem _ (List.mem_append_left _ (List.mem_append_left _ (List.mem_of_getElem? (i := 18) rfl))))) dX12_take_427 ?_
        refine lv_iconst (v := 1) hx hb dX12_take_430 (by decide) ?_
        refine lv_icmp_eq (tgt := 478) hx hb dX12_take_431 (by decide) (fun c1 => ?_) (fun c1 => ?_)
        · rw [if_pos c1] at h
          exact ih.2.2.2.2.2.2.2.2.2.2.2.2.2.2.2.2.2.2.2.2.2.2.2.2.2.2.2.2.2.2.1 (upd L 100 ((σ.1 5))) σ r h H locs ls hP hD hS (lv_sub hl [0] rfl)
        · rw [if_neg c1] at h
          refine lv_aload_n hx hb dX12_take_434 rfl (lv_at hl 0 rfl) ?_
          refine ng_7 hx hb hts in_x_take hown hK hP (hts _ (List.mem_cons_of_mem _ (List.mem_append_left _ (List.mem_append_left _ (List.mem_of_getElem? (i := 18) rfl))))) dX12_take_435 ?_
          refine lv_iconst (v := 5) hx hb dX12_take_438 (by decide) ?_
          refine lv_icmp_eq (tgt := 478) hx hb dX12_take_439 (by decide) (fun c2 => ?_) (fun c2 => ?_)
          · rw [if_pos c2] at h
            exact ih.2.2.2.2.2.2.2.2.2.2.2.2.2.2.2.2.2.2.2.2.2.2.2.2.2.2.2.2.2.2.1 (upd L 100 ((σ.1 5))) σ r h H locs ls hP hD hS (lv_sub hl [0] rfl)
          · rw [if_neg c2] at h
            refine lv_aload_n hx hb dX12_take_442 rfl (lv_at hl 0 rfl) ?_
            refine ng_7 hx hb hts in_x_take hown hK hP (hts _ (List.mem_cons_of_mem _ (List.mem_append_left _ (List.mem_append_left _ (List.mem_of_getElem? (i := 18) rfl))))) dX12_take_443 ?_
            refine lv_bipush (v := 16) hx hb dX12_take_446 (by decide) ?_
            refine lv_icmp_eq (tgt := 478) hx hb dX12_take_448 (by decide) (fun c3 => ?_) (fun c3 => ?_)
            · rw [if_pos c3] at h
              exact ih.2.2.2.2.2.2.2.2.2.2.2.2.2.2.2.2.2.2.2.2.2.2.2.2.2.2.2.2.2.2.1 (upd L 100 ((σ.1 5))) σ r h H locs ls hP hD hS (lv_sub hl [0] rfl)
            · rw [if_neg c3] at h
              refine lv_aload_n hx hb dX12_take_451 rfl (lv_at hl 0 rfl) ?_
              refine ng_7 hx hb hts in_x_take hown hK hP (hts _ (List.mem_cons_of_mem _ (List.mem_append_left _ (List.mem_append_left _ (List.mem_of_getElem? (i := 18) rfl))))) dX12_take_452 ?_
              refine lv_bipush (v := 18) hx hb dX12_take_455 (by decide) ?_
              refine lv_icmp_eq (tgt := 478) hx hb dX12_take_457 (by decide) (fun c4 => ?_) (fun c4 => ?_)
              · rw [if_pos c4] at h
                exact ih.2.2.2.2.2.2.2.2.2.2.2.2.2.2.2.2.2.2.2.2.2.2.2.2.2.2.2.2.2.2.1 (upd L 100 ((σ.1 5))) σ r h H locs ls hP hD hS (lv_sub hl [0] rfl)
              · rw [if_neg c4] at h
                refine lv_aload_n hx hb dX12_take_460 rfl (lv_at hl 0 rfl) ?_
                refine ng_7 hx hb hts in_x_take hown hK hP (hts _ (List.mem_cons_of_mem _ (List.mem_append_left _ (List.mem_append_left _ (List.mem_of_getElem? (i := 18) rfl))))) dX12_take_461 ?_
                refine lv_bipush (v := 20) hx hb dX12_take_464 (by decide) ?_
                refine lv_icmp_eq (tgt := 478) hx hb dX12_take_466 (by decide) (fun c5 => ?_) (fun c5 => ?_)
                · rw [if_pos c5] at h
                  exact ih.2.2.2.2.2.2.2.2.2.2.2.2.2.2.2.2.2.2.2.2.2.2.2.2.2.2.2.2.2.2.1 (upd L 100 ((σ.1 5))) σ r h H locs ls hP hD hS (lv_sub hl [0] rfl)
                · rw [if_neg c5] at h
                  refine lv_aload_n hx hb dX12_take_469 rfl (lv_at hl 0 rfl) ?_
                  refine ng_7 hx hb hts in_x_take hown hK hP (hts _ (List.mem_cons_of_mem _ (List.mem_append_left _ (List.mem_append_left _ (List.mem_of_getElem? (i := 18) rfl))))) dX12_take_470 ?_
                  refine lv_bipush (v := 22) hx hb dX12_take_473 (by decide) ?_
                  refine lv_icmp_ne (tgt := 482) hx hb dX12_take_475 (by decide) (fun c6 => ?_) (fun c6 => ?_)
                  · rw [if_neg c6] at h
                    exact ih.2.2.2.2.2.2.2.2.2.2.2.2.2.2.2.2.2.2.2.2.2.2.2.2.2.2.2.2.2.2.2.1 (upd L 100 ((σ.1 5))) σ r h H locs ls hP hD hS (lv_sub hl [0] rfl)
                  · rw [if_pos c6] at h
                    exact ih.2.2.2.2.2.2.2.2.2.2.2.2.2.2.2.2.2.2.2.2.2.2.2.2.2.2.2.2.2.2.1 (upd L 100 ((σ.1 5))) σ r h H locs ls hP hD hS (lv_sub hl [0] rfl)
      · intro L σ r h H locs ls hP hD hS hl
        rw [x_take] at h
        refine lv_iconst (v := 2) hx hb dX12_take_478 (by decide) ?_
        refine lv_goto (tgt := 483) hx hb dX12_take_479 (by decide) ?_
        exact ih.2.2.2.2.2.2.2.2.2.2.2.2.2.2.2.2.2.2.2.2.2.2.2.2.2.2.2.2.2.2.2.2.1 (upd (upd L 100 2) 101 ((L 100))) σ r h H locs ls hP hD hS (lv_sub hl [0] rfl)
      · intro L σ r h H locs ls hP hD hS hl
        rw [x_take] at h
        refine lv_iconst (v := 1) hx hb dX12_take_482 (by decide) ?_
        exact ih.2.2.2.2.2.2.2.2.2.2.2.2.2.2.2.2.2.2.2.2.2.2.2.2.2.2.2.2.2.2.2.2.1 (upd (upd L 100 1) 101 ((L 100))) σ r h H locs ls hP hD hS (lv_sub hl [0] rfl)
      · intro L σ r h H locs ls hP hD hS hl
        rw [x_take] at h
        refine lv_iadd hx hb dX12_take_483 ?_
        refine np_5 hx hb hts in_x_take hown hK hP hD hS (hts _ (List.mem_cons_of_mem _ (List.mem_append_left _ (List.mem_append_left _ (List.mem_of_getElem? (i := 4) rfl))))) dX12_take_484 (fun H locs hP hD hS => ?_)
        exact ih.2.2.2.2.2.2.2.2.2.2.2.2.2.2.2.2.2.2.2.2.2.2.2.2.2.2.2.2.2.2.2.2.2.1 L (upd σ.1 5 ((((L 101)) + ((L 100)))), σ.2.1, σ.2.2) r h H locs ls hP hD hS (lv_sub hl [0] rfl)
      · intro L σ r h H locs ls hP hD hS hl
        rw [x_take] at h
        refine lv_aload_n hx hb dX12_take_487 rfl (lv_at hl 0 rfl) ?_
        refine lv_aload_n hx hb dX12_take_488 rfl (lv_at hl 0 rfl) ?_
        refine ng_5 hx hb hts in_x_take hown hK hP (hts _ (List.mem_cons_of_mem _ (List.mem_append_left _ (List.mem_append_left _ (List.mem_of_getElem? (i := 4) rfl))))) dX12_take_489 ?_
        refine np_9 hx hb hts in_x_take hown hK hP hD hS (hts _ (List.mem_cons_of_mem _ (List.mem_append_left _ (List.mem_append_left _ (List.mem_of_getElem? (i := 22) rfl))))) dX12_take_492 (fun H locs hP hD hS => ?_)
        exact ih.2.2.2.2.2.2.2.2.2.2.2.2.2.2.2.2.2.2.2.2.2.2.2.2.2.2.2.2.2.2.2.2.2.2.1 L (upd σ.1 9 ((σ.1 5)), σ.2.1, σ.2.2) r h H locs ls hP hD hS (lv_sub hl [0] rfl)
      · intro L σ r h H locs ls hP hD hS hl
        rw [x_take] at h
        refine lv_aload_n hx hb dX12_take_495 rfl (lv_at hl 0 rfl) ?_
        refine ng_6 hx hb hts in_x_take hown hK hP (hts _ (List.mem_cons_of_mem _ (List.mem_append_left _ (List.mem_append_left _ (List.mem_of_getElem? (i := 7) rfl))))) dX12_take_496 ?_
        refine lv_bipush (v := 6) hx hb dX12_take_499 (by decide) ?_
        refine lv_icmp_ne (tgt := 513) hx hb dX12_take_501 (by decide) (fun c1 => ?_) (fun c1 => ?_)
        · rw [if_neg c1] at h
          exact ih.2.2.2.2.2.2.2.2.2.2.2.2.2.2.2.2.2.2.2.2.2.2.2.2.2.2.2.2.2.2.2.2.2.2.2 L σ r h H locs ls hP hD hS (lv_sub hl [0] rfl)
        · rw [if_pos c1] at h
          refine lv_aload_n hx hb dX12_take_504 rfl (lv_at hl 0 rfl) ?_
          refine lv_iconst (v := 1) hx hb dX12_take_505 (by decide) ?_
          refine lv_aload_n hx hb dX12_take_506 rfl (lv_at hl 0 rfl) ?_
          refine ng_8 hx hb hts in_x_take hown hK hP (hts _ (List.mem_cons_of_mem _ (List.mem_append_left _ (List.mem_append_left _ (List.mem_of_getElem? (i := 5) rfl))))) dX12_take_507 ?_
          obtain ⟨r2, hc2, h⟩ := ob_ex h
          refine nc_Vv (As := [.int 1, .int (σ.1 8)]) (rest := []) ⟨hx, hb, hml, hown, hts⟩ (c_x_fault l dC dI cy a k (upd (upd (fun _ => 0) 1 1) 2 ((σ.1 8))) σ r2 hc2 H.size) (cwV 2 hts g_x_take_fault_58 rfl rfl rfl hd_x_fault ⟨Nat.le_of_ble_eq_true rfl, Nat.le_of_ble_eq_true rfl⟩) hK hG hA hP hD hS rfl hl.1 rfl (Nat.le_of_ble_eq_true rfl) dX12_take_510 ⟨Nat.le_refl _, Nat.le_refl _⟩ (fun H locs hP hD hS => ?_)
          exact ih.2.2.2.2.2.2.2.2.2.2.2.2.2.2.2.2.2.2.2.2.2.2.2.2.2.2.2.2.2.2.2.2.2.2.2 L r2.2 r h H locs ls hP hD hS (lv_sub hl [0] rfl)
      · intro L σ r h H locs ls hP hD hS hl
        rw [x_take] at h
        cases h
        exact W.vret hx hb hr (fun t ht hW => ⟨⟨(), rfl, trivial, by rw [ht]; exact hP, va_K.moved hW.alike hK, hD⟩, hS.F ht⟩) hS.2.2 dX12_take_513
  exact (blk k0).1 L0 σ0 r0 h0 s.heap [] ls hP hD hS hl

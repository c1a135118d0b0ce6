/-! Methods of the reference as functions over blocks with fuel, and their contracts over all states. -/
theorem nb_inp {i : Int32} {n : Nat} (h : ¬ (i < 0 ∨ n ≤ i.toNatClampNeg)) : vp_in i n := by unfold vp_in; exact h
def ob (x : Option (Int32 × MS)) (f : Int32 × MS → Option (Int32 × MS)) : Option (Int32 × MS) := match x with
  | none => none
  | some r => f r
theorem ob_none (f : Int32 × MS → Option (Int32 × MS)) : ob none f = none := rfl
theorem ob_some (r : Int32 × MS) (f : Int32 × MS → Option (Int32 × MS)) : ob (some r) f = f r := rfl
theorem nb_g3 {big : List Cond} {x1 x2 x3 : Cond} (h1 : x1 ∈ big) (h2 : x2 ∈ big) (h3 : x3 ∈ big) (h : [x1, x2, x3].all goodWord = true) : GoodIn big [x1, x2, x3] := goodIn_sub (List.forall_mem_cons.mpr ⟨h1, List.forall_mem_cons.mpr ⟨h2, List.forall_mem_cons.mpr ⟨h3, fun _ h => absurd h List.not_mem_nil⟩⟩⟩) h
/-! isLetter -/
def x_isLetter : Nat → Nat → (Nat → Int32) → MS → Option (Int32 × MS)
  | 0, _, _, _ => none
  | k + 1, 0, L, σ => if ((L 0)) < 65 then (x_isLetter k 1 L σ) else (if ((L 0)) ≤ 90 then (x_isLetter k 2 L σ) else (x_isLetter k 1 L σ))
  | k + 1, 1, L, σ => if ((L 0)) < 97 then (x_isLetter k 3 L σ) else (if 122 < ((L 0)) then (x_isLetter k 3 L σ) else (x_isLetter k 2 L σ))
  | k + 1, 2, L, σ => x_isLetter k 4 (upd L 100 1) σ
  | k + 1, 3, L, σ => x_isLetter k 4 (upd L 100 0) σ
  | k + 1, 4, L, σ => if ((L 100)) &&& 1 = ((L 100)) then some ((L 100), σ) else none
  | _ + 1, _ + 5, _, _ => none
def o_x_isLetter : List Cond := []
theorem o_x_isLetter_good : o_x_isLetter.all goodWord = true := by decide +kernel
def p_x_isLetter : List Cond := o_x_isLetter ++ []
theorem p_x_isLetter_good : p_x_isLetter.all goodWord = true := nb_all2 o_x_isLetter_good rfl
def w_x_isLetter : List Cond := .code yX12_isLetter cX12_isLetter 1 (some .boolean) :: (p_x_isLetter ++ fM)
theorem w_x_isLetter_good : w_x_isLetter.all goodWord = true := nb_allc (by decide +kernel) (nb_all2 p_x_isLetter_good fM_good)
theorem in_x_isLetter : ∀ w ∈ wsX120, w ∈ w_x_isLetter := fun _ h => List.mem_cons_of_mem _ (List.mem_append_right _ h)
set_option maxHeartbeats 40000000 in
set_option maxRecDepth 100000 in
theorem c_x_isLetter (l : Launch) (dC : Nat → ClassId) (dI : Nat → Nat → Nat) (cy : Nat → ClassId) (a : Nat → Nat) (k0 : Nat) (L0 : Nat → Int32) (σ0 : MS) (r0 : Int32 × MS) (h0 : x_isLetter k0 0 L0 σ0 = some r0) (sz : Nat) : Met l yX12_isLetter w_x_isLetter ({ frames := 0, cells := 0, slots := 0, locals := 0 }) (va_Pc [.int (L0 0)] (nIn (dC, dI) cy sz (vM cy a σ0))) (va_Qi (fun (z : Int32) (_ : Unit) => z = r0.1) (fun _ t => nOut (dC, dI) cy (va_A (vM cy a σ0) sz) (vM cy a r0.2) t) (va_A (vM cy a σ0) sz)) 0 0 (va_A (vM cy a σ0) sz) := by
  refine Met.ofW (cc := cX12_isLetter) (maxL := 1) (ret := (some .boolean)) (by decide) rfl ?_
  intro p e s m args below meth c s₁ B hml hv
  obtain ⟨rfl, hsz, hP, hK, hD0, hG⟩ := hv
  have hx := B.exec
  have hb := B.bytes
  have hr := B.returns
  have hts := atoms_spec (ws := w_x_isLetter) B.pre
  have hown : s.vm.findClass RX12 = some m.cls := findClass_of_methodNamed B.named
  have hlocks := B.notSynchronized
  subst hsz
  have hD := hD0.self (sz := s.heap.size)
  generalize hAe : va_A (vM cy a σ0) s.heap.size = A at hD ⊢
  have hA : ∀ q : Nat, s.heap.size ≤ q → A q := fun q h => by rw [← hAe]; exact Or.inr h
  have hS : va_S A s.heap s.heap [] := va_S.rf
  have hl := lv_entry ([.int (L0 0)]) (n := 1) (Nat.le_of_ble_eq_true rfl)
  rw [lg_entry_eq]
  generalize (lg_sl ([.int (L0 0)]) ++ List.replicate (1 - (lg_sl ([.int (L0 0)])).length) Slot.unset).toArray = ls at hl ⊢
  have hl : lv_has ls 1 [(0, .int (L0 0))] := hl
  have blk : ∀ k : Nat, (∀ (L : Nat → Int32) (σ : MS) (r : Int32 × MS), x_isLetter k 0 L σ = some r → ∀ (H : Heap) (locs : List Loc) (ls : Array Slot), va_P (dC, dI) nCl (vM cy a σ) H → va_D A (vM cy a σ) → va_S A s.heap H locs → lv_has ls 1 [(0, .int (L 0))] → W p l e (headSpec w_x_isLetter ({ frames := 0, cells := 0, slots := 0, locals := 0 })).room s m #[.int (L0 0)] below meth c H locs 0 0 (MQ below (va_Qi (fun (z : Int32) (_ : Unit) => z = r.1) (fun _ t => nOut (dC, dI) cy A (vM cy a r.2) t) A) #[.int (L0 0)] s 0 0 A) (F0 m 0 ls [])) ∧ (∀ (L : Nat → Int32) (σ : MS) (r : Int32 × MS), x_isLetter k 1 L σ = some r → ∀ (H : Heap) (locs : List Loc) (ls : Array Slot), va_P (dC, dI) nCl (vM cy a σ) H → va_D A (vM cy a σ) → va_S A s.heap H locs → lv_has ls 1 [(0, .int (L 0))] → W p l e (headSpec w_x_isLetter ({ frames := 0, cells := 0, slots := 0, locals := 0 })).room s m #[.int (L0 0)] below meth c H locs 0 0 (MQ below (va_Qi (fun (z : Int32) (_ : Unit) => z = r.1) (fun _ t => nOut (dC, dI) cy A (vM cy a r.2) t) A) #[.int (L0 0)] s 0 0 A) (F0 m 12 ls [])) ∧ (∀ (L : Nat → Int32) (σ : MS) (r : Int32 × MS), x_isLetter k 2 L σ = some r → ∀ (H : Heap) (locs : List Loc) (ls : Array Slot), va_P (dC, dI) nCl (vM cy a σ) H → va_D A (vM cy a σ) → va_S A s.heap H locs → lv_has ls 1 [(0, .int (L 0))] → W p l e (headSpec w_x_isLetter ({ frames := 0, cells := 0, slots := 0, locals := 0 })).room s m #[.int (L0 0)] below meth c H locs 0 0 (MQ below (va_Qi (fun (z : Int32) (_ : Unit) => z = r.1) (fun _ t => nOut (dC, dI) cy A (vM cy a r.2) t) A) #[.int (L0 0)] s 0 0 A) (F0 m 24 ls [])) ∧ (∀ (L : Nat → Int32) (σ : MS) (r : Int32 × MS), x_isLetter k 3 L σ = some r → ∀ (H : Heap) (locs : List Loc) (ls : Array Slot), va_P (dC, dI) nCl (vM cy a σ) H → va_D A (vM cy a σ) → va_S A s.heap H locs → lv_has ls 1 [(0, .int (L 0))] → W p l e (headSpec w_x_isLetter ({ frames := 0, cells := 0, slots := 0, locals := 0 })).room s m #[.int (L0 0)] below meth c H locs 0 0 (MQ below (va_Qi (fun (z : Int32) (_ : Unit) => z = r.1) (fun _ t => nOut (dC, dI) cy A (vM cy a r.2) t) A) #[.int (L0 0)] s 0 0 A) (F0 m 28 ls [])) ∧ (∀ (L : Nat → Int32) (σ : MS) (r : Int32 × MS), x_isLetter k 4 L σ = some r → ∀ (H : Heap) (locs : List Loc) (ls : Array Slot), va_P (dC, dI) nCl (vM cy a σ) H → va_D A (vM cy a σ) → va_S A s.heap H locs → lv_has ls 1 [(0, .int (L 0))] → W p l e (headSpec w_x_isLetter ({ frames := 0, cells := 0, slots := 0, locals := 0 })).room s m #[.int (L0 0)] below meth c H locs 0 0 (MQ below (va_Qi (fun (z : Int32) (_ : Unit) => z = r.1) (fun _ t => nOut (dC, dI) cy A (vM cy a r.2) t) A) #[.int (L0 0)] s 0 0 A) (F0 m 29 ls [.int (L 100)])) := by
    intro k
    induction k with
    | zero => exact ⟨fun L σ r h => (by cases h), fun L σ r h => (by cases h), fun L σ r h => (by cases h), fun L σ r h => (by cases h), fun L σ r h => (by cases h)⟩
    | succ k ih =>
      refine ⟨?_, ?_, ?_, ?_, ?_⟩
      · intro L σ r h H locs ls hP hD hS hl
        rw [x_isLetter] at h
        refine lv_iload_n hx hb dX12_isLetter_0 rfl (lv_at hl 0 rfl) ?_
        refine lv_bipush (v := 65) hx hb dX12_isLetter_1 (by decide) ?_
        refine lv_icmp_lt (tgt := 12) hx hb dX12_isLetter_3 (by decide) (fun c1 => ?_) (fun c1 => ?_)
        · rw [if_pos c1] at h
          exact ih.2.1 L σ r h H locs ls hP hD hS (lv_sub hl [0] rfl)
        · rw [if_neg c1] at h
          refine lv_iload_n hx hb dX12_isLetter_6 rfl (lv_at hl 0 rfl) ?_
          refine lv_bipush (v := 90) hx hb dX12_isLetter_7 (by decide) ?_
          refine lv_icmp_le (tgt := 24) hx hb dX12_isLetter_9 (by decide) (fun c2 => ?_) (fun c2 => ?_)
          · rw [if_pos c2] at h
            exact ih.2.2.1 L σ r h H locs ls hP hD hS (lv_sub hl [0] rfl)
          · rw [if_neg c2] at h
            exact ih.2.1 L σ r h H locs ls hP hD hS (lv_sub hl [0] rfl)
      · intro L σ r h H locs ls hP hD hS hl
        rw [x_isLetter] at h
        refine lv_iload_n hx hb dX12_isLetter_12 rfl (lv_at hl 0 rfl) ?_
        refine lv_bipush (v := 97) hx hb dX12_isLetter_13 (by decide) ?_
        refine lv_icmp_lt (tgt := 28) hx hb dX12_isLetter_15 (by decide) (fun c1 => ?_) (fun c1 => ?_)
        · rw [if_pos c1] at h
          exact ih.2.2.2.1 L σ r h H locs ls hP hD hS (lv_sub hl [0] rfl)
        · rw [if_neg c1] at h
          refine lv_iload_n hx hb dX12_isLetter_18 rfl (lv_at hl 0 rfl) ?_
          refine lv_bipush (v := 122) hx hb dX12_isLetter_19 (by decide) ?_
          refine lv_icmp_gt (tgt := 28) hx hb dX12_isLetter_21 (by decide) (fun c2 => ?_) (fun c2 => ?_)
          · rw [if_pos c2] at h
            exact ih.2.2.2.1 L σ r h H locs ls hP hD hS (lv_sub hl [0] rfl)
          · rw [if_neg c2] at h
            exact ih.2.2.1 L σ r h H locs ls hP hD hS (lv_sub hl [0] rfl)
      · intro L σ r h H locs ls hP hD hS hl
        rw [x_isLetter] at h
        refine lv_iconst (v := 1) hx hb dX12_isLetter_24 (by decide) ?_
        refine lv_goto (tgt := 29) hx hb dX12_isLetter_25 (by decide) ?_
        exact ih.2.2.2.2 (upd L 100 1) σ r h H locs ls hP hD hS (lv_sub hl [0] rfl)
      · intro L σ r h H locs ls hP hD hS hl
        rw [x_isLetter] at h
        refine lv_iconst (v := 0) hx hb dX12_isLetter_28 (by decide) ?_
        exact ih.2.2.2.2 (upd L 100 0) σ r h H locs ls hP hD hS (lv_sub hl [0] rfl)
      · intro L σ r h H locs ls hP hD hS hl
        rw [x_isLetter] at h
        by_cases q1 : ((L 100)) &&& 1 = ((L 100))
        · rw [if_pos q1] at h
          cases h
          exact W.zret (v := (L 100)) hx hb hr (congrArg Value.int q1) (fun t ht hW => ⟨⟨(L 100), (), rfl, rfl, by rw [ht]; exact hP, va_K.moved hW.alike hK, hD⟩, hS.F ht⟩) hS.2.2 dX12_isLetter_29
        · rw [if_neg q1] at h; cases h
  exact (blk k0).1 L0 σ0 r0 h0 s.heap [] ls hP hD hS hl
/-! isDigit -/
def x_isDigit : Nat → Nat → (Nat → Int32) → MS → Option (Int32 × MS)
  | 0, _, _, _ => none
  | k + 1, 0, L, σ => if ((L 0)) < 48 then (x_isDigit k 1 L σ) else (if 57 < ((L 0)) then (x_isDigit k 1 L σ) else (x_isDigit k 2 (upd L 100 1) σ))
  | k + 1, 1, L, σ => x_isDigit k 2 (upd L 100 0) σ
  | k + 1, 2, L, σ => if ((L 100)) &&& 1 = ((L 100)) then some ((L 100), σ) else none
  | _ + 1, _ + 3, _, _ => none
def o_x_isDigit : List Cond := []
theorem o_x_isDigit_good : o_x_isDigit.all goodWord = true := by decide +kernel
def p_x_isDigit : List Cond := o_x_isDigit ++ []
theorem p_x_isDigit_good : p_x_isDigit.all goodWord = true := nb_all2 o_x_isDigit_good rfl
def w_x_isDigit : List Cond := .code yX12_isDigit cX12_isDigit 1 (some .boolean) :: (p_x_isDigit ++ fM)
theorem w_x_isDigit_good : w_x_isDigit.all goodWord = true := nb_allc (by decide +kernel) (nb_all2 p_x_isDigit_good fM_good)
theorem in_x_isDigit : ∀ w ∈ wsX120, w ∈ w_x_isDigit := fun _ h => List.mem_cons_of_mem _ (List.mem_append_right _ h)
set_option maxHeartbeats 40000000 in
set_option maxRecDepth 100000 in
theorem c_x_isDigit (l : Launch) (dC : Nat → ClassId) (dI : Nat → Nat → Nat) (cy : Nat → ClassId) (a : Nat → Nat) (k0 : Nat) (L0 : Nat → Int32) (σ0 : MS) (r0 : Int32 × MS) (h0 : x_isDigit k0 0 L0 σ0 = some r0) (sz : Nat) : Met l yX12_isDigit w_x_isDigit ({ frames := 0, cells := 0, slots := 0, locals := 0 }) (va_Pc [.int (L0 0)] (nIn (dC, dI) cy sz (vM cy a σ0))) (va_Qi (fun (z : Int32) (_ : Unit) => z = r0.1) (fun _ t => nOut (dC, dI) cy (va_A (vM cy a σ0) sz) (vM cy a r0.2) t) (va_A (vM cy a σ0) sz)) 0 0 (va_A (vM cy a σ0) sz) := by
  refine Met.ofW (cc := cX12_isDigit) (maxL := 1) (ret := (some .boolean)) (by decide) rfl ?_
  intro p e s m args below meth c s₁ B hml hv
  obtain ⟨rfl, hsz, hP, hK, hD0, hG⟩ := hv
  have hx := B.exec
  have hb := B.bytes
  have hr := B.returns
  have hts := atoms_spec (ws := w_x_isDigit) B.pre
  have hown : s.vm.findClass RX12 = some m.cls := findClass_of_methodNamed B.named
  have hlocks := B.notSynchronized
  subst hsz
  have hD := hD0.self (sz := s.heap.size)
  generalize hAe : va_A (vM cy a σ0) s.heap.size = A at hD ⊢
  have hA : ∀ q : Nat, s.heap.size ≤ q → A q := fun q h => by rw [← hAe]; exact Or.inr h
  have hS : va_S A s.heap s.heap [] := va_S.rf
  have hl := lv_entry ([.int (L0 0)]) (n := 1) (Nat.le_of_ble_eq_true rfl)
  rw [lg_entry_eq]
  generalize (lg_sl ([.int (L0 0)]) ++ List.replicate (1 - (lg_sl ([.int (L0 0)])).length) Slot.unset).toArray = ls at hl ⊢
  have hl : lv_has ls 1 [(0, .int (L0 0))] := hl
  have blk : ∀ k : Nat, (∀ (L : Nat → Int32) (σ : MS) (r : Int32 × MS), x_isDigit k 0 L σ = some r → ∀ (H : Heap) (locs : List Loc) (ls : Array Slot), va_P (dC, dI) nCl (vM cy a σ) H → va_D A (vM cy a σ) → va_S A s.heap H locs → lv_has ls 1 [(0, .int (L 0))] → W p l e (headSpec w_x_isDigit ({ frames := 0, cells := 0, slots := 0, locals := 0 })).room s m #[.int (L0 0)] below meth c H locs 0 0 (MQ below (va_Qi (fun (z : Int32) (_ : Unit) => z = r.1) (fun _ t => nOut (dC, dI) cy A (vM cy a r.2) t) A) #[.int (L0 0)] s 0 0 A) (F0 m 0 ls [])) ∧ (∀ (L : Nat → Int32) (σ : MS) (r : Int32 × MS), x_isDigit k 1 L σ = some r → ∀ (H : Heap) (locs : List Loc) (ls : Array Slot), va_P (dC, dI) nCl (vM cy a σ) H → va_D A (vM cy a σ) → va_S A s.heap H locs → lv_has ls 1 [(0, .int (L 0))] → W p l e (headSpec w_x_isDigit ({ frames := 0, cells := 0, slots := 0, locals := 0 })).room s m #[.int (L0 0)] below meth c H locs 0 0 (MQ below (va_Qi (fun (z : Int32) (_ : Unit) => z = r.1) (fun _ t => nOut (dC, dI) cy A (vM cy a r.2) t) A) #[.int (L0 0)] s 0 0 A) (F0 m 16 ls [])) ∧ (∀ (L : Nat → Int32) (σ : MS) (r : Int32 × MS), x_isDigit k 2 L σ = some r → ∀ (H : Heap) (locs : List Loc) (ls : Array Slot), va_P (dC, dI) nCl (vM cy a σ) H → va_D A (vM cy a σ) → va_S A s.heap H locs → lv_has ls 1 [(0, .int (L 0))] → W p l e (headSpec w_x_isDigit ({ frames := 0, cells := 0, slots := 0, locals := 0 })).room s m #[.int (L0 0)] below meth c H locs 0 0 (MQ below (va_Qi (fun (z : Int32) (_ : Unit) => z = r.1) (fun _ t => nOut (dC, dI) cy A (vM cy a r.2) t) A) #[.int (L0 0)] s 0 0 A) (F0 m 17 ls [.int (L 100)])) := by
    intro k
    induction k with
    | zero => exact ⟨fun L σ r h => (by cases h), fun L σ r h => (by cases h), fun L σ r h => (by cases h)⟩
    | succ k ih =>
      refine ⟨?_, ?_, ?_⟩
      · intro L σ r h H locs ls hP hD hS hl
        rw [x_isDigit] at h
        refine lv_iload_n hx hb dX12_isDigit_0 rfl (lv_at hl 0 rfl) ?_
        refine lv_bipush (v := 48) hx hb dX12_isDigit_1 (by decide) ?_
        refine lv_icmp_lt (tgt := 16) hx hb dX12_isDigit_3 (by decide) (fun c1 => ?_) (fun c1 => ?_)
        · rw [if_pos c1] at h
          exact ih.2.1 L σ r h H locs ls hP hD hS (lv_sub hl [0] rfl)
        · rw [if_neg c1] at h
          refine lv_iload_n hx hb dX12_isDigit_6 rfl (lv_at hl 0 rfl) ?_
          refine lv_bipush (v := 57) hx hb dX12_isDigit_7 (by decide) ?_
          refine lv_icmp_gt (tgt := 16) hx hb dX12_isDigit_9 (by decide) (fun c2 => ?_) (fun c2 => ?_)
          · rw [if_pos c2] at h
            exact ih.2.1 L σ r h H locs ls hP hD hS (lv_sub hl [0] rfl)
          · rw [if_neg c2] at h
            refine lv_iconst (v := 1) hx hb dX12_isDigit_12 (by decide) ?_
            refine lv_goto (tgt := 17) hx hb dX12_isDigit_13 (by decide) ?_
            exact ih.2.2 (upd L 100 1) σ r h H locs ls hP hD hS (lv_sub hl [0] rfl)
      · intro L σ r h H locs ls hP hD hS hl
        rw [x_isDigit] at h
        refine lv_iconst (v := 0) hx hb dX12_isDigit_16 (by decide) ?_
        exact ih.2.2 (upd L 100 0) σ r h H locs ls hP hD hS (lv_sub hl [0] rfl)
      · intro L σ r h H locs ls hP hD hS hl
        rw [x_isDigit] at h
        by_cases q1 : ((L 100)) &&& 1 = ((L 100))
        · rw [if_pos q1] at h
          cases h
          exact W.zret (v := (L 100)) hx hb hr (congrArg Value.int q1) (fun t ht hW => ⟨⟨(L 100), (), rfl, rfl, by rw [ht]; exact hP, va_K.moved hW.alike hK, hD⟩, hS.F ht⟩) hS.2.2 dX12_isDigit_17
        · rw [if_neg q1] at h; cases h
  exact (blk k0).1 L0 σ0 r0 h0 s.heap [] ls hP hD hS hl
/-! byteAt -/
def x_byteAt : Nat → Nat → (Nat → Int32) → MS → Option (Int32 × MS)
  | 0, _, _, _ => none
  | k + 1, 0, L, σ => if ((σ.1 4)) ≤ ((L 1)) then (x_byteAt k 1 L σ) else (if ¬ (((L 1)) < 0 ∨ 32768 ≤ ((L 1)).toNatClampNeg) then (x_byteAt k 2 (upd L 100 ((σ.2.2 3 ((L 1)).toNatClampNeg))) σ) else none)
  | k + 1, 1, L, σ => x_byteAt k 2 (upd L 100 0) σ
  | k + 1, 2, L, σ => some ((L 100), σ)
  | _ + 1, _ + 3, _, _ => none
def o_x_byteAt : List Cond := [.fieldLink RX12 1 "SetHouseModel" "taped" "I", .fieldLink RX12 7 "SetHouseModel" "tape" "[I"]
theorem o_x_byteAt_good : o_x_byteAt.all goodWord = true := by decide +kernel
def p_x_byteAt : List Cond := o_x_byteAt ++ []
theorem p_x_byteAt_good : p_x_byteAt.all goodWord = true := nb_all2 o_x_byteAt_good rfl
def w_x_byteAt : List Cond := .code yX12_byteAt cX12_byteAt 2 (some .int) :: (p_x_byteAt ++ fM)
theorem w_x_byteAt_good : w_x_byteAt.all goodWord = true := nb_allc (by decide +kernel) (nb_all2 p_x_byteAt_good fM_good)
theorem in_x_byteAt : ∀ w ∈ wsX120, w ∈ w_x_byteAt := fun _ h => List.mem_cons_of_mem _ (List.mem_append_right _ h)
set_option maxHeartbeats 40000000 in
set_option maxRecDepth 100000 in
theorem c_x_byteAt (l : Launch) (dC : Nat → ClassId) (dI : Nat → Nat → Nat) (cy : Nat → ClassId) (a : Nat → Nat) (k0 : Nat) (L0 : Nat → Int32) (σ0 : MS) (r0 : Int32 × MS) (h0 : x_byteAt k0 0 L0 σ0 = some r0) (sz : Nat) : Met l yX12_byteAt w_x_byteAt ({ frames := 0, cells := 0, slots := 0, locals := 0 }) (va_Pc [.ref (a 0), .int (L0 1)] (nIn (dC, dI) cy sz (vM cy a σ0))) (va_Qi (fun (z : Int32) (_ : Unit) => z = r0.1) (fun _ t => nOut (dC, dI) cy (va_A (vM cy a σ0) sz) (vM cy a r0.2) t) (va_A (vM cy a σ0) sz)) 0 0 (va_A (vM cy a σ0) sz) := by
  refine Met.ofW (cc := cX12_byteAt) (maxL := 2) (ret := (some .int)) (by decide) rfl ?_
  intro p e s m args below meth c s₁ B hml hv
  obtain ⟨rfl, hsz, hP, hK, hD0, hG⟩ := hv
  have hx := B.exec
  have hb := B.bytes
  have hr := B.returns
  have hts := atoms_spec (ws := w_x_byteAt) B.pre
  have hown : s.vm.findClass RX12 = some m.cls := findClass_of_methodNamed B.named
  have hlocks := B.notSynchronized
  subst hsz
  have hD := hD0.self (sz := s.heap.size)
  generalize hAe : va_A (vM cy a σ0) s.heap.size = A at hD ⊢
  have hA : ∀ q : Nat, s.heap.size ≤ q → A q := fun q h => by rw [← hAe]; exact Or.inr h
  have hS : va_S A s.heap s.heap [] := va_S.rf
  have hl := lv_entry ([.ref (a 0), .int (L0 1)]) (n := 2) (Nat.le_of_ble_eq_true rfl)
  rw [lg_entry_eq]
  generalize (lg_sl ([.ref (a 0), .int (L0 1)]) ++ List.replicate (2 - (lg_sl ([.ref (a 0), .int (L0 1)])).length) Slot.unset).toArray = ls at hl ⊢
  have hl : lv_has ls 2 [(0, .ref (a 0)), (1, .int (L0 1))] := hl
  have blk : ∀ k : Nat, (∀ (L : Nat → Int32) (σ : MS) (r : Int32 × MS), x_byteAt k 0 L σ = some r → ∀ (H : Heap) (locs : List Loc) (ls : Array Slot), va_P (dC, dI) nCl (vM cy a σ) H → va_D A (vM cy a σ) → va_S A s.heap H locs → lv_has ls 2 [(0, .ref (a 0)), (1, .int (L 1))] → W p l e (headSpec w_x_byteAt ({ frames := 0, cells := 0, slots := 0, locals := 0 })).room s m #[.ref (a 0), .int (L0 1)] below meth c H locs 0 0 (MQ below (va_Qi (fun (z : Int32) (_ : Unit) => z = r.1) (fun _ t => nOut (dC, dI) cy A (vM cy a r.2) t) A) #[.ref (a 0), .int (L0 1)] s 0 0 A) (F0 m 0 ls [])) ∧ (∀ (L : Nat → Int32) (σ : MS) (r : Int32 × MS), x_byteAt k 1 L σ = some r → ∀ (H : Heap) (locs : List Loc) (ls : Array Slot), va_P (dC, dI) nCl (vM cy a σ) H → va_D A (vM cy a σ) → va_S A s.heap H locs → lv_has ls 2 [(0, .ref (a 0)), (1, .int (L 1))] → W p l e (headSpec w_x_byteAt ({ frames := 0, cells := 0, slots := 0, locals := 0 })).room s m #[.ref (a 0), .int (L0 1)] below meth c H locs 0 0 (MQ below (va_Qi (fun (z : Int32) (_ : Unit) => z = r.1) (fun _ t => nOut (dC, dI) cy A (vM cy a r.2) t) A) #[.ref (a 0), .int (L0 1)] s 0 0 A) (F0 m 17 ls [])) ∧ (∀ (L : Nat → Int32) (σ : MS) (r : Int32 × MS), x_byteAt k 2 L σ = some r → ∀ (H : Heap) (locs : List Loc) (ls : Array Slot), va_P (dC, dI) nCl (vM cy a σ) H → va_D A (vM cy a σ) → va_S A s.heap H locs → lv_has ls 2 [(0, .ref (a 0)), (1, .int (L 1))] → W p l e (headSpec w_x_byteAt ({ frames := 0, cells := 0, slots := 0, locals := 0 })).room s m #[.ref (a 0), .int (L0 1)] below meth c H locs 0 0 (MQ below (va_Qi (fun (z : Int32) (_ : Unit) => z = r.1) (fun _ t => nOut (dC, dI) cy A (vM cy a r.2) t) A) #[.ref (a 0), .int (L0 1)] s 0 0 A) (F0 m 18 ls [.int (L 100)])) := by
    intro k
    induction k with
    | zero => exact ⟨fun L σ r h => (by cases h), fun L σ r h => (by cases h), fun L σ r h => (by cases h)⟩
    | succ k ih =>
      refine ⟨?_, ?_, ?_⟩
      · intro L σ r h H locs ls hP hD hS hl
        rw [x_byteAt] at h
        refine lv_iload_n hx hb dX12_byteAt_0 rfl (lv_at hl 1 rfl) ?_
        refine lv_aload_n hx hb dX12_byteAt_1 rfl (lv_at hl 0 rfl) ?_
        refine va_get (D := (dC, dI)) (ci := 11) (v := .int (σ.1 4)) (C := RX12) (T := TX12) (N := 121) hx hb hts in_x_byteAt hown hK hP 0 rfl rfl 4 (by decide) (hts _ (List.mem_cons_of_mem _ (List.mem_append_left _ (List.mem_append_left _ (List.mem_of_getElem? (i := 0) rfl))))) (fun _ h9 => h9) rfl dX12_byteAt_2 ?_
        refine lv_icmp_ge (tgt := 17) hx hb dX12_byteAt_5 (by decide) (fun c1 => ?_) (fun c1 => ?_)
        · rw [if_pos c1] at h
          exact ih.2.1 L σ r h H locs ls hP hD hS (lv_sub hl [0, 1] rfl)
        · rw [if_neg c1] at h
          refine lv_aload_n hx hb dX12_byteAt_8 rfl (lv_at hl 0 rfl) ?_
          refine va_get (D := (dC, dI)) (ci := 11) (v := .ref (a 3)) (C := RX12) (T := TX12) (N := 121) hx hb hts in_x_byteAt hown hK hP 0 rfl rfl 3 (by decide) (hts _ (List.mem_cons_of_mem _ (List.mem_append_left _ (List.mem_append_left _ (List.mem_of_getElem? (i := 1) rfl))))) (fun _ h9 => h9) rfl dX12_byteAt_9 ?_
          refine lv_iload_n hx hb dX12_byteAt_12 rfl (lv_at hl 1 rfl) ?_
          by_cases q2 : ¬ (((L 1)) < 0 ∨ 32768 ≤ ((L 1)).toNatClampNeg)
          · rw [if_pos q2] at h
            refine va_iald hx hb hK hP 3 1 rfl rfl (nb_inp q2) dX12_byteAt_13 ?_
            refine lv_goto (tgt := 18) hx hb dX12_byteAt_14 (by decide) ?_
            exact ih.2.2 (upd L 100 ((σ.2.2 3 ((L 1)).toNatClampNeg))) σ r h H locs ls hP hD hS (lv_sub hl [0, 1] rfl)
          · rw [if_neg q2] at h; cases h
      · intro L σ r h H locs ls hP hD hS hl
        rw [x_byteAt] at h
        refine lv_iconst (v := 0) hx hb dX12_byteAt_17 (by decide) ?_
        exact ih.2.2 (upd L 100 0) σ r h H locs ls hP hD hS (lv_sub hl [0, 1] rfl)
      · intro L σ r h H locs ls hP hD hS hl
        rw [x_byteAt] at h
        cases h
        exact W.iret (v := (L 100)) hx hb hr (fun t ht hW => ⟨⟨(L 100), (), rfl, rfl, by rw [ht]; exact hP, va_K.moved hW.alike hK, hD⟩, hS.F ht⟩) hS.2.2 dX12_byteAt_18
  exact (blk k0).1 L0 σ0 r0 h0 s.heap [] ls hP hD hS hl
/-! fault -/
def x_fault : Nat → Nat → (Nat → Int32) → MS → Option (Int32 × MS)
  | 0, _, _, _ => none
  | k + 1, 0, L, σ => if ((σ.1 10)) = 0 then (x_fault k 1 L (upd (upd (upd σ.1 10 1, σ.2.1, σ.2.2).1 11 ((L 1)), (upd σ.1 10 1, σ.2.1, σ.2.2).2.1, (upd σ.1 10 1, σ.2.1, σ.2.2).2.2).1 12 ((L 2)), (upd (upd σ.1 10 1, σ.2.1, σ.2.2).1 11 ((L 1)), (upd σ.1 10 1, σ.2.1, σ.2.2).2.1, (upd σ.1 10 1, σ.2.1, σ.2.2).2.2).2.1, (upd (upd σ.1 10 1, σ.2.1, σ.2.2).1 11 ((L 1)), (upd σ.1 10 1, σ.2.1, σ.2.2).2.1, (upd σ.1 10 1, σ.2.1, σ.2.2).2.2).2.2)) else (x_fault k 1 L σ)
  | k + 1, 1, L, σ => some (0, σ)
  | _ + 1, _ + 2, _, _ => none
def o_x_fault : List Cond := [.fieldLink RX12 11 "SetHouseModel" "bad" "Z", .fieldLink RX12 15 "SetHouseModel" "faultCode" "I", .fieldLink RX12 18 "SetHouseModel" "faultPlace" "I"]
theorem o_x_fault_good : o_x_fault.all goodWord = true := by decide +kernel
def p_x_fault : List Cond := o_x_fault ++ []
theorem p_x_fault_good : p_x_fault.all goodWord = true := nb_all2 o_x_fault_good rfl
def w_x_fault : List Cond := .code yX12_fault cX12_fault 3 none :: (p_x_fault ++ fM)
theorem w_x_fault_good : w_x_fault.all goodWord = true := nb_allc (by decide +kernel) (nb_all2 p_x_fault_good fM_good)
theorem in_x_fault : ∀ w ∈ wsX120, w ∈ w_x_fault := fun _ h => List.mem_cons_of_mem _ (List.mem_append_right _ h)
set_option maxHeartbeats 40000000 in
set_option maxRecDepth 100000 in
theorem c_x_fault (l : Launch) (dC : Nat → ClassId) (dI : Nat → Nat → Nat) (cy : Nat → ClassId) (a : Nat → Nat) (k0 : Nat) (L0 : Nat → Int32) (σ0 : MS) (r0 : Int32 × MS) (h0 : x_fault k0 0 L0 σ0 = some r0) (sz : Nat) : Met l yX12_fault w_x_fault ({ frames := 0, cells := 0, slots := 0, locals := 0 }) (va_Pc [.ref (a 0), .int (L0 1), .int (L0 2)] (nIn (dC, dI) cy sz (vM cy a σ0))) (va_Qv (fun _ : Unit => True) (fun _ t => nOut (dC, dI) cy (va_A (vM cy a σ0) sz) (vM cy a r0.2) t) (va_A (vM cy a σ0) sz)) 0 0 (va_A (vM cy a σ0) sz) := by
  refine Met.ofW (cc := cX12_fault) (maxL := 3) (ret := none) (by decide) rfl ?_
  intro p e s m args below meth c s₁ B hml hv
  obtain ⟨rfl, hsz, hP, hK, hD0, hG⟩ := hv
  have hx := B.exec
  have hb := B.bytes
  have hr := B.returns
  have hts := atoms_spec (ws := w_x_fault) B.pre
  have hown : s.vm.findClass RX12 = some m.cls := findClass_of_methodNamed B.named
  have hlocks := B.notSynchronized
  subst hsz
  have hD := hD0.self (sz := s.heap.size)
  generalize hAe : va_A (vM cy a σ0) s.heap.size = A at hD ⊢
  have hA : ∀ q : Nat, s.heap.size ≤ q → A q := fun q h => by rw [← hAe]; exact Or.inr h
  have hS : va_S A s.heap s.heap [] := va_S.rf
  have hl := lv_entry ([.ref (a 0), .int (L0 1), .int (L0 2)]) (n := 3) (Nat.le_of_ble_eq_true rfl)
  rw [lg_entry_eq]
  generalize (lg_sl ([.ref (a 0), .int (L0 1), .int (L0 2)]) ++ List.replicate (3 - (lg_sl ([.ref (a 0), .int (L0 1), .int (L0 2)])).length) Slot.unset).toArray = ls at hl ⊢
  have hl : lv_has ls 3 [(0, .ref (a 0)), (1, .int (L0 1)), (2, .int (L0 2))] := hl
  have blk : ∀ k : Nat, (∀ (L : Nat → Int32) (σ : MS) (r : Int32 × MS), x_fault k 0 L σ = some r → ∀ (H : Heap) (locs : List Loc) (ls : Array Slot), va_P (dC, dI) nCl (vM cy a σ) H → va_D A (vM cy a σ) → va_S A s.heap H locs → lv_has ls 3 [(0, .ref (a 0)), (1, .int (L 1)), (2, .int (L 2))] → W p l e (headSpec w_x_fault ({ frames := 0, cells := 0, slots := 0, locals := 0 })).room s m #[.ref (a 0), .int (L0 1), .int (L0 2)] below meth c H locs 0 0 (MQ below (va_Qv (fun _ : Unit => True) (fun _ t => nOut (dC, dI) cy A (vM cy a r.2) t) A) #[.ref (a 0), .int (L0 1), .int (L0 2)] s 0 0 A) (F0 m 0 ls [])) ∧ (∀ (L : Nat → Int32) (σ : MS) (r : Int32 × MS), x_fault k 1 L σ = some r → ∀ (H : Heap) (locs : List Loc) (ls : Array Slot), va_P (dC, dI) nCl (vM cy a σ) H → va_D A (vM cy a σ) → va_S A s.heap H locs → lv_has ls 3 [(0, .ref (a 0)), (1, .int (L 1)), (2, .int (L 2))] → W p l e (headSpec w_x_fault ({ frames := 0, cells := 0, slots := 0, locals := 0 })).room s m #[.ref (a 0), .int (L0 1), .int (L0 2)] below meth c H locs 0 0 (MQ below (va_Qv (fun _ : Unit => True) (fun _ t => nOut (dC, dI) cy A (vM cy a r.2) t) A) #[.ref (a 0), .int (L0 1), .int (L0 2)] s 0 0 A) (F0 m 22 ls [])) := by
    intro k
    induction k with
    | zero => exact ⟨fun L σ r h => (by cases h), fun L σ r h => (by cases h)⟩
    | succ k ih =>
      refine ⟨?_, ?_⟩
      · intro L σ r h H locs ls hP hD hS hl
        rw [x_fault] at h
        refine lv_aload_n hx hb dX12_fault_0 rfl (lv_at hl 0 rfl) ?_
        refine va_get (D := (dC, dI)) (ci := 11) (v := .int (σ.1 10)) (C := RX12) (T := TX12) (N := 121) hx hb hts in_x_fault hown hK hP 0 rfl rfl 10 (by decide) (hts _ (List.mem_cons_of_mem _ (List.mem_append_left _ (List.mem_append_left _ (List.mem_of_getElem? (i := 0) rfl))))) (fun _ h9 => h9) rfl dX12_fault_1 ?_
        refine lv_if_ne (tgt := 22) hx hb dX12_fault_4 (by decide) (fun c1 => ?_) (fun c1 => ?_)
        · rw [if_neg c1] at h
          exact ih.2 L σ r h H locs ls hP hD hS (lv_sub hl [0, 1, 2] rfl)
        · rw [if_pos c1] at h
          refine lv_aload_n hx hb dX12_fault_7 rfl (lv_at hl 0 rfl) ?_
          refine lv_iconst (v := 1) hx hb dX12_fault_8 (by decide) ?_
          refine va_put (D := (dC, dI)) (ci := 11) (v := .int 1) (ty := .boolean) (C := RX12) (T := TX12) (N := 121) hx hb hts in_x_fault tyX12 tyX12_ok nmX12 hown hK hP hD hS 0 rfl rfl 10 (by decide) (hts _ (List.mem_cons_of_mem _ (List.mem_append_left _ (List.mem_append_left _ (List.mem_of_getElem? (i := 0) rfl))))) (fun _ h9 => h9) rfl (by decide +kernel) rfl rfl (Nat.le_of_ble_eq_true rfl) dX12_fault_9 (fun H locs hP hD hS => ?_)
          have hP : va_P (dC, dI) nCl (vM cy a (upd σ.1 10 1, σ.2.1, σ.2.2)) H := hP
          have hD : va_D A (vM cy a (upd σ.1 10 1, σ.2.1, σ.2.2)) := hD
          refine lv_aload_n hx hb dX12_fault_12 rfl (lv_at hl 0 rfl) ?_
          refine lv_iload_n hx hb dX12_fault_13 rfl (lv_at hl 1 rfl) ?_
          refine va_put (D := (dC, dI)) (ci := 11) (v := .int (L 1)) (ty := .int) (C := RX12) (T := TX12) (N := 121) hx hb hts in_x_fault tyX12 tyX12_ok nmX12 hown hK hP hD hS 0 rfl rfl 11 (by decide) (hts _ (List.mem_cons_of_mem _ (List.mem_append_left _ (List.mem_append_left _ (List.mem_of_getElem? (i := 1) rfl))))) (fun _ h9 => h9) rfl (by decide +kernel) rfl rfl (Nat.le_of_ble_eq_true rfl) dX12_fault_14 (fun H locs hP hD hS => ?_)
          have hP : va_P (dC, dI) nCl (vM cy a (upd (upd σ.1 10 1, σ.2.1, σ.2.2).1 11 ((L 1)), (upd σ.1 10 1, σ.2.1, σ.2.2).2.1, (upd σ.1 10 1, σ.2.1, σ.2.2).2.2)) H := hP
          have hD : va_D A (vM cy a (upd (upd σ.1 10 1, σ.2.1, σ.2.2).1 11 ((L 1)), (upd σ.1 10 1, σ.2.1, σ.2.2).2.1, (upd σ.1 10 1, σ.2.1, σ.2.2).2.2)) := hD
          refine lv_aload_n hx hb dX12_fault_17 rfl (lv_at hl 0 rfl) ?_
          refine lv_iload_n hx hb dX12_fault_18 rfl (lv_at hl 2 rfl) ?_
          refine va_put (D := (dC, dI)) (ci := 11) (v := .int (L 2)) (ty := .int) (C := RX12) (T := TX12) (N := 121) hx hb hts in_x_fault tyX12 tyX12_ok nmX12 hown hK hP hD hS 0 rfl rfl 12 (by decide) (hts _ (List.mem_cons_of_mem _ (List.mem_append_left _ (List.mem_append_left _ (List.mem_of_getElem? (i := 2) rfl))))) (fun _ h9 => h9) rfl (by decide +kernel) rfl rfl (Nat.le_of_ble_eq_true rfl) dX12_fault_19 (fun H locs hP hD hS => ?_)
          have hP : va_P (dC, dI) nCl (vM cy a (upd (upd (upd σ.1 10 1, σ.2.1, σ.2.2).1 11 ((L 1)), (upd σ.1 10 1, σ.2.1, σ.2.2).2.1, (upd σ.1 10 1, σ.2.1, σ.2.2).2.2).1 12 ((L 2)), (upd (upd σ.1 10 1, σ.2.1, σ.2.2).1 11 ((L 1)), (upd σ.1 10 1, σ.2.1, σ.2.2).2.1, (upd σ.1 10 1, σ.2.1, σ.2.2).2.2).2.1, (upd (upd σ.1 10 1, σ.2.1, σ.2.2).1 11 ((L 1)), (upd σ.1 10 1, σ.2.1, σ.2.2).2.1, (upd σ.1 10 1, σ.2.1, σ.2.2).2.2).2.2)) H := hP
          have hD : va_D A (vM cy a (upd (upd (upd σ.1 10 1, σ.2.1, σ.2.2).1 11 ((L 1)), (upd σ.1 10 1, σ.2.1, σ.2.2).2.1, (upd σ.1 10 1, σ.2.1, σ.2.2).2.2).1 12 ((L 2)), (upd (upd σ.1 10 1, σ.2.1, σ.2.2).1 11 ((L 1)), (upd σ.1 10 1, σ.2.1, σ.2.2).2.1, (upd σ.1 10 1, σ.2.1, σ.2.2).2.2).2.1, (upd (upd σ.1 10 1, σ.2.1, σ.2.2).1 11 ((L 1)), (upd σ.1 10 1, σ.2.1, σ.2.2).2.1, (upd σ.1 10 1, σ.2.1, σ.2.2).2.2).2.2)) := hD
          exact ih.2 L (upd (upd (upd σ.1 10 1, σ.2.1, σ.2.2).1 11 ((L 1)), (upd σ.1 10 1, σ.2.1, σ.2.2).2.1, (upd σ.1 10 1, σ.2.1, σ.2.2).2.2).1 12 ((L 2)), (upd (upd σ.1 10 1, σ.2.1, σ.2.2).1 11 ((L 1)), (upd σ.1 10 1, σ.2.1, σ.2.2).2.1, (upd σ.1 10 1, σ.2.1, σ.2.2).2.2).2.1, (upd (upd σ.1 10 1, σ.2.1, σ.2.2).1 11 ((L 1)), (upd σ.1 10 1, σ.2.1, σ.2.2).2.1, (upd σ.1 10 1, σ.2.1, σ.2.2).2.2).2.2) r h H locs ls hP hD hS (lv_sub hl [0, 1, 2] rfl)
      · intro L σ r h H locs ls hP hD hS hl
        rw [x_fault] at h
        cases h
        exact W.vret hx hb hr (fun t ht hW => ⟨⟨(), rfl, trivial, by rw [ht]; exact hP, va_K.moved hW.alike hK, hD⟩, hS.F ht⟩) hS.2.2 dX12_fault_22
  exact (blk k0).1 L0 σ0 r0 h0 s.heap [] ls hP hD hS hl
/-! skip -/
def x_skip : Nat → Nat → (Nat → Int32) → MS → Option (Int32 × MS)
  | 0, _, _, _ => none
  | k + 1, 0, L, σ => x_skip k 1 (upd L 1 1) σ
  | k + 1, 1, L, σ => if ((L 1)) = 0 then (x_skip k 7 L σ) else (ob (x_byteAt k 0 (upd (fun _ => 0) 1 ((σ.1 5))) σ) (fun r2 => if ((r2.2.1 4)) ≤ ((r2.2.1 5)) then (x_skip k 3 (upd L 2 r2.1) r2.2) else (if r2.1 = 9 then (x_skip k 2 (upd L 2 r2.1) r2.2) else (if r2.1 = 10 then (x_skip k 2 (upd L 2 r2.1) r2.2) else (if r2.1 = 13 then (x_skip k 2 (upd L 2 r2.1) r2.2) else (if r2.1 = 32 then (x_skip k 2 (upd L 2 r2.1) r2.2) else (x_skip k 3 (upd L 2 r2.1) r2.2)))))))
  | k + 1, 2, L, σ => x_skip k 6 L (upd σ.1 5 ((((σ.1 5)) + 1)), σ.2.1, σ.2.2)
  | k + 1, 3, L, σ => if ((L 2)) = 45 then (ob (x_byteAt k 0 (upd (fun _ => 0) 1 ((((σ.1 5)) + 1))) σ) (fun r2 => if r2.1 = 45 then (x_skip k 4 L r2.2) else (x_skip k 5 L r2.2))) else (x_skip k 5 L σ)
  | k + 1, 4, L, σ => if ((σ.1 4)) ≤ ((σ.1 5)) then (x_skip k 6 L σ) else (if ¬ (((σ.1 5)) < 0 ∨ 32768 ≤ ((σ.1 5)).toNatClampNeg) then (if ((σ.2.2 3 ((σ.1 5)).toNatClampNeg)) = 10 then (x_skip k 6 L σ) else (x_skip k 4 L (upd σ.1 5 ((((σ.1 5)) + 1)), σ.2.1, σ.2.2))) else none)
  | k + 1, 5, L, σ => x_skip k 6 (upd L 1 0) σ
  | k + 1, 6, L, σ => x_skip k 1 L σ
  | k + 1, 7, L, σ => some (0, σ)
  | _ + 1, _ + 8, _, _ => none
def o_x_skip : List Cond := [.fieldLink RX12 21 "SetHouseModel" "at" "I", .methodLink RX12 24 yX12_byteAt, .instanceMethod yX12_byteAt, .selects RX12 yX12_byteAt yX12_byteAt, .initialized RX12, .fieldLink RX12 1 "SetHouseModel" "taped" "I", .fieldLink RX12 7 "SetHouseModel" "tape" "[I"]
theorem o_x_skip_good : o_x_skip.all goodWord = true := by decide +kernel
def p_x_skip : List Cond := o_x_skip ++ ((.code yX12_byteAt cX12_byteAt 2 (some .int) :: p_x_byteAt) ++ [])
theorem p_x_skip_good : p_x_skip.all goodWord = true := nb_all2 o_x_skip_good (nb_all2 (nb_allc (by decide +kernel) p_x_byteAt_good) rfl)
def w_x_skip : List Cond := .code yX12_skip cX12_skip 3 none :: (p_x_skip ++ fM)
theorem w_x_skip_good : w_x_skip.all goodWord = true := nb_allc (by decide +kernel) (nb_all2 p_x_skip_good fM_good)
theorem in_x_skip : ∀ w ∈ wsX120, w ∈ w_x_skip := fun _ h => List.mem_cons_of_mem _ (List.mem_append_right _ h)
theorem gg_x_skip_byteAt : GoodIn w_x_skip w_x_byteAt := goodIn_sub (fun w h => (List.mem_cons.mp h).elim (fun e => (List.mem_cons_of_mem _ (List.mem_append_left _ (List.mem_append_right _ (List.mem_append_left _ (List.mem_cons.mpr (Or.inl e))))))) (fun h => (List.mem_append.mp h).elim (fun h => (List.mem_cons_of_mem _ (List.mem_append_left _ (List.mem_append_right _ (List.mem_append_left _ (List.mem_cons_of_mem _ h)))))) (fun h => List.mem_cons_of_mem _ (List.mem_append_right _ h)))) w_x_byteAt_good
theorem g_x_skip_byteAt_24 : GoodIn w_x_skip (wsV RX12 24 RX12 yX12_byteAt w_x_byteAt) := goodIn_app (nb_g4 (List.mem_cons_of_mem _ (List.mem_append_left _ (List.mem_append_left _ (List.mem_of_getElem? (i := 1) rfl)))) (List.mem_cons_of_mem _ (List.mem_append_left _ (List.mem_append_left _ (List.mem_of_getElem? (i := 2) rfl)))) (List.mem_cons_of_mem _ (List.mem_append_left _ (List.mem_append_left _ (List.mem_of_getElem? (i := 3) rfl)))) (List.mem_cons_of_mem _ (List.mem_append_left _ (List.mem_append_left _ (List.mem_of_getElem? (i := 4) rfl)))) (by decide +kernel)) gg_x_skip_byteAt
set_option maxHeartbeats 40000000 in
set_option maxRecDepth 100000 in
theorem c_x_skip (l : Launch) (dC : Nat → ClassId) (dI : Nat → Nat → Nat) (cy : Nat → ClassId) (a : Nat → Nat) (k0 : Nat) (L0 : Nat → Int32) (σ0 : MS) (r0 : Int32 × MS) (h0 : x_skip k0 0 L0 σ0 = some r0) (sz : Nat) : Met l yX12_skip w_x_skip ({ frames := 1, cells := 0, slots := 0, locals := 21 }) (va_Pc [.ref (a 0)] (nIn (dC, dI) cy sz (vM cy a σ0))) (va_Qv (fun _ : Unit => True) (fun _ t => nOut (dC, dI) cy (va_A (vM cy a σ0) sz) (vM cy a r0.2) t) (va_A (vM cy a σ0) sz)) 0 0 (va_A (vM cy a σ0) sz) := by
  refine Met.ofW (cc := cX12_skip) (maxL := 3) (ret := none) (by decide) rfl ?_
  intro p e s m args below meth c s₁ B hml hv
  obtain ⟨rfl, hsz, hP, hK, hD0, hG⟩ := hv
  have hx := B.exec
  have hb := B.bytes
  have hr := B.returns
  have hts := atoms_spec (ws := w_x_skip) B.pre
  have hown : s.vm.findClass RX12 = some m.cls := findClass_of_methodNamed B.named
  have hlocks := B.notSynchronized
  subst hsz
  have hD := hD0.self (sz := s.heap.size)
  generalize hAe : va_A (vM cy a σ0) s.heap.size = A at hD ⊢
  have hA : ∀ q : Nat, s.heap.size ≤ q → A q := fun q h => by rw [← hAe]; exact Or.inr h
  have hS : va_S A s.heap s.heap [] := va_S.rf
  have hl := lv_entry ([.ref (a 0)]) (n := 3) (Nat.le_of_ble_eq_true rfl)
  rw [lg_entry_eq]
  generalize (lg_sl ([.ref (a 0)]) ++ List.replicate (3 - (lg_sl ([.ref (a 0)])).length) Slot.unset).toArray = ls at hl ⊢
  have hl : lv_has ls 3 [(0, .ref (a 0))] := hl
  have blk : ∀ k : Nat, (∀ (L : Nat → Int32) (σ : MS) (r : Int32 × MS), x_skip k 0 L σ = some r → ∀ (H : Heap) (locs : List Loc) (ls : Array Slot), va_P (dC, dI) nCl (vM cy a σ) H → va_D A (vM cy a σ) → va_S A s.heap H locs → lv_has ls 3 [(0, .ref (a 0))] → W p l e (headSpec w_x_skip ({ frames := 1, cells := 0, slots := 0, locals := 21 })).room s m #[.ref (a 0)] below meth c H locs 0 0 (MQ below (va_Qv (fun _ : Unit => True) (fun _ t => nOut (dC, dI) cy A (vM cy a r.2) t) A) #[.ref (a 0)] s 0 0 A) (F0 m 0 ls [])) ∧ (∀ (L : Nat → Int32) (σ : MS) (r : Int32 × MS), x_skip k 1 L σ = some r → ∀ (H : Heap) (locs : List Loc) (ls : Array Slot), va_P (dC, dI) nCl (vM cy a σ) H → va_D A (vM cy a σ) → va_S A s.heap H locs → lv_has ls 3 [(0, .ref (a 0)), (1, .int (L 1))] → W p l e (headSpec w_x_skip ({ frames := 1, cells := 0, slots := 0, locals := 21 })).room s m #[.ref (a 0)] below meth c H locs 0 0 (MQ below (va_Qv (fun _ : Unit => True) (fun _ t => nOut (dC, dI) cy A (vM cy a r.2) t) A) #[.ref (a 0)] s 0 0 A) (F0 m 2 ls [])) ∧ (∀ (L : Nat → Int32) (σ : MS) (r : Int32 × MS), x_skip k 2 L σ = some r → ∀ (H : Heap) (locs : List Loc) (ls : Array Slot), va_P (dC, dI) nCl (vM cy a σ) H → va_D A (vM cy a σ) → va_S A s.heap H locs → lv_has ls 3 [(0, .ref (a 0)), (1, .int (L 1)), (2, .int (L 2))] → W p l e (headSpec w_x_skip ({ frames := 1, cells := 0, slots := 0, locals := 21 })).room s m #[.ref (a 0)] below meth c H locs 0 0 (MQ below (va_Qv (fun _ : Unit => True) (fun _ t => nOut (dC, dI) cy A (vM cy a r.2) t) A) #[.ref (a 0)] s 0 0 A) (F0 m 50 ls [])) ∧ (∀ (L : Nat → Int32) (σ : MS) (r : Int32 × MS), x_skip k 3 L σ = some r → ∀ (H : Heap) (locs : List Loc) (ls : Array Slot), va_P (dC, dI) nCl (vM cy a σ) H → va_D A (vM cy a σ) → va_S A s.heap H locs → lv_has ls 3 [(0, .ref (a 0)), (1, .int (L 1)), (2, .int (L 2))] → W p l e (headSpec w_x_skip ({ frames := 1, cells := 0, slots := 0, locals := 21 })).room s m #[.ref (a 0)] below meth c H locs 0 0 (MQ below (va_Qv (fun _ : Unit => True) (fun _ t => nOut (dC, dI) cy A (vM cy a r.2) t) A) #[.ref (a 0)] s 0 0 A) (F0 m 63 ls [])) ∧ (∀ (L : Nat → Int32) (σ : MS) (r : Int32 × MS), x_skip k 4 L σ = some r → ∀ (H : Heap) (locs : List Loc) (ls : Array Slot), va_P (dC, dI) nCl (vM cy a σ) H → va_D A (vM cy a σ) → va_S A s.heap H locs → lv_has ls 3 [(0, .ref (a 0)), (1, .int (L 1)), (2, .int (L 2))] → W p l e (headSpec w_x_skip ({ frames := 1, cells := 0, slots := 0, locals := 21 })).room s m #[.ref (a 0)] below meth c H locs 0 0 (MQ below (va_Qv (fun _ : Unit => True) (fun _ t => nOut (dC, dI) cy A (vM cy a r.2) t) A) #[.ref (a 0)] s 0 0 A) (F0 m 84 ls [])) ∧ (∀ (L : Nat → Int32) (σ : MS) (r : Int32 × MS), x_skip k 5 L σ = some r → ∀ (H : Heap) (locs : List Loc) (ls : Array Slot), va_P (dC, dI) nCl (vM cy a σ) H → va_D A (vM cy a σ) → va_S A s.heap H locs → lv_has ls 3 [(0, .ref (a 0)), (1, .int (L 1)), (2, .int (L 2))] → W p l e (headSpec w_x_skip ({ frames := 1, cells := 0, slots := 0, locals := 21 })).room s m #[.ref (a 0)] below meth c H locs 0 0 (MQ below (va_Qv (fun _ : Unit => True) (fun _ t => nOut (dC, dI) cy A (vM cy a r.2) t) A) #[.ref (a 0)] s 0 0 A) (F0 m 122 ls [])) ∧ (∀ (L : Nat → Int32) (σ : MS) (r : Int32 × MS), x_skip k 6 L σ = some r → ∀ (H : Heap) (locs : List Loc) (ls : Array Slot), va_P (dC, dI) nCl (vM cy a σ) H → va_D A (vM cy a σ) → va_S A s.heap H locs → lv_has ls 3 [(0, .ref (a 0)), (1, .int (L 1)), (2, .int (L 2))] → W p l e (headSpec w_x_skip ({ frames := 1, cells := 0, slots := 0, locals := 21 })).room s m #[.ref (a 0)] below meth c H locs 0 0 (MQ below (va_Qv (fun _ : Unit => True) (fun _ t => nOut (dC, dI) cy A (vM cy a r.2) t) A) #[.ref (a 0)] s 0 0 A) (F0 m 124 ls [])) ∧ (∀ (L : Nat → Int32) (σ : MS) (r : Int32 × MS), x_skip k 7 L σ = some r → ∀ (H : Heap) (locs : List Loc) (ls : Array Slot), va_P (dC, dI) nCl (vM cy a σ) H → va_D A (vM cy a σ) → va_S A s.heap H locs → lv_has ls 3 [(0, .ref (a 0)), (1, .int (L 1))] → W p l e (headSpec w_x_skip ({ frames := 1, cells := 0, slots := 0, locals := 21 })).room s m #[.ref (a 0)] below meth c H locs 0 0 (MQ below (va_Qv (fun _ : Unit => True) (fun _ t => nOut (dC, dI) cy A (vM cy a r.2) t) A) #[.ref (a 0)] s 0 0 A) (F0 m 127 ls [])) := by
    intro k
    induction k with
    | zero => exact ⟨fun L σ r h => (by cases h), fun L σ r h => (by cases h), fun L σ r h => (by cases h), fun L σ r h => (by cases h), fun L σ r h => (by cases h), fun L σ r h => (by cases h), fun L σ r h => (by cases h), fun L σ r h => (by cases h)⟩
    | succ k ih =>
      refine ⟨?_, ?_, ?_, ?_, ?_, ?_, ?_, ?_⟩
      · intro L σ r h H locs ls hP hD hS hl
        rw [x_skip] at h
        refine lv_iconst (v := 1) hx hb dX12_skip_0 (by decide) ?_
        refine lv_istore_n (lv' := [(1, .int 1), (0, .ref (a 0))]) hx hb dX12_skip_1 rfl hl (by decide) rfl (fun ls hl => ?_)
        exact ih.2.1 (upd L 1 1) σ r h H locs ls hP hD hS (lv_sub hl [1, 0] rfl)
      · intro L σ r h H locs ls hP hD hS hl
        rw [x_skip] at h
        refine lv_iload_n hx hb dX12_skip_2 rfl (lv_at hl 1 rfl) ?_
        refine lv_if_eq (tgt := 127) hx hb dX12_skip_3 (by decide) (fun c1 => ?_) (fun c1 => ?_)
        · rw [if_pos c1] at h
          exact ih.2.2.2.2.2.2.2 L σ r h H locs ls hP hD hS (lv_sub hl [0, 1] rfl)
        · rw [if_neg c1] at h
          refine lv_aload_n hx hb dX12_skip_6 rfl (lv_at hl 0 rfl) ?_
          refine lv_aload_n hx hb dX12_skip_7 rfl (lv_at hl 0 rfl) ?_
          refine va_get (D := (dC, dI)) (ci := 11) (v := .int (σ.1 5)) (C := RX12) (T := TX12) (N := 121) hx hb hts in_x_skip hown hK hP 0 rfl rfl 5 (by decide) (hts _ (List.mem_cons_of_mem _ (List.mem_append_left _ (List.mem_append_left _ (List.mem_of_getElem? (i := 0) rfl))))) (fun _ h9 => h9) rfl dX12_skip_8 ?_
          cases hc2 : x_byteAt k 0 (upd (fun _ => 0) 1 ((σ.1 5))) σ with
          | none => rw [hc2, ob_none] at h; cases h
          | some r2 =>
            rw [hc2, ob_some] at h
            have hFc := va_free (wc := vM cy a σ) hD hS hA [0, 1, 2, 3, 4, 5, 6, 7, 8, 9, 10, 11, 12, 13, 14, 15, 16, 17, 18, 19, 20, 21, 22, 23, 24, 25, 26, 27, 28, 29, 30, 31, 32, 33, 34, 35, 36, 37, 38, 39, 40, 41, 42, 43, 44, 45, 46, 47, 48, 49, 50, 51, 52, 53, 54, 55, 56, 57] rfl
            refine va_calli (va_runV (As := [.int (σ.1 5)]) (rest := []) ⟨hx, hb, hml, hown, hts⟩ (c_x_byteAt l dC dI cy a k (upd (fun _ => 0) 1 ((σ.1 5))) σ r2 hc2 H.size) (cwV 1 hts g_x_skip_byteAt_24 rfl rfl rfl (by decide +kernel) ⟨Nat.le_of_ble_eq_true rfl, Nat.le_of_ble_eq_true rfl⟩) ⟨nb_blind, va_recv hK hP (ci := 11) (q0 := 0) rfl rfl, fun U hU hW => ⟨rfl, by rw [hU], by rw [hU]; exact hP, va_K.moved hW.alike hK, hD.weaken (fun _ _ _ _ => trivial), hG.warm hW⟩⟩ rfl rfl hl.1 rfl (lv_room (Nat.le_of_ble_eq_true rfl)) dX12_skip_11 ⟨Nat.le_of_ble_eq_true rfl, Nat.le_of_ble_eq_true rfl⟩) hS (fun q _ h => hFc q h) hFc (fun z9 _ t H1 locs ht hvm hw hB hz1 hk1 hS => ?_)
            subst hw
            obtain ⟨hP1, hK1, hD1⟩ := hB
            rw [ht] at hP1
            obtain ⟨hP, hD⟩ := va_join (wr := []) (w1 := vM cy a r2.2) hP hD [0, 1, 2, 3, 4, 5, 6, 7, 8, 9, 10, 11, 12, 13, 14, 15, 16, 17, 18, 19, 20, 21, 22, 23, 24, 25, 26, 27, 28, 29, 30, 31, 32, 33, 34, 35, 36, 37, 38, 39, 40, 41, 42, 43, 44, 45, 46, 47, 48, 49, 50, 51, 52, 53, 54, 55, 56, 57] [] rfl rfl (by decide) (by decide) hk1 hFc hP1 hD1
            generalize H1 = H at hP hS ⊢
            have hP : va_P (dC, dI) nCl (vM cy a r2.2) H := hP
            have hD : va_D A (vM cy a r2.2) := hD
            refine lv_istore_n (lv' := [(2, .int r2.1), (0, .ref (a 0)), (1, .int (L 1))]) hx hb dX12_skip_14 rfl hl (by decide) rfl (fun ls hl => ?_)
            refine lv_aload_n hx hb dX12_skip_15 rfl (lv_at hl 1 rfl) ?_
            refine va_get (D := (dC, dI)) (ci := 11) (v := .int (r2.2.1 5)) (C := RX12) (T := TX12) (N := 121) hx hb hts in_x_skip hown hK hP 0 rfl rfl 5 (by decide) (hts _ (List.mem_cons_of_mem _ (List.mem_append_left _ (List.mem_append_left _ (List.mem_of_getElem? (i := 0) rfl))))) (fun _ h9 => h9) rfl dX12_skip_16 ?_
            refine lv_aload_n hx hb dX12_skip_19 rfl (lv_at hl 1 rfl) ?_
            refine va_get (D := (dC, dI)) (ci := 11) (v := .int (r2.2.1 4)) (C := RX12) (T := TX12) (N := 121) hx hb hts in_x_skip hown hK hP 0 rfl rfl 4 (by decide) (hts _ (List.mem_cons_of_mem _ (List.mem_append_left _ (List.mem_append_left _ (List.mem_of_getElem? (i := 5) rfl))))) (fun _ h9 => h9) rfl dX12_skip_20 ?_
            refine lv_icmp_ge (tgt := 63) hx hb dX12_skip_23 (by decide) (fun c3 => ?_) (fun c3 => ?_)
            · rw [if_pos c3] at h
              exact ih.2.2.2.1 (upd L 2 r2.1) r2.2 r h H locs ls hP hD hS (lv_sub hl [1, 2, 0] rfl)
            · rw [if_neg c3] at h
              refine lv_iload_n hx hb dX12_skip_26 rfl (lv_at hl 0 rfl) ?_
              refine lv_bipush (v := 9) hx hb dX12_skip_27 (by decide) ?_
              refine lv_icmp_eq (tgt := 50) hx hb dX12_skip_29 (by decide) (fun c4 => ?_) (fun c4 => ?_)
              · rw [if_pos c4] at h
                exact ih.2.2.1 (upd L 2 r2.1) r2.2 r h H locs ls hP hD hS (lv_sub hl [1, 2, 0] rfl)
              · rw [if_neg c4] at h
                refine lv_iload_n hx hb dX12_skip_32 rfl (lv_at hl 0 rfl) ?_
                refine lv_bipush (v := 10) hx hb dX12_skip_33 (by decide) ?_
                refine lv_icmp_eq (tgt := 50) hx hb dX12_skip_35 (by decide) (fun c5 => ?_) (fun c5 => ?_)
                · rw [if_pos c5] at h
                  exact ih.2.2.1 (upd L 2 r2.1) r2.2 r h H locs ls hP hD hS (lv_sub hl [1, 2, 0] rfl)
                · rw [if_neg c5] at h
                  refine lv_iload_n hx hb dX12_skip_38 rfl (lv_at hl 0 rfl) ?_
                  refine lv_bipush (v := 13) hx hb dX12_skip_39 (by decide) ?_
                  refine lv_icmp_eq (tgt := 50) hx hb dX12_skip_41 (by decide) (fun c6 => ?_) (fun c6 => ?_)
                  · rw [if_pos c6] at h
                    exact ih.2.2.1 (upd L 2 r2.1) r2.2 r h H locs ls hP hD hS (lv_sub hl [1, 2, 0] rfl)
                  · rw [if_neg c6] at h
                    refine lv_iload_n hx hb dX12_skip_44 rfl (lv_at hl 0 rfl) ?_
                    refine lv_bipush (v := 32) hx hb dX12_skip_45 (by decide) ?_
                    refine lv_icmp_ne (tgt := 63) hx hb dX12_skip_47 (by decide) (fun c7 => ?_) (fun c7 => ?_)
                    · rw [if_neg c7] at h
                      exact ih.2.2.2.1 (upd L 2 r2.1) r2.2 r h H locs ls hP hD hS (lv_sub hl [1, 2, 0] rfl)
                    · rw [if_pos c7] at h
                      exact ih.2.2.1 (upd L 2 r2.1) r2.2 r h H locs ls hP hD hS (lv_sub hl [1, 2, 0] rfl)
      · intro L σ r h H locs ls hP hD hS hl
        rw [x_skip] at h
        refine lv_aload_n hx hb dX12_skip_50 rfl (lv_at hl 0 rfl) ?_
        refine lv_dup hx hb dX12_skip_51 rfl ?_
        refine va_get (D := (dC, dI)) (ci := 11) (v := .int (σ.1 5)) (C := RX12) (T := TX12) (N := 121) hx hb hts in_x_skip hown hK hP 0 rfl rfl 5 (by decide) (hts _ (List.mem_cons_of_mem _ (List.mem_append_left _ (List.mem_append_left _ (List.mem_of_getElem? (i := 0) rfl))))) (fun _ h9 => h9) rfl dX12_skip_52 ?_
        refine lv_iconst (v := 1) hx hb dX12_skip_55 (by decide) ?_
        refine lv_iadd hx hb dX12_skip_56 ?_
        refine va_put (D := (dC, dI)) (ci := 11) (v := .int (((σ.1 5)) + 1)) (ty := .int) (C := RX12) (T := TX12) (N := 121) hx hb hts in_x_skip tyX12 tyX12_ok nmX12 hown hK hP hD hS 0 rfl rfl 5 (by decide) (hts _ (List.mem_cons_of_mem _ (List.mem_append_left _ (List.mem_append_left _ (List.mem_of_getElem? (i := 0) rfl))))) (fun _ h9 => h9) rfl (by decide +kernel) rfl rfl (Nat.le_of_ble_eq_true rfl) dX12_skip_57 (fun H locs hP hD hS => ?_)
        have hP : va_P (dC, dI) nCl (vM cy a (upd σ.1 5 ((((σ.1 5)) + 1)), σ.2.1, σ.2.2)) H := hP
        have hD : va_D A (vM cy a (upd σ.1 5 ((((σ.1 5)) + 1)), σ.2.1, σ.2.2)) := hD
        refine lv_goto (tgt := 124) hx hb dX12_skip_60 (by decide) ?_
        exact ih.2.2.2.2.2.2.1 L (upd σ.1 5 ((((σ.1 5)) + 1)), σ.2.1, σ.2.2) r h H locs ls hP hD hS (lv_sub hl [0, 1, 2] rfl)
      · intro L σ r h H locs ls hP hD hS hl
        rw [x_skip] at h
        refine lv_iload_n hx hb dX12_skip_63 rfl (lv_at hl 2 rfl) ?_
        refine lv_bipush (v := 45) hx hb dX12_skip_64 (by decide) ?_
        refine lv_icmp_ne (tgt := 122) hx hb dX12_skip_66 (by decide) (fun c1 => ?_) (fun c1 => ?_)
        · rw [if_neg c1] at h
          exact ih.2.2.2.2.2.1 L σ r h H locs ls hP hD hS (lv_sub hl [0, 1, 2] rfl)
        · rw [if_pos c1] at h
          refine lv_aload_n hx hb dX12_skip_69 rfl (lv_at hl 0 rfl) ?_
          refine lv_aload_n hx hb dX12_skip_70 rfl (lv_at hl 0 rfl) ?_
          refine va_get (D := (dC, dI)) (ci := 11) (v := .int (σ.1 5)) (C := RX12) (T := TX12) (N := 121) hx hb hts in_x_skip hown hK hP 0 rfl rfl 5 (by decide) (hts _ (List.mem_cons_of_mem _ (List.mem_append_left _ (List.mem_append_left _ (List.mem_of_getElem? (i := 0) rfl))))) (fun _ h9 => h9) rfl dX12_skip_71 ?_
          refine lv_iconst (v := 1) hx hb dX12_skip_74 (by decide) ?_
          refine lv_iadd hx hb dX12_skip_75 ?_
          cases hc2 : x_byteAt k 0 (upd (fun _ => 0) 1 ((((σ.1 5)) + 1))) σ with
          | none => rw [hc2, ob_none] at h; cases h
          | some r2 =>
            rw [hc2, ob_some] at h
            have hFc := va_free (wc := vM cy a σ) hD hS hA [0, 1, 2, 3, 4, 5, 6, 7, 8, 9, 10, 11, 12, 13, 14, 15, 16, 17, 18, 19, 20, 21, 22, 23, 24, 25, 26, 27, 28, 29, 30, 31, 32, 33, 34, 35, 36, 37, 38, 39, 40, 41, 42, 43, 44, 45, 46, 47, 48, 49, 50, 51, 52, 53, 54, 55, 56, 57] rfl
            refine va_calli (va_runV (As := [.int (((σ.1 5)) + 1)]) (rest := []) ⟨hx, hb, hml, hown, hts⟩ (c_x_byteAt l dC dI cy a k (upd (fun _ => 0) 1 ((((σ.1 5)) + 1))) σ r2 hc2 H.size) (cwV 1 hts g_x_skip_byteAt_24 rfl rfl rfl (by decide +kernel) ⟨Nat.le_of_ble_eq_true rfl, Nat.le_of_ble_eq_true rfl⟩) ⟨nb_blind, va_recv hK hP (ci := 11) (q0 := 0) rfl rfl, fun U hU hW => ⟨rfl, by rw [hU], by rw [hU]; exact hP, va_K.moved hW.alike hK, hD.weaken (fun _ _ _ _ => trivial), hG.warm hW⟩⟩ rfl rfl hl.1 rfl (lv_room (Nat.le_of_ble_eq_true rfl)) dX12_skip_76 ⟨Nat.le_of_ble_eq_true rfl, Nat.le_of_ble_eq_true rfl⟩) hS (fun q _ h => hFc q h) hFc (fun z9 _ t H1 locs ht hvm hw hB hz1 hk1 hS => ?_)
            subst hw
            obtain ⟨hP1, hK1, hD1⟩ := hB
            rw [ht] at hP1
            obtain ⟨hP, hD⟩ := va_join (wr := []) (w1 := vM cy a r2.2) hP hD [0, 1, 2, 3, 4, 5, 6, 7, 8, 9, 10, 11, 12, 13, 14, 15, 16, 17, 18, 19, 20, 21, 22, 23, 24, 25, 26, 27, 28, 29, 30, 31, 32, 33, 34, 35, 36, 37, 38, 39, 40, 41, 42, 43, 44, 45, 46, 47, 48, 49, 50, 51, 52, 53, 54, 55, 56, 57] [] rfl rfl (by decide) (by decide) hk1 hFc hP1 hD1
            generalize H1 = H at hP hS ⊢
            have hP : va_P (dC, dI) nCl (vM cy a r2.2) H := hP
            have hD : va_D A (vM cy a r2.2) := hD
            refine lv_bipush (v := 45) hx hb dX12_skip_79 (by decide) ?_
            refine lv_icmp_ne (tgt := 122) hx hb dX12_skip_81 (by decide) (fun c3 => ?_) (fun c3 => ?_)
            · rw [if_neg c3] at h
              exact ih.2.2.2.2.2.1 L r2.2 r h H locs ls hP hD hS (lv_sub hl [0, 1, 2] rfl)
            · rw [if_pos c3] at h
              exact ih.2.2.2.2.1 L r2.2 r h H locs ls hP hD hS (lv_sub hl [0, 1, 2] rfl)
      · intro L σ r h H locs ls hP hD hS hl
        rw [x_skip] at h
        refine lv_aload_n hx hb dX12_skip_84 rfl (lv_at hl 0 rfl) ?_
        refine va_get (D := (dC, dI)) (ci := 11) (v := .int (σ.1 5)) (C := RX12) (T := TX12) (N := 121) hx hb hts in_x_skip hown hK hP 0 rfl rfl 5 (by decide) (hts _ (List.mem_cons_of_mem _ (List.mem_append_left _ (List.mem_append_left _ (List.mem_of_getElem? (i := 0) rfl))))) (fun _ h9 => h9) rfl dX12_skip_85 ?_
        refine lv_aload_n hx hb dX12_skip_88 rfl (lv_at hl 0 rfl) ?_
        refine va_get (D := (dC, dI)) (ci := 11) (v := .int (σ.1 4)) (C := RX12) (T := TX12) (N := 121) hx hb hts in_x_skip hown hK hP 0 rfl rfl 4 (by decide) (hts _ (List.mem_cons_of_mem _ (List.mem_append_left _ (List.mem_append_left _ (List.mem_of_getElem? (i := 5) rfl))))) (fun _ h9 => h9) rfl dX12_skip_89 ?_
        refine lv_icmp_ge (tgt := 124) hx hb dX12_skip_92 (by decide) (fun c1 => ?_) (fun c1 => ?_)
        · rw [if_pos c1] at h
          exact ih.2.2.2.2.2.2.1 L σ r h H locs ls hP hD hS (lv_sub hl [0, 1, 2] rfl)
        · rw [if_neg c1] at h
          refine lv_aload_n hx hb dX12_skip_95 rfl (lv_at hl 0 rfl) ?_
          refine va_get (D := (dC, dI)) (ci := 11) (v := .ref (a 3)) (C := RX12) (T := TX12) (N := 121) hx hb hts in_x_skip hown hK hP 0 rfl rfl 3 (by decide) (hts _ (List.mem_cons_of_mem _ (List.mem_append_left _ (List.mem_append_left _ (List.mem_of_getElem? (i := 6) rfl))))) (fun _ h9 => h9) rfl dX12_skip_96 ?_
          refine lv_aload_n hx hb dX12_skip_99 rfl (lv_at hl 0 rfl) ?_
          refine va_get (D := (dC, dI)) (ci := 11) (v := .int (σ.1 5)) (C := RX12) (T := TX12) (N := 121) hx hb hts in_x_skip hown hK hP 0 rfl rfl 5 (by decide) (hts _ (List.mem_cons_of_mem _ (List.mem_append_left _ (List.mem_append_left _ (List.mem_of_getElem? (i := 0) rfl))))) (fun _ h9 => h9) rfl dX12_skip_100 ?_
          by_cases q2 : ¬ (((σ.1 5)) < 0 ∨ 32768 ≤ ((σ.1 5)).toNatClampNeg)
          · rw [if_pos q2] at h
            refine va_iald hx hb hK hP 3 1 rfl rfl (nb_inp q2) dX12_skip_103 ?_
            refine lv_bipush (v := 10) hx hb dX12_skip_104 (by decide) ?_
            refine lv_icmp_eq (tgt := 124) hx hb dX12_skip_106 (by decide) (fun c3 => ?_) (fun c3 => ?_)
            · rw [if_pos c3] at h
              exact ih.2.2.2.2.2.2.1 L σ r h H locs ls hP hD hS (lv_sub hl [0, 1, 2] rfl)
            · rw [if_neg c3] at h
              refine lv_aload_n hx hb dX12_skip_109 rfl (lv_at hl 0 rfl) ?_
              refine lv_dup hx hb dX12_skip_110 rfl ?_
              refine va_get (D := (dC, dI)) (ci := 11) (v := .int (σ.1 5)) (C := RX12) (T := TX12) (N := 121) hx hb hts in_x_skip hown hK hP 0 rfl rfl 5 (by decide) (hts _ (List.mem_cons_of_mem _ (List.mem_append_left _ (List.mem_append_left _ (List.mem_of_getElem? (i := 0) rfl))))) (fun _ h9 => h9) rfl dX12_skip_111 ?_
              refine lv_iconst (v := 1) hx hb dX12_skip_114 (by decide) ?_
              refine lv_iadd hx hb dX12_skip_115 ?_
              refine va_put (D := (dC, dI)) (ci := 11) (v := .int (((σ.1 5)) + 1)) (ty := .int) (C := RX12) (T := TX12) (N := 121) hx hb hts in_x_skip tyX12 tyX12_ok nmX12 hown hK hP hD hS 0 rfl rfl 5 (by decide) (hts _ (List.mem_cons_of_mem _ (List.mem_append_left _ (List.mem_append_left _ (List.mem_of_getElem? (i := 0) rfl))))) (fun _ h9 => h9) rfl (by decide +kernel) rfl rfl (Nat.le_of_ble_eq_true rfl) dX12_skip_116 (fun H locs hP hD hS => ?_)
              have hP : va_P (dC, dI) nCl (vM cy a (upd σ.1 5 ((((σ.1 5)) + 1)), σ.2.1, σ.2.2)) H := hP
              have hD : va_D A (vM cy a (upd σ.1 5 ((((σ.1 5)) + 1)), σ.2.1, σ.2.2)) := hD
              refine lv_goto (tgt := 84) hx hb dX12_skip_119 (by decide) ?_
              exact ih.2.2.2.2.1 L (upd σ.1 5 ((((σ.1 5)) + 1)), σ.2.1, σ.2.2) r h H locs ls hP hD hS (lv_sub hl [0, 1, 2] rfl)
          · rw [if_neg q2] at h; cases h
      · intro L σ r h H locs ls hP hD hS hl
        rw [x_skip] at h
        refine lv_iconst (v := 0) hx hb dX12_skip_122 (by decide) ?_
        refine lv_istore_n (lv' := [(1, .int 0), (0, .ref (a 0)), (2, .int (L 2))]) hx hb dX12_skip_123 rfl hl (by decide) rfl (fun ls hl => ?_)
        exact ih.2.2.2.2.2.2.1 (upd L 1 0) σ r h H locs ls hP hD hS (lv_sub hl [1, 0, 2] rfl)
      · intro L σ r h H locs ls hP hD hS hl
        rw [x_skip] at h
        refine lv_goto (tgt := 2) hx hb dX12_skip_124 (by decide) ?_
        exact ih.2.1 L σ r h H locs ls hP hD hS (lv_sub hl [0, 1] rfl)
      · intro L σ r h H locs ls hP hD hS hl
        rw [x_skip] at h
        cases h
        exact W.vret hx hb hr (fun t ht hW => ⟨⟨(), rfl, trivial, by rw [ht]; exact hP, va_K.moved hW.alike hK, hD⟩, hS.F ht⟩) hS.2.2 dX12_skip_127
  exact (blk k0).1 L0 σ0 r0 h0 s.heap [] ls hP hD hS hl

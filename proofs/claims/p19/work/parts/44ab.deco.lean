/-! isSign -/
def x_isSign : Nat → Nat → (Nat → Int32) → MS → Option (Int32 × MS)
  | 0, _, _, _ => none
  | k + 1, 0, L, σ => if ((σ.1 6)) = 4 then (if ((σ.1 7)) = ((L 1)) then (x_isSign k 2 (upd L 100 1) σ) else (x_isSign k 1 L σ)) else (x_isSign k 1 L σ)
  | k + 1, 1, L, σ => x_isSign k 2 (upd L 100 0) σ
  | k + 1, 2, L, σ => if ((L 100)) = 0 ∨ ((L 100)) = 1 then some ((L 100), σ) else none
  | _ + 1, _ + 3, _, _ => none
def o_x_isSign : List Cond := [.fieldLink RX12 35 "SetHouseModel" "tKind" "I", .fieldLink RX12 49 "SetHouseModel" "tWhat" "I"]
theorem o_x_isSign_good : o_x_isSign.all goodWord = true := by decide +kernel
def p_x_isSign : List Cond := o_x_isSign ++ []
theorem p_x_isSign_good : p_x_isSign.all goodWord = true := nb_all2 o_x_isSign_good rfl
def w_x_isSign : List Cond := .code yX12_isSign cX12_isSign 2 (some .boolean) :: (p_x_isSign ++ fM)
theorem w_x_isSign_good : w_x_isSign.all goodWord = true := nb_allc (by decide +kernel) (nb_all2 p_x_isSign_good fM_good)
theorem in_x_isSign : ∀ w ∈ wsX120, w ∈ w_x_isSign := fun _ h => List.mem_cons_of_mem _ (List.mem_append_right _ h)
theorem hd_x_isSign : yX12_isSign.cls = RX12 ∧ yX12_isSign.cls ≠ "java/lang/invoke/MethodHandle" ∧ yX12_isSign.cls ≠ "java/lang/invoke/VarHandle" ∧ (parseMethodDescriptor yX12_isSign.desc).map (fun d => d.parameters.length) = some 1 := by decide +kernel
set_option maxHeartbeats 40000000 in
set_option maxRecDepth 100000 in
theorem c_x_isSign (l : Launch) (dC : Nat → ClassId) (dI : Nat → Nat → Nat) (cy : Nat → ClassId) (a : Nat → Nat) (k0 : Nat) (L0 : Nat → Int32) (σ0 : MS) (r0 : Int32 × MS) (h0 : x_isSign k0 0 L0 σ0 = some r0) (sz : Nat) : Met l yX12_isSign w_x_isSign ({ frames := 0, cells := 0, slots := 0, locals := 0 }) (va_Pc [.ref (a 0), .int (L0 1)] (nIn (dC, dI) cy sz (vM cy a σ0))) (va_Qi (fun (z : Int32) (_ : Unit) => z = r0.1) (fun _ t => nOut (dC, dI) cy (va_A (vM cy a σ0) sz) (vM cy a r0.2) t) (va_A (vM cy a σ0) sz)) 0 0 (va_A (vM cy a σ0) sz) := by
  refine Met.ofW (cc := cX12_isSign) (maxL := 2) (ret := (some .boolean)) (by decide) rfl ?_
  intro p e s m args below meth c s₁ B hml hv
  obtain ⟨rfl, hsz, hP, hK, hD0, hG⟩ := hv
  have hx := B.exec
  have hb := B.bytes
  have hr := B.returns
  have hts := atoms_spec (ws := w_x_isSign) B.pre
  have hown : s.vm.findClass RX12 = some m.cls := findClass_of_methodNamed B.named
  have hlocks := B.notSynchronized
  subst hsz
  have hD := hD0.self (sz := s.heap.size)
  generalize hAe : va_A (vM cy a σ0) s.heap.size = A at hD ⊢
  have hA : ∀ q : Nat, s.heap.size ≤ q → A q := fun q h => by rw [← hAe]; exact Or.inr h
  have hS : va_S A s.heap s.heap [] := va_S.rf
  have hl := lv_entry ([.ref (a 0), .int (L0 1)]) (n := 2) (Nat.le_of_ble_eq_true rfl)
  rw [lg_entry_eq]
  generalize (lg_sl ([.ref (a 0), .int (L0 1)]) ++ List.replicate (2 - (lg_sl ([.ref (a 0), .int (L0 1)])).length) Slot.unset).toArray = ls at hl ⊢
  have hl : lv_has ls 2 [(0, .ref (a 0)), (1, .int (L0 1))] := hl
  have blk : ∀ k : Nat, (bT p l e (headSpec w_x_isSign ({ frames := 0, cells := 0, slots := 0, locals := 0 })).room s m #[.ref (a 0), .int (L0 1)] below meth c dC dI cy a A (qI dC dI cy a A below #[.ref (a 0), .int (L0 1)] s) 2 (x_isSign k 0) (fun L => [(0, .ref (a 0)), (1, .int (L 1))]) 0 (fun L => [])) ∧ (bT p l e (headSpec w_x_isSign ({ frames := 0, cells := 0, slots := 0, locals := 0 })).room s m #[.ref (a 0), .int (L0 1)] below meth c dC dI cy a A (qI dC dI cy a A below #[.ref (a 0), .int (L0 1)] s) 2 (x_isSign k 1) (fun L => [(0, .ref (a 0)), (1, .int (L 1))]) 20 (fun L => [])) ∧ (bT p l e (headSpec w_x_isSign ({ frames := 0, cells := 0, slots := 0, locals := 0 })).room s m #[.ref (a 0), .int (L0 1)] below meth c dC dI cy a A (qI dC dI cy a A below #[.ref (a 0), .int (L0 1)] s) 2 (x_isSign k 2) (fun L => [(0, .ref (a 0)), (1, .int (L 1))]) 21 (fun L => [.int (L 100)])) := by
    intro k
    induction k with
    | zero => exact ⟨fun L σ r h => (by cases h), fun L σ r h => (by cases h), fun L σ r h => (by cases h)⟩
    | succ k ih =>
      refine ⟨?_, ?_, ?_⟩
      · intro L σ r h H locs ls hP hD hS hl
        rw [x_isSign] at h
        refine lv_aload_n hx hb dX12_isSign_0 rfl (lv_at hl 0 rfl) ?_
        refine ng_6 hx hb hts in_x_isSign hown hK hP (hts _ (List.mem_cons_of_mem _ (List.mem_append_left _ (List.mem_append_left _ (List.mem_of_getElem? (i := 0) rfl))))) dX12_isSign_1 ?_
        refine lv_iconst (v := 4) hx hb dX12_isSign_4 (by decide) ?_
        refine lv_icmp_ne (tgt := 20) hx hb dX12_isSign_5 (by decide) (fun c1 => ?_) (fun c1 => ?_)
        · rw [if_neg c1] at h
          exact ih.2.1 L σ r h H locs ls hP hD hS (lv_sub hl [0, 1] rfl)
        · rw [if_pos c1] at h
          refine lv_aload_n hx hb dX12_isSign_8 rfl (lv_at hl 0 rfl) ?_
          refine ng_7 hx hb hts in_x_isSign hown hK hP (hts _ (List.mem_cons_of_mem _ (List.mem_append_left _ (List.mem_append_left _ (List.mem_of_getElem? (i := 1) rfl))))) dX12_isSign_9 ?_
          refine lv_iload_n hx hb dX12_isSign_12 rfl (lv_at hl 1 rfl) ?_
          refine lv_icmp_ne (tgt := 20) hx hb dX12_isSign_13 (by decide) (fun c2 => ?_) (fun c2 => ?_)
          · rw [if_neg c2] at h
            exact ih.2.1 L σ r h H locs ls hP hD hS (lv_sub hl [0, 1] rfl)
          · rw [if_pos c2] at h
            refine lv_iconst (v := 1) hx hb dX12_isSign_16 (by decide) ?_
            refine lv_goto (tgt := 21) hx hb dX12_isSign_17 (by decide) ?_
            exact ih.2.2 (upd L 100 1) σ r h H locs ls hP hD hS (lv_sub hl [0, 1] rfl)
      · intro L σ r h H locs ls hP hD hS hl
        rw [x_isSign] at h
        refine lv_iconst (v := 0) hx hb dX12_isSign_20 (by decide) ?_
        exact ih.2.2 (upd L 100 0) σ r h H locs ls hP hD hS (lv_sub hl [0, 1] rfl)
      · intro L σ r h H locs ls hP hD hS hl
        rw [x_isSign] at h
        obtain ⟨q1, h⟩ := nb_ite1 h
        cases h
        exact W.zret (v := (L 100)) hx hb hr (nb_bz q1) (fun t ht hW => ⟨⟨(L 100), (), rfl, rfl, by rw [ht]; exact hP, va_K.moved hW.alike hK, hD⟩, hS.F ht⟩) hS.2.2 dX12_isSign_21
  exact (blk k0).1 L0 σ0 r0 h0 s.heap [] ls hP hD hS hl
/-! isWord -/
def x_isWord : Nat → Nat → (Nat → Int32) → MS → Option (Int32 × MS)
  | 0, _, _, _ => none
  | k + 1, 0, L, σ => if ((σ.1 6)) = 5 then (if ((σ.1 7)) = ((L 1)) then (x_isWord k 2 (upd L 100 1) σ) else (x_isWord k 1 L σ)) else (x_isWord k 1 L σ)
  | k + 1, 1, L, σ => x_isWord k 2 (upd L 100 0) σ
  | k + 1, 2, L, σ => if ((L 100)) = 0 ∨ ((L 100)) = 1 then some ((L 100), σ) else none
  | _ + 1, _ + 3, _, _ => none
def o_x_isWord : List Cond := [.fieldLink RX12 35 "SetHouseModel" "tKind" "I", .fieldLink RX12 49 "SetHouseModel" "tWhat" "I"]
theorem o_x_isWord_good : o_x_isWord.all goodWord = true := by decide +kernel
def p_x_isWord : List Cond := o_x_isWord ++ []
theorem p_x_isWord_good : p_x_isWord.all goodWord = true := nb_all2 o_x_isWord_good rfl
def w_x_isWord : List Cond := .code yX12_isWord cX12_isWord 2 (some .boolean) :: (p_x_isWord ++ fM)
theorem w_x_isWord_good : w_x_isWord.all goodWord = true := nb_allc (by decide +kernel) (nb_all2 p_x_isWord_good fM_good)
theorem in_x_isWord : ∀ w ∈ wsX120, w ∈ w_x_isWord := fun _ h => List.mem_cons_of_mem _ (List.mem_append_right _ h)
theorem hd_x_isWord : yX12_isWord.cls = RX12 ∧ yX12_isWord.cls ≠ "java/lang/invoke/MethodHandle" ∧ yX12_isWord.cls ≠ "java/lang/invoke/VarHandle" ∧ (parseMethodDescriptor yX12_isWord.desc).map (fun d => d.parameters.length) = some 1 := by decide +kernel
set_option maxHeartbeats 40000000 in
set_option maxRecDepth 100000 in
theorem c_x_isWord (l : Launch) (dC : Nat → ClassId) (dI : Nat → Nat → Nat) (cy : Nat → ClassId) (a : Nat → Nat) (k0 : Nat) (L0 : Nat → Int32) (σ0 : MS) (r0 : Int32 × MS) (h0 : x_isWord k0 0 L0 σ0 = some r0) (sz : Nat) : Met l yX12_isWord w_x_isWord ({ frames := 0, cells := 0, slots := 0, locals := 0 }) (va_Pc [.ref (a 0), .int (L0 1)] (nIn (dC, dI) cy sz (vM cy a σ0))) (va_Qi (fun (z : Int32) (_ : Unit) => z = r0.1) (fun _ t => nOut (dC, dI) cy (va_A (vM cy a σ0) sz) (vM cy a r0.2) t) (va_A (vM cy a σ0) sz)) 0 0 (va_A (vM cy a σ0) sz) := by
  refine Met.ofW (cc := cX12_isWord) (maxL := 2) (ret := (some .boolean)) (by decide) rfl ?_
  intro p e s m args below meth c s₁ B hml hv
  obtain ⟨rfl, hsz, hP, hK, hD0, hG⟩ := hv
  have hx := B.exec
  have hb := B.bytes
  have hr := B.returns
  have hts := atoms_spec (ws := w_x_isWord) B.pre
  have hown : s.vm.findClass RX12 = some m.cls := findClass_of_methodNamed B.named
  have hlocks := B.notSynchronized
  subst hsz
  have hD := hD0.self (sz := s.heap.size)
  generalize hAe : va_A (vM cy a σ0) s.heap.size = A at hD ⊢
  have hA : ∀ q : Nat, s.heap.size ≤ q → A q := fun q h => by rw [← hAe]; exact Or.inr h
  have hS : va_S A s.heap s.heap [] := va_S.rf
  have hl := lv_entry ([.ref (a 0), .int (L0 1)]) (n := 2) (Nat.le_of_ble_eq_true rfl)
  rw [lg_entry_eq]
  generalize (lg_sl ([.ref (a 0), .int (L0 1)]) ++ List.replicate (2 - (lg_sl ([.ref (a 0), .int (L0 1)])).length) Slot.unset).toArray = ls at hl ⊢
  have hl : lv_has ls 2 [(0, .ref (a 0)), (1, .int (L0 1))] := hl
  have blk : ∀ k : Nat, (bT p l e (headSpec w_x_isWord ({ frames := 0, cells := 0, slots := 0, locals := 0 })).room s m #[.ref (a 0), .int (L0 1)] below meth c dC dI cy a A (qI dC dI cy a A below #[.ref (a 0), .int (L0 1)] s) 2 (x_isWord k 0) (fun L => [(0, .ref (a 0)), (1, .int (L 1))]) 0 (fun L => [])) ∧ (bT p l e (headSpec w_x_isWord ({ frames := 0, cells := 0, slots := 0, locals := 0 })).room s m #[.ref (a 0), .int (L0 1)] below meth c dC dI cy a A (qI dC dI cy a A below #[.ref (a 0), .int (L0 1)] s) 2 (x_isWord k 1) (fun L => [(0, .ref (a 0)), (1, .int (L 1))]) 20 (fun L => [])) ∧ (bT p l e (headSpec w_x_isWord ({ frames := 0, cells := 0, slots := 0, locals := 0 })).room s m #[.ref (a 0), .int (L0 1)] below meth c dC dI cy a A (qI dC dI cy a A below #[.ref (a 0), .int (L0 1)] s) 2 (x_isWord k 2) (fun L => [(0, .ref (a 0)), (1, .int (L 1))]) 21 (fun L => [.int (L 100)])) := by
    intro k
    induction k with
    | zero => exact ⟨fun L σ r h => (by cases h), fun L σ r h => (by cases h), fun L σ r h => (by cases h)⟩
    | succ k ih =>
      refine ⟨?_, ?_, ?_⟩
      · intro L σ r h H locs ls hP hD hS hl
        rw [x_isWord] at h
        refine lv_aload_n hx hb dX12_isWord_0 rfl (lv_at hl 0 rfl) ?_
        refine ng_6 hx hb hts in_x_isWord hown hK hP (hts _ (List.mem_cons_of_mem _ (List.mem_append_left _ (List.mem_append_left _ (List.mem_of_getElem? (i := 0) rfl))))) dX12_isWord_1 ?_
        refine lv_iconst (v := 5) hx hb dX12_isWord_4 (by decide) ?_
        refine lv_icmp_ne (tgt := 20) hx hb dX12_isWord_5 (by decide) (fun c1 => ?_) (fun c1 => ?_)
        · rw [if_neg c1] at h
          exact ih.2.1 L σ r h H locs ls hP hD hS (lv_sub hl [0, 1] rfl)
        · rw [if_pos c1] at h
          refine lv_aload_n hx hb dX12_isWord_8 rfl (lv_at hl 0 rfl) ?_
          refine ng_7 hx hb hts in_x_isWord hown hK hP (hts _ (List.mem_cons_of_mem _ (List.mem_append_left _ (List.mem_append_left _ (List.mem_of_getElem? (i := 1) rfl))))) dX12_isWord_9 ?_
          refine lv_iload_n hx hb dX12_isWord_12 rfl (lv_at hl 1 rfl) ?_
          refine lv_icmp_ne (tgt := 20) hx hb dX12_isWord_13 (by decide) (fun c2 => ?_) (fun c2 => ?_)
          · rw [if_neg c2] at h
            exact ih.2.1 L σ r h H locs ls hP hD hS (lv_sub hl [0, 1] rfl)
          · rw [if_pos c2] at h
            refine lv_iconst (v := 1) hx hb dX12_isWord_16 (by decide) ?_
            refine lv_goto (tgt := 21) hx hb dX12_isWord_17 (by decide) ?_
            exact ih.2.2 (upd L 100 1) σ r h H locs ls hP hD hS (lv_sub hl [0, 1] rfl)
      · intro L σ r h H locs ls hP hD hS hl
        rw [x_isWord] at h
        refine lv_iconst (v := 0) hx hb dX12_isWord_20 (by decide) ?_
        exact ih.2.2 (upd L 100 0) σ r h H locs ls hP hD hS (lv_sub hl [0, 1] rfl)
      · intro L σ r h H locs ls hP hD hS hl
        rw [x_isWord] at h
        obtain ⟨q1, h⟩ := nb_ite1 h
        cases h
        exact W.zret (v := (L 100)) hx hb hr (nb_bz q1) (fun t ht hW => ⟨⟨(L 100), (), rfl, rfl, by rw [ht]; exact hP, va_K.moved hW.alike hK, hD⟩, hS.F ht⟩) hS.2.2 dX12_isWord_21
  exact (blk k0).1 L0 σ0 r0 h0 s.heap [] ls hP hD hS hl
/-! cannot -/
def x_cannot : Nat → Nat → (Nat → Int32) → MS → Option (Int32 × MS)
  | 0, _, _, _ => none
  | k + 1, 0, L, σ => ob (x_fault k 0 (upd (upd (fun _ => 0) 1 2) 2 ((σ.1 8))) σ) (fun r1 => some (0, r1.2))
  | _ + 1, _ + 1, _, _ => none
def o_x_cannot : List Cond := [.fieldLink RX12 32 "SetHouseModel" "tFrom" "I", .methodLink RX12 58 yX12_fault, .instanceMethod yX12_fault, .selects RX12 yX12_fault yX12_fault, .initialized RX12]
theorem o_x_cannot_good : o_x_cannot.all goodWord = true := by decide +kernel
def p_x_cannot : List Cond := o_x_cannot ++ ((.code yX12_fault cX12_fault 3 none :: p_x_fault) ++ [])
theorem p_x_cannot_good : p_x_cannot.all goodWord = true := nb_all2 o_x_cannot_good (nb_all2 (nb_allc (by decide +kernel) p_x_fault_good) rfl)
def w_x_cannot : List Cond := .code yX12_cannot cX12_cannot 1 none :: (p_x_cannot ++ fM)
theorem w_x_cannot_good : w_x_cannot.all goodWord = true := nb_allc (by decide +kernel) (nb_all2 p_x_cannot_good fM_good)
theorem in_x_cannot : ∀ w ∈ wsX120, w ∈ w_x_cannot := fun _ h => List.mem_cons_of_mem _ (List.mem_append_right _ h)
theorem hd_x_cannot : yX12_cannot.cls = RX12 ∧ yX12_cannot.cls ≠ "java/lang/invoke/MethodHandle" ∧ yX12_cannot.cls ≠ "java/lang/invoke/VarHandle" ∧ (parseMethodDescriptor yX12_cannot.desc).map (fun d => d.parameters.length) = some 0 := by decide +kernel
theorem gg_x_cannot_fault : GoodIn w_x_cannot w_x_fault := goodIn_sub (fun w h => (List.mem_cons.mp h).elim (fun e => (List.mem_cons_of_mem _ (List.mem_append_left _ (List.mem_append_right _ (List.mem_append_left _ (List.mem_cons.mpr (Or.inl e))))))) (fun h => (List.mem_append.mp h).elim (fun h => (List.mem_cons_of_mem _ (List.mem_append_left _ (List.mem_append_right _ (List.mem_append_left _ (List.mem_cons_of_mem _ h)))))) (fun h => List.mem_cons_of_mem _ (List.mem_append_right _ h)))) w_x_fault_good
theorem g_x_cannot_fault_58 : GoodIn w_x_cannot (wsV RX12 58 RX12 yX12_fault w_x_fault) := goodIn_app (nb_g4 (List.mem_cons_of_mem _ (List.mem_append_left _ (List.mem_append_left _ (List.mem_of_getElem? (i := 1) rfl)))) (List.mem_cons_of_mem _ (List.mem_append_left _ (List.mem_append_left _ (List.mem_of_getElem? (i := 2) rfl)))) (List.mem_cons_of_mem _ (List.mem_append_left _ (List.mem_append_left _ (List.mem_of_getElem? (i := 3) rfl)))) (List.mem_cons_of_mem _ (List.mem_append_left _ (List.mem_append_left _ (List.mem_of_getElem? (i := 4) rfl)))) (by decide +kernel)) gg_x_cannot_fault
set_option maxHeartbeats 40000000 in
set_option maxRecDepth 100000 in
theorem c_x_cannot (l : Launch) (dC : Nat → ClassId) (dI : Nat → Nat → Nat) (cy : Nat → ClassId) (a : Nat → Nat) (k0 : Nat) (L0 : Nat → Int32) (σ0 : MS) (r0 : Int32 × MS) (h0 : x_cannot k0 0 L0 σ0 = some r0) (sz : Nat) : Met l yX12_cannot w_x_cannot ({ frames := 1, cells := 0, slots := 0, locals := 22 }) (va_Pc [.ref (a 0)] (nIn (dC, dI) cy sz (vM cy a σ0))) (va_Qv (fun _ : Unit => True) (fun _ t => nOut (dC, dI) cy (va_A (vM cy a σ0) sz) (vM cy a r0.2) t) (va_A (vM cy a σ0) sz)) 0 0 (va_A (vM cy a σ0) sz) := by
  refine Met.ofW (cc := cX12_cannot) (maxL := 1) (ret := none) (by decide) rfl ?_
  intro p e s m args below meth c s₁ B hml hv
  obtain ⟨rfl, hsz, hP, hK, hD0, hG⟩ := hv
  have hx := B.exec
  have hb := B.bytes
  have hr := B.returns
  have hts := atoms_spec (ws := w_x_cannot) B.pre
  have hown : s.vm.findClass RX12 = some m.cls := findClass_of_methodNamed B.named
  have hlocks := B.notSynchronized
  subst hsz
  have hD := hD0.self (sz := s.heap.size)
  generalize hAe : va_A (vM cy a σ0) s.heap.size = A at hD ⊢
  have hA : ∀ q : Nat, s.heap.size ≤ q → A q := fun q h => by rw [← hAe]; exact Or.inr h
  have hS : va_S A s.heap s.heap [] := va_S.rf
  have hl := lv_entry ([.ref (a 0)]) (n := 1) (Nat.le_of_ble_eq_true rfl)
  rw [lg_entry_eq]
  generalize (lg_sl ([.ref (a 0)]) ++ List.replicate (1 - (lg_sl ([.ref (a 0)])).length) Slot.unset).toArray = ls at hl ⊢
  have hl : lv_has ls 1 [(0, .ref (a 0))] := hl
  have blk : ∀ k : Nat, (bT p l e (headSpec w_x_cannot ({ frames := 1, cells := 0, slots := 0, locals := 22 })).room s m #[.ref (a 0)] below meth c dC dI cy a A (qV dC dI cy a A below #[.ref (a 0)] s) 1 (x_cannot k 0) (fun L => [(0, .ref (a 0))]) 0 (fun L => [])) := by
    intro k
    induction k with
    | zero => exact fun L σ r h => (by cases h)
    | succ k ih =>
      skip
      · intro L σ r h H locs ls hP hD hS hl
        rw [x_cannot] at h
        refine lv_aload_n hx hb dX12_cannot_0 rfl (lv_at hl 0 rfl) ?_
        refine lv_iconst (v := 2) hx hb dX12_cannot_1 (by decide) ?_
        refine lv_aload_n hx hb dX12_cannot_2 rfl (lv_at hl 0 rfl) ?_
        refine ng_8 hx hb hts in_x_cannot hown hK hP (hts _ (List.mem_cons_of_mem _ (List.mem_append_left _ (List.mem_append_left _ (List.mem_of_getElem? (i := 0) rfl))))) dX12_cannot_3 ?_
        obtain ⟨r1, hc1, h⟩ := ob_ex h
        refine nc_Vv (As := [.int 2, .int (σ.1 8)]) (rest := []) ⟨hx, hb, hml, hown, hts⟩ (c_x_fault l dC dI cy a k (upd (upd (fun _ => 0) 1 2) 2 ((σ.1 8))) σ r1 hc1 H.size) (cwV 2 hts g_x_cannot_fault_58 rfl rfl rfl hd_x_fault ⟨Nat.le_of_ble_eq_true rfl, Nat.le_of_ble_eq_true rfl⟩) hK hG hA hP hD hS rfl hl.1 rfl (Nat.le_of_ble_eq_true rfl) dX12_cannot_6 ⟨Nat.le_refl _, Nat.le_refl _⟩ (fun H locs hP hD hS => ?_)
        cases h
        exact W.vret hx hb hr (fun t ht hW => ⟨⟨(), rfl, trivial, by rw [ht]; exact hP, va_K.moved hW.alike hK, hD⟩, hS.F ht⟩) hS.2.2 dX12_cannot_9
  exact (blk k0) L0 σ0 r0 h0 s.heap [] ls hP hD hS hl
/-! want -/
def x_want : Nat → Nat → (Nat → Int32) → MS → Option (Int32 × MS)
  | 0, _, _, _ => none
  | k + 1, 0, L, σ => if ((σ.1 10)) = 0 then (ob (x_isSign k 0 (upd (fun _ => 0) 1 ((L 1))) σ) (fun r2 => if r2.1 = 0 then (ob (x_cannot k 0 (fun _ => 0) r2.2) (fun r4 => x_want k 1 L r4.2)) else (x_want k 1 L r2.2))) else (x_want k 1 L σ)
  | k + 1, 1, L, σ => if ((σ.1 10)) = 0 then (ob (x_take k 0 (fun _ => 0) σ) (fun r2 => x_want k 2 L r2.2)) else (x_want k 2 L σ)
  | k + 1, 2, L, σ => some (0, σ)
  | _ + 1, _ + 3, _, _ => none
def o_x_want : List Cond := [.fieldLink RX12 11 "SetHouseModel" "bad" "Z", .methodLink RX12 65 yX12_isSign, .instanceMethod yX12_isSign, .selects RX12 yX12_isSign yX12_isSign, .initialized RX12, .methodLink RX12 68 yX12_cannot, .instanceMethod yX12_cannot, .selects RX12 yX12_cannot yX12_cannot, .methodLink RX12 71 yX12_take, .instanceMethod yX12_take, .selects RX12 yX12_take yX12_take]
theorem o_x_want_good : o_x_want.all goodWord = true := by decide +kernel
def p_x_want : List Cond := o_x_want ++ ((.code yX12_isSign cX12_isSign 2 (some .boolean) :: p_x_isSign) ++ ((.code yX12_cannot cX12_cannot 1 none :: p_x_cannot) ++ ((.code yX12_take cX12_take 2 none :: p_x_take) ++ [])))
theorem p_x_want_good : p_x_want.all goodWord = true := nb_all2 o_x_want_good (nb_all2 (nb_allc (by decide +kernel) p_x_isSign_good) (nb_all2 (nb_allc (by decide +kernel) p_x_cannot_good) (nb_all2 (nb_allc (by decide +kernel) p_x_take_good) rfl)))
def w_x_want : List Cond := .code yX12_want cX12_want 2 none :: (p_x_want ++ fM)
theorem w_x_want_good : w_x_want.all goodWord = true := nb_allc (by decide +kernel) (nb_all2 p_x_want_good fM_good)
theorem in_x_want : ∀ w ∈ wsX120, w ∈ w_x_want := fun _ h => List.mem_cons_of_mem _ (List.mem_append_right _ h)
theorem hd_x_want : yX12_want.cls = RX12 ∧ yX12_want.cls ≠ "java/lang/invoke/MethodHandle" ∧ yX12_want.cls ≠ "java/lang/invoke/VarHandle" ∧ (parseMethodDescriptor yX12_want.desc).map (fun d => d.parameters.length) = some 1 := by decide +kernel
theorem gg_x_want_cannot : GoodIn w_x_want w_x_cannot := goodIn_sub (fun w h => (List.mem_cons.mp h).elim (fun e => (List.mem_cons_of_mem _ (List.mem_append_left _ (List.mem_append_right _ (List.mem_append_right _ (List.mem_append_left _ (List.mem_cons.mpr (Or.inl e)))))))) (fun h => (List.mem_append.mp h).elim (fun h => (List.mem_cons_of_mem _ (List.mem_append_left _ (List.mem_append_right _ (List.mem_append_right _ (List.mem_append_left _ (List.mem_cons_of_mem _ h))))))) (fun h => List.mem_cons_of_mem _ (List.mem_append_right _ h)))) w_x_cannot_good
theorem g_x_want_cannot_68 : GoodIn w_x_want (wsV RX12 68 RX12 yX12_cannot w_x_cannot) := goodIn_app (nb_g4 (List.mem_cons_of_mem _ (List.mem_append_left _ (List.mem_append_left _ (List.mem_of_getElem? (i := 5) rfl)))) (List.mem_cons_of_mem _ (List.mem_append_left _ (List.mem_append_left _ (List.mem_of_getElem? (i := 6) rfl)))) (List.mem_cons_of_mem _ (List.mem_append_left _ (List.mem_append_left _ (List.mem_of_getElem? (i := 7) rfl)))) (List.mem_cons_of_mem _ (List.mem_append_left _ (List.mem_append_left _ (List.mem_of_getElem? (i := 4) rfl)))) (by decide +kernel)) gg_x_want_cannot
theorem gg_x_want_isSign : GoodIn w_x_want w_x_isSign := goodIn_sub (fun w h => (List.mem_cons.mp h).elim (fun e => (List.mem_cons_of_mem _ (List.mem_append_left _ (List.mem_append_right _ (List.mem_append_left _ (List.mem_cons.mpr (Or.inl e))))))) (fun h => (List.mem_append.mp h).elim (fun h => (List.mem_cons_of_mem _ (List.mem_append_left _ (List.mem_append_right _ (List.mem_append_left _ (List.mem_cons_of_mem _ h)))))) (fun h => List.mem_cons_of_mem _ (List.mem_append_right _ h)))) w_x_isSign_good
theorem g_x_want_isSign_65 : GoodIn w_x_want (wsV RX12 65 RX12 yX12_isSign w_x_isSign) := goodIn_app (nb_g4 (List.mem_cons_of_mem _ (List.mem_append_left _ (List.mem_append_left _ (List.mem_of_getElem? (i := 1) rfl)))) (List.mem_cons_of_mem _ (List.mem_append_left _ (List.mem_append_left _ (List.mem_of_getElem? (i := 2) rfl)))) (List.mem_cons_of_mem _ (List.mem_append_left _ (List.mem_append_left _ (List.mem_of_getElem? (i := 3) rfl)))) (List.mem_cons_of_mem _ (List.mem_append_left _ (List.mem_append_left _ (List.mem_of_getElem? (i := 4) rfl)))) (by decide +kernel)) gg_x_want_isSign
theorem gg_x_want_take : GoodIn w_x_want w_x_take := goodIn_sub (fun w h => (List.mem_cons.mp h).elim (fun e => (List.mem_cons_of_mem _ (List.mem_append_left _ (List.mem_append_right _ (List.mem_append_right _ (List.mem_append_right _ (List.mem_append_left _ (List.mem_cons.mpr (Or.inl e))))))))) (fun h => (List.mem_append.mp h).elim (fun h => (List.mem_cons_of_mem _ (List.mem_append_left _ (List.mem_append_right _ (List.mem_append_right _ (List.mem_append_right _ (List.mem_append_left _ (List.mem_cons_of_mem _ h)))))))) (fun h => List.mem_cons_of_mem _ (List.mem_append_right _ h)))) w_x_take_good
theorem g_x_want_take_71 : GoodIn w_x_want (wsV RX12 71 RX12 yX12_take w_x_take) := goodIn_app (nb_g4 (List.mem_cons_of_mem _ (List.mem_append_left _ (List.mem_append_left _ (List.mem_of_getElem? (i := 8) rfl)))) (List.mem_cons_of_mem _ (List.mem_append_left _ (List.mem_append_left _ (List.mem_of_getElem? (i := 9) rfl)))) (List.mem_cons_of_mem _ (List.mem_append_left _ (List.mem_append_left _ (List.mem_of_getElem? (i := 10) rfl)))) (List.mem_cons_of_mem _ (List.mem_append_left _ (List.mem_append_left _ (List.mem_of_getElem? (i := 4) rfl)))) (by decide +kernel)) gg_x_want_take
set_option maxHeartbeats 40000000 in
set_option maxRecDepth 100000 in
theorem c_x_want (l : Launch) (dC : Nat → ClassId) (dI : Nat → Nat → Nat) (cy : Nat → ClassId) (a : Nat → Nat) (k0 : Nat) (L0 : Nat → Int32) (σ0 : MS) (r0 : Int32 × MS) (h0 : x_want k0 0 L0 σ0 = some r0) (sz : Nat) : Met l yX12_want w_x_want ({ frames := 3, cells := 0, slots := 0, locals := 64 }) (va_Pc [.ref (a 0), .int (L0 1)] (nIn (dC, dI) cy sz (vM cy a σ0))) (va_Qv (fun _ : Unit => True) (fun _ t => nOut (dC, dI) cy (va_A (vM cy a σ0) sz) (vM cy a r0.2) t) (va_A (vM cy a σ0) sz)) 0 0 (va_A (vM cy a σ0) sz) := by
  refine Met.ofW (cc := cX12_want) (maxL := 2) (ret := none) (by decide) rfl ?_
  intro p e s m args below meth c s₁ B hml hv
  obtain ⟨rfl, hsz, hP, hK, hD0, hG⟩ := hv
  have hx := B.exec
  have hb := B.bytes
  have hr := B.returns
  have hts := atoms_spec (ws := w_x_want) B.pre
  have hown : s.vm.findClass RX12 = some m.cls := findClass_of_methodNamed B.named
  have hlocks := B.notSynchronized
  subst hsz
  have hD := hD0.self (sz := s.heap.size)
  generalize hAe : va_A (vM cy a σ0) s.heap.size = A at hD ⊢
  have hA : ∀ q : Nat, s.heap.size ≤ q → A q := fun q h => by rw [← hAe]; exact Or.inr h
  have hS : va_S A s.heap s.heap [] := va_S.rf
  have hl := lv_entry ([.ref (a 0), .int (L0 1)]) (n := 2) (Nat.le_of_ble_eq_true rfl)
  rw [lg_entry_eq]
  generalize (lg_sl ([.ref (a 0), .int (L0 1)]) ++ List.replicate (2 - (lg_sl ([.ref (a 0), .int (L0 1)])).length) Slot.unset).toArray = ls at hl ⊢
  have hl : lv_has ls 2 [(0, .ref (a 0)), (1, .int (L0 1))] := hl
  have blk : ∀ k : Nat, (bT p l e (headSpec w_x_want ({ frames := 3, cells := 0, slots := 0, locals := 64 })).room s m #[.ref (a 0), .int (L0 1)] below meth c dC dI cy a A (qV dC dI cy a A below #[.ref (a 0), .int (L0 1)] s) 2 (x_want k 0) (fun L => [(0, .ref (a 0)), (1, .int (L 1))]) 0 (fun L => [])) ∧ (bT p l e (headSpec w_x_want ({ frames := 3, cells := 0, slots := 0, locals := 64 })).room s m #[.ref (a 0), .int (L0 1)] below meth c dC dI cy a A (qV dC dI cy a A below #[.ref (a 0), .int (L0 1)] s) 2 (x_want k 1) (fun L => [(0, .ref (a 0)), (1, .int (L 1))]) 19 (fun L => [])) ∧ (bT p l e (headSpec w_x_want ({ frames := 3, cells := 0, slots := 0, locals := 64 })).room s m #[.ref (a 0), .int (L0 1)] below meth c dC dI cy a A (qV dC dI cy a A below #[.ref (a 0), .int (L0 1)] s) 2 (x_want k 2) (fun L => [(0, .ref (a 0)), (1, .int (L 1))]) 30 (fun L => [])) := by
    intro k
    induction k with
    | zero => exact ⟨fun L σ r h => (by cases h), fun L σ r h => (by cases h), fun L σ r h => (by cases h)⟩
    | succ k ih =>
      refine ⟨?_, ?_, ?_⟩
      · intro L σ r h H locs ls hP hD hS hl
        rw [x_want] at h
        refine lv_aload_n hx hb dX12_want_0 rfl (lv_at hl 0 rfl) ?_
        refine ng_10 hx hb hts in_x_want hown hK hP (hts _ (List.mem_cons_of_mem _ (List.mem_append_left _ (List.mem_append_left _ (List.mem_of_getElem? (i := 0) rfl))))) dX12_want_1 ?_
        refine lv_if_ne (tgt := 19) hx hb dX12_want_4 (by decide) (fun c1 => ?_) (fun c1 => ?_)
        · rw [if_neg c1] at h
          exact ih.2.1 L σ r h H locs ls hP hD hS (lv_sub hl [0, 1] rfl)
        · rw [if_pos c1] at h
          refine lv_aload_n hx hb dX12_want_7 rfl (lv_at hl 0 rfl) ?_
          refine lv_iload_n hx hb dX12_want_8 rfl (lv_at hl 1 rfl) ?_
          obtain ⟨r2, hc2, h⟩ := ob_ex h
          refine nc_Vi (As := [.int (L 1)]) (rest := []) ⟨hx, hb, hml, hown, hts⟩ (c_x_isSign l dC dI cy a k (upd (fun _ => 0) 1 ((L 1))) σ r2 hc2 H.size) (cwV 1 hts g_x_want_isSign_65 rfl rfl rfl hd_x_isSign ⟨Nat.le_of_ble_eq_true rfl, Nat.le_of_ble_eq_true rfl⟩) hK hG hA hP hD hS rfl hl.1 rfl (Nat.le_of_ble_eq_true rfl) dX12_want_9 ⟨Nat.le_refl _, Nat.le_refl _⟩ (fun H locs hP hD hS => ?_)
          refine lv_if_ne (tgt := 19) hx hb dX12_want_12 (by decide) (fun c3 => ?_) (fun c3 => ?_)
          · rw [if_neg c3] at h
            exact ih.2.1 L r2.2 r h H locs ls hP hD hS (lv_sub hl [0, 1] rfl)
          · rw [if_pos c3] at h
            refine lv_aload_n hx hb dX12_want_15 rfl (lv_at hl 0 rfl) ?_
            obtain ⟨r4, hc4, h⟩ := ob_ex h
            refine nc_Vv (As := []) (rest := []) ⟨hx, hb, hml, hown, hts⟩ (c_x_cannot l dC dI cy a k (fun _ => 0) r2.2 r4 hc4 H.size) (cwV 0 hts g_x_want_cannot_68 rfl rfl rfl hd_x_cannot ⟨Nat.le_of_ble_eq_true rfl, Nat.le_of_ble_eq_true rfl⟩) hK hG hA hP hD hS rfl hl.1 rfl (Nat.le_of_ble_eq_true rfl) dX12_want_16 ⟨Nat.le_refl _, Nat.le_refl _⟩ (fun H locs hP hD hS => ?_)
            exact ih.2.1 L r4.2 r h H locs ls hP hD hS (lv_sub hl [0, 1] rfl)
      · intro L σ r h H locs ls hP hD hS hl
        rw [x_want] at h
        refine lv_aload_n hx hb dX12_want_19 rfl (lv_at hl 0 rfl) ?_
        refine ng_10 hx hb hts in_x_want hown hK hP (hts _ (List.mem_cons_of_mem _ (List.mem_append_left _ (List.mem_append_left _ (List.mem_of_getElem? (i := 0) rfl))))) dX12_want_20 ?_
        refine lv_if_ne (tgt := 30) hx hb dX12_want_23 (by decide) (fun c1 => ?_) (fun c1 => ?_)
        · rw [if_neg c1] at h
          exact ih.2.2 L σ r h H locs ls hP hD hS (lv_sub hl [0, 1] rfl)
        · rw [if_pos c1] at h
          refine lv_aload_n hx hb dX12_want_26 rfl (lv_at hl 0 rfl) ?_
          obtain ⟨r2, hc2, h⟩ := ob_ex h
          refine nc_Vv (As := []) (rest := []) ⟨hx, hb, hml, hown, hts⟩ (c_x_take l dC dI cy a k (fun _ => 0) σ r2 hc2 H.size) (cwV 0 hts g_x_want_take_71 rfl rfl rfl hd_x_take ⟨Nat.le_of_ble_eq_true rfl, Nat.le_of_ble_eq_true rfl⟩) hK hG hA hP hD hS rfl hl.1 rfl (Nat.le_of_ble_eq_true rfl) dX12_want_27 ⟨Nat.le_refl _, Nat.le_refl _⟩ (fun H locs hP hD hS => ?_)
          exact ih.2.2 L r2.2 r h H locs ls hP hD hS (lv_sub hl [0, 1] rfl)
      · intro L σ r h H locs ls hP hD hS hl
        rw [x_want] at h
        cases h
        exact W.vret hx hb hr (fun t ht hW => ⟨⟨(), rfl, trivial, by rw [ht]; exact hP, va_K.moved hW.alike hK, hD⟩, hS.F ht⟩) hS.2.2 dX12_want_30
  exact (blk k0).1 L0 σ0 r0 h0 s.heap [] ls hP hD hS hl
/-! wantWord -/
def x_wantWord : Nat → Nat → (Nat → Int32) → MS → Option (Int32 × MS)
  | 0, _, _, _ => none
  | k + 1, 0, L, σ => if ((σ.1 10)) = 0 then (ob (x_isWord k 0 (upd (fun _ => 0) 1 ((L 1))) σ) (fun r2 => if r2.1 = 0 then (ob (x_cannot k 0 (fun _ => 0) r2.2) (fun r4 => x_wantWord k 1 L r4.2)) else (x_wantWord k 1 L r2.2))) else (x_wantWord k 1 L σ)
  | k + 1, 1, L, σ => if ((σ.1 10)) = 0 then (ob (x_take k 0 (fun _ => 0) σ) (fun r2 => x_wantWord k 2 L r2.2)) else (x_wantWord k 2 L σ)
  | k + 1, 2, L, σ => some (0, σ)
  | _ + 1, _ + 3, _, _ => none
def o_x_wantWord : List Cond := [.fieldLink RX12 11 "SetHouseModel" "bad" "Z", .methodLink RX12 74 yX12_isWord, .instanceMethod yX12_isWord, .selects RX12 yX12_isWord yX12_isWord, .initialized RX12, .methodLink RX12 68 yX12_cannot, .instanceMethod yX12_cannot, .selects RX12 yX12_cannot yX12_cannot, .methodLink RX12 71 yX12_take, .instanceMethod yX12_take, .selects RX12 yX12_take yX12_take]
theorem o_x_wantWord_good : o_x_wantWord.all goodWord = true := by decide +kernel
def p_x_wantWord : List Cond := o_x_wantWord ++ ((.code yX12_isWord cX12_isWord 2 (some .boolean) :: p_x_isWord) ++ ((.code yX12_cannot cX12_cannot 1 none :: p_x_cannot) ++ ((.code yX12_take cX12_take 2 none :: p_x_take) ++ [])))
theorem p_x_wantWord_good : p_x_wantWord.all goodWord = true := nb_all2 o_x_wantWord_good (nb_all2 (nb_allc (by decide +kernel) p_x_isWord_good) (nb_all2 (nb_allc (by decide +kernel) p_x_cannot_good) (nb_all2 (nb_allc (by decide +kernel) p_x_take_good) rfl)))
def w_x_wantWord : List Cond := .code yX12_wantWord cX12_wantWord 2 none :: (p_x_wantWord ++ fM)
theorem w_x_wantWord_good : w_x_wantWord.all goodWord = true := nb_allc (by decide +kernel) (nb_all2 p_x_wantWord_good fM_good)
theorem in_x_wantWord : ∀ w ∈ wsX120, w ∈ w_x_wantWord := fun _ h => List.mem_cons_of_mem _ (List.mem_append_right _ h)
theorem hd_x_wantWord : yX12_wantWord.cls = RX12 ∧ yX12_wantWord.cls ≠ "java/lang/invoke/MethodHandle" ∧ yX12_wantWord.cls ≠ "java/lang/invoke/VarHandle" ∧ (parseMethodDescriptor yX12_wantWord.desc).map (fun d => d.parameters.length) = some 1 := by decide +kernel
theorem gg_x_wantWord_cannot : GoodIn w_x_wantWord w_x_cannot := goodIn_sub (fun w h => (List.mem_cons.mp h).elim (fun e => (List.mem_cons_of_mem _ (List.mem_append_left _ (List.mem_append_right _ (List.mem_append_right _ (List.mem_append_left _ (List.mem_cons.mpr (Or.inl e)))))))) (fun h => (List.mem_append.mp h).elim (fun h => (List.mem_cons_of_mem _ (List.mem_append_left _ (List.mem_append_right _ (List.mem_append_right _ (List.mem_append_left _ (List.mem_cons_of_mem _ h))))))) (fun h => List.mem_cons_of_mem _ (List.mem_append_right _ h)))) w_x_cannot_good
theorem g_x_wantWord_cannot_68 : GoodIn w_x_wantWord (wsV RX12 68 RX12 yX12_cannot w_x_cannot) := goodIn_app (nb_g4 (List.mem_cons_of_mem _ (List.mem_append_left _ (List.mem_append_left _ (List.mem_of_getElem? (i := 5) rfl)))) (List.mem_cons_of_mem _ (List.mem_append_left _ (List.mem_append_left _ (List.mem_of_getElem? (i := 6) rfl)))) (List.mem_cons_of_mem _ (List.mem_append_left _ (List.mem_append_left _ (List.mem_of_getElem? (i := 7) rfl)))) (List.mem_cons_of_mem _ (List.mem_append_left _ (List.mem_append_left _ (List.mem_of_getElem? (i := 4) rfl)))) (by decide +kernel)) gg_x_wantWord_cannot
theorem gg_x_wantWord_isWord : GoodIn w_x_wantWord w_x_isWord := goodIn_sub (fun w h => (List.mem_cons.mp h).elim (fun e => (List.mem_cons_of_mem _ (List.mem_append_left _ (List.mem_append_right _ (List.mem_append_left _ (List.mem_cons.mpr (Or.inl e))))))) (fun h => (List.mem_append.mp h).elim (fun h => (List.mem_cons_of_mem _ (List.mem_append_left _ (List.mem_append_right _ (List.mem_append_left _ (List.mem_cons_of_mem _ h)))))) (fun h => List.mem_cons_of_mem _ (List.mem_append_right _ h)))) w_x_isWord_good
theorem g_x_wantWord_isWord_74 : GoodIn w_x_wantWord (wsV RX12 74 RX12 yX12_isWord w_x_isWord) := goodIn_app (nb_g4 (List.mem_cons_of_mem _ (List.mem_append_left _ (List.mem_append_left _ (List.mem_of_getElem? (i := 1) rfl)))) (List.mem_cons_of_mem _ (List.mem_append_left _ (List.mem_append_left _ (List.mem_of_getElem? (i := 2) rfl)))) (List.mem_cons_of_mem _ (List.mem_append_left _ (List.mem_append_left _ (List.mem_of_getElem? (i := 3) rfl)))) (List.mem_cons_of_mem _ (List.mem_append_left _ (List.mem_append_left _ (List.mem_of_getElem? (i := 4) rfl)))) (by decide +kernel)) gg_x_wantWord_isWord
theorem gg_x_wantWord_take : GoodIn w_x_wantWord w_x_take := goodIn_sub (fun w h => (List.mem_cons.mp h).elim (fun e => (List.mem_cons_of_mem _ (List.mem_append_left _ (List.mem_append_right _ (List.mem_append_right _ (List.mem_append_right _ (List.mem_append_left _ (List.mem_cons.mpr (Or.inl e))))))))) (fun h => (List.mem_append.mp h).elim (fun h => (List.mem_cons_of_mem _ (List.mem_append_left _ (List.mem_append_right _ (List.mem_append_right _ (List.mem_append_right _ (List.mem_append_left _ (List.mem_cons_of_mem _ h)))))))) (fun h => List.mem_cons_of_mem _ (List.mem_append_right _ h)))) w_x_take_good
theorem g_x_wantWord_take_71 : GoodIn w_x_wantWord (wsV RX12 71 RX12 yX12_take w_x_take) := goodIn_app (nb_g4 (List.mem_cons_of_mem _ (List.mem_append_left _ (List.mem_append_left _ (List.mem_of_getElem? (i := 8) rfl)))) (List.mem_cons_of_mem _ (List.mem_append_left _ (List.mem_append_left _ (List.mem_of_getElem? (i := 9) rfl)))) (List.mem_cons_of_mem _ (List.mem_append_left _ (List.mem_append_left _ (List.mem_of_getElem? (i := 10) rfl)))) (List.mem_cons_of_mem _ (List.mem_append_left _ (List.mem_append_left _ (List.mem_of_getElem? (i := 4) rfl)))) (by decide +kernel)) gg_x_wantWord_take
set_option maxHeartbeats 40000000 in
set_option maxRecDepth 100000 in
theorem c_x_wantWord (l : Launch) (dC : Nat → ClassId) (dI : Nat → Nat → Nat) (cy : Nat → ClassId) (a : Nat → Nat) (k0 : Nat) (L0 : Nat → Int32) (σ0 : MS) (r0 : Int32 × MS) (h0 : x_wantWord k0 0 L0 σ0 = some r0) (sz : Nat) : Met l yX12_wantWord w_x_wantWord ({ frames := 3, cells := 0, slots := 0, locals := 64 }) (va_Pc [.ref (a 0), .int (L0 1)] (nIn (dC, dI) cy sz (vM cy a σ0))) (va_Qv (fun _ : Unit => True) (fun _ t => nOut (dC, dI) cy (va_A (vM cy a σ0) sz) (vM cy a r0.2) t) (va_A (vM cy a σ0) sz)) 0 0 (va_A (vM cy a σ0) sz) := by
  refine Met.ofW (cc := cX12_wantWord) (maxL := 2) (ret := none) (by decide) rfl ?_
  intro p e s m args below meth c s₁ B hml hv
  obtain ⟨rfl, hsz, hP, hK, hD0, hG⟩ := hv
  have hx := B.exec
  have hb := B.bytes
  have hr := B.returns
  have hts := atoms_spec (ws := w_x_wantWord) B.pre
  have hown : s.vm.findClass RX12 = some m.cls := findClass_of_methodNamed B.named
  have hlocks := B.notSynchronized
  subst hsz
  have hD := hD0.self (sz := s.heap.size)
  generalize hAe : va_A (vM cy a σ0) s.heap.size = A at hD ⊢
  have hA : ∀ q : Nat, s.heap.size ≤ q → A q := fun q h => by rw [← hAe]; exact Or.inr h
  have hS : va_S A s.heap s.heap [] := va_S.rf
  have hl := lv_entry ([.ref (a 0), .int (L0 1)]) (n := 2) (Nat.le_of_ble_eq_true rfl)
  rw [lg_entry_eq]
  generalize (lg_sl ([.ref (a 0), .int (L0 1)]) ++ List.replicate (2 - (lg_sl ([.ref (a 0), .int (L0 1)])).length) Slot.unset).toArray = ls at hl ⊢
  have hl : lv_has ls 2 [(0, .ref (a 0)), (1, .int (L0 1))] := hl
  have blk : ∀ k : Nat, (bT p l e (headSpec w_x_wantWord ({ frames := 3, cells := 0, slots := 0, locals := 64 })).room s m #[.ref (a 0), .int (L0 1)] below meth c dC dI cy a A (qV dC dI cy a A below #[.ref (a 0), .int (L0 1)] s) 2 (x_wantWord k 0) (fun L => [(0, .ref (a 0)), (1, .int (L 1))]) 0 (fun L => [])) ∧ (bT p l e (headSpec w_x_wantWord ({ frames := 3, cells := 0, slots := 0, locals := 64 })).room s m #[.ref (a 0), .int (L0 1)] below meth c dC dI cy a A (qV dC dI cy a A below #[.ref (a 0), .int (L0 1)] s) 2 (x_wantWord k 1) (fun L => [(0, .ref (a 0)), (1, .int (L 1))]) 19 (fun L => [])) ∧ (bT p l e (headSpec w_x_wantWord ({ frames := 3, cells := 0, slots := 0, locals := 64 })).room s m #[.ref (a 0), .int (L0 1)] below meth c dC dI cy a A (qV dC dI cy a A below #[.ref (a 0), .int (L0 1)] s) 2 (x_wantWord k 2) (fun L => [(0, .ref (a 0)), (1, .int (L 1))]) 30 (fun L => [])) := by
    intro k
    induction k with
    | zero => exact ⟨fun L σ r h => (by cases h), fun L σ r h => (by cases h), fun L σ r h => (by cases h)⟩
    | succ k ih =>
      refine ⟨?_, ?_, ?_⟩
      · intro L σ r h H locs ls hP hD hS hl
        rw [x_wantWord] at h
        refine lv_aload_n hx hb dX12_wantWord_0 rfl (lv_at hl 0 rfl) ?_
        refine ng_10 hx hb hts in_x_wantWord hown hK hP (hts _ (List.mem_cons_of_mem _ (List.mem_append_left _ (List.mem_append_left _ (List.mem_of_getElem? (i := 0) rfl))))) dX12_wantWord_1 ?_
        refine lv_if_ne (tgt := 19) hx hb dX12_wantWord_4 (by decide) (fun c1 => ?_) (fun c1 => ?_)
        · rw [if_neg c1] at h
          exact ih.2.1 L σ r h H locs ls hP hD hS (lv_sub hl [0, 1] rfl)
        · rw [if_pos c1] at h
          refine lv_aload_n hx hb dX12_wantWord_7 rfl (lv_at hl 0 rfl) ?_
          refine lv_iload_n hx hb dX12_wantWord_8 rfl (lv_at hl 1 rfl) ?_
          obtain ⟨r2, hc2, h⟩ := ob_ex h
          refine nc_Vi (As := [.int (L 1)]) (rest := []) ⟨hx, hb, hml, hown, hts⟩ (c_x_isWord l dC dI cy a k (upd (fun _ => 0) 1 ((L 1))) σ r2 hc2 H.size) (cwV 1 hts g_x_wantWord_isWord_74 rfl rfl rfl hd_x_isWord ⟨Nat.le_of_ble_eq_true rfl, Nat.le_of_ble_eq_true rfl⟩) hK hG hA hP hD hS rfl hl.1 rfl (Nat.le_of_ble_eq_true rfl) dX12_wantWord_9 ⟨Nat.le_refl _, Nat.le_refl _⟩ (fun H locs hP hD hS => ?_)
          refine lv_if_ne (tgt := 19) hx hb dX12_wantWord_12 (by decide) (fun c3 => ?_) (fun c3 => ?_)
          · rw [if_neg c3] at h
            exact ih.2.1 L r2.2 r h H locs ls hP hD hS (lv_sub hl [0, 1] rfl)
          · rw [if_pos c3] at h
            refine lv_aload_n hx hb dX12_wantWord_15 rfl (lv_at hl 0 rfl) ?_
            obtain ⟨r4, hc4, h⟩ := ob_ex h
            refine nc_Vv (As := []) (rest := []) ⟨hx, hb, hml, hown, hts⟩ (c_x_cannot l dC dI cy a k (fun _ => 0) r2.2 r4 hc4 H.size) (cwV 0 hts g_x_wantWord_cannot_68 rfl rfl rfl hd_x_cannot ⟨Nat.le_of_ble_eq_true rfl, Nat.le_of_ble_eq_true rfl⟩) hK hG hA hP hD hS rfl hl.1 rfl (Nat.le_of_ble_eq_true rfl) dX12_wantWord_16 ⟨Nat.le_refl _, Nat.le_refl _⟩ (fun H locs hP hD hS => ?_)
            exact ih.2.1 L r4.2 r h H locs ls hP hD hS (lv_sub hl [0, 1] rfl)
      · intro L σ r h H locs ls hP hD hS hl
        rw [x_wantWord] at h
        refine lv_aload_n hx hb dX12_wantWord_19 rfl (lv_at hl 0 rfl) ?_
        refine ng_10 hx hb hts in_x_wantWord hown hK hP (hts _ (List.mem_cons_of_mem _ (List.mem_append_left _ (List.mem_append_left _ (List.mem_of_getElem? (i := 0) rfl))))) dX12_wantWord_20 ?_
        refine lv_if_ne (tgt := 30) hx hb dX12_wantWord_23 (by decide) (fun c1 => ?_) (fun c1 => ?_)
        · rw [if_neg c1] at h
          exact ih.2.2 L σ r h H locs ls hP hD hS (lv_sub hl [0, 1] rfl)
        · rw [if_pos c1] at h
          refine lv_aload_n hx hb dX12_wantWord_26 rfl (lv_at hl 0 rfl) ?_
          obtain ⟨r2, hc2, h⟩ := ob_ex h
          refine nc_Vv (As := []) (rest := []) ⟨hx, hb, hml, hown, hts⟩ (c_x_take l dC dI cy a k (fun _ => 0) σ r2 hc2 H.size) (cwV 0 hts g_x_wantWord_take_71 rfl rfl rfl hd_x_take ⟨Nat.le_of_ble_eq_true rfl, Nat.le_of_ble_eq_true rfl⟩) hK hG hA hP hD hS rfl hl.1 rfl (Nat.le_of_ble_eq_true rfl) dX12_wantWord_27 ⟨Nat.le_refl _, Nat.le_refl _⟩ (fun H locs hP hD hS => ?_)
          exact ih.2.2 L r2.2 r h H locs ls hP hD hS (lv_sub hl [0, 1] rfl)
      · intro L σ r h H locs ls hP hD hS hl
        rw [x_wantWord] at h
        cases h
        exact W.vret hx hb hr (fun t ht hW => ⟨⟨(), rfl, trivial, by rw [ht]; exact hP, va_K.moved hW.alike hK, hD⟩, hS.F ht⟩) hS.2.2 dX12_wantWord_30
  exact (blk k0).1 L0 σ0 r0 h0 s.heap [] ls hP hD hS hl
/-! open -/
def x_open : Nat → Nat → (Nat → Int32) → MS → Option (Int32 × MS)
  | 0, _, _, _ => none
  | k + 1, 0, L, σ => if ((σ.1 13)) = 20 then (ob (x_fault k 0 (upd (upd (fun _ => 0) 1 3) 2 ((σ.1 8))) σ) (fun r2 => x_open k 1 L r2.2)) else (x_open k 1 L σ)
  | k + 1, 1, L, σ => some (0, (upd σ.1 13 ((((σ.1 13)) + 1)), σ.2.1, σ.2.2))
  | _ + 1, _ + 2, _, _ => none
def o_x_open : List Cond := [.fieldLink RX12 77 "SetHouseModel" "opened" "I", .fieldLink RX12 32 "SetHouseModel" "tFrom" "I", .methodLink RX12 58 yX12_fault, .instanceMethod yX12_fault, .selects RX12 yX12_fault yX12_fault, .initialized RX12]
theorem o_x_open_good : o_x_open.all goodWord = true := by decide +kernel
def p_x_open : List Cond := o_x_open ++ ((.code yX12_fault cX12_fault 3 none :: p_x_fault) ++ [])
theorem p_x_open_good : p_x_open.all goodWord = true := nb_all2 o_x_open_good (nb_all2 (nb_allc (by decide +kernel) p_x_fault_good) rfl)
def w_x_open : List Cond := .code yX12_open cX12_open 1 none :: (p_x_open ++ fM)
theorem w_x_open_good : w_x_open.all goodWord = true := nb_allc (by decide +kernel) (nb_all2 p_x_open_good fM_good)
theorem in_x_open : ∀ w ∈ wsX120, w ∈ w_x_open := fun _ h => List.mem_cons_of_mem _ (List.mem_append_right _ h)
theorem hd_x_open : yX12_open.cls = RX12 ∧ yX12_open.cls ≠ "java/lang/invoke/MethodHandle" ∧ yX12_open.cls ≠ "java/lang/invoke/VarHandle" ∧ (parseMethodDescriptor yX12_open.desc).map (fun d => d.parameters.length) = some 0 := by decide +kernel
theorem gg_x_open_fault : GoodIn w_x_open w_x_fault := goodIn_sub (fun w h => (List.mem_cons.mp h).elim (fun e => (List.mem_cons_of_mem _ (List.mem_append_left _ (List.mem_append_right _ (List.mem_append_left _ (List.mem_cons.mpr (Or.inl e))))))) (fun h => (List.mem_append.mp h).elim (fun h => (List.mem_cons_of_mem _ (List.mem_append_left _ (List.mem_append_right _ (List.mem_append_left _ (List.mem_cons_of_mem _ h)))))) (fun h => List.mem_cons_of_mem _ (List.mem_append_right _ h)))) w_x_fault_good
theorem g_x_open_fault_58 : GoodIn w_x_open (wsV RX12 58 RX12 yX12_fault w_x_fault) := goodIn_app (nb_g4 (List.mem_cons_of_mem _ (List.mem_append_left _ (List.mem_append_left _ (List.mem_of_getElem? (i := 2) rfl)))) (List.mem_cons_of_mem _ (List.mem_append_left _ (List.mem_append_left _ (List.mem_of_getElem? (i := 3) rfl)))) (List.mem_cons_of_mem _ (List.mem_append_left _ (List.mem_append_left _ (List.mem_of_getElem? (i := 4) rfl)))) (List.mem_cons_of_mem _ (List.mem_append_left _ (List.mem_append_left _ (List.mem_of_getElem? (i := 5) rfl)))) (by decide +kernel)) gg_x_open_fault
set_option maxHeartbeats 40000000 in
set_option maxRecDepth 100000 in
theorem c_x_open (l : Launch) (dC : Nat → ClassId) (dI : Nat → Nat → Nat) (cy : Nat → ClassId) (a : Nat → Nat) (k0 : Nat) (L0 : Nat → Int32) (σ0 : MS) (r0 : Int32 × MS) (h0 : x_open k0 0 L0 σ0 = some r0) (sz : Nat) : Met l yX12_open w_x_open ({ frames := 1, cells := 0, slots := 0, locals := 22 }) (va_Pc [.ref (a 0)] (nIn (dC, dI) cy sz (vM cy a σ0))) (va_Qv (fun _ : Unit => True) (fun _ t => nOut (dC, dI) cy (va_A (vM cy a σ0) sz) (vM cy a r0.2) t) (va_A (vM cy a σ0) sz)) 0 0 (va_A (vM cy a σ0) sz) := by
  refine Met.ofW (cc := cX12_open) (maxL := 1) (ret := none) (by decide) rfl ?_
  intro p e s m args below meth c s₁ B hml hv
  obtain ⟨rfl, hsz, hP, hK, hD0, hG⟩ := hv
  have hx := B.exec
  have hb := B.bytes
  have hr := B.returns
  have hts := atoms_spec (ws := w_x_open) B.pre
  have hown : s.vm.findClass RX12 = some m.cls := findClass_of_methodNamed B.named
  have hlocks := B.notSynchronized
  subst hsz
  have hD := hD0.self (sz := s.heap.size)
  generalize hAe : va_A (vM cy a σ0) s.heap.size = A at hD ⊢
  have hA : ∀ q : Nat, s.heap.size ≤ q → A q := fun q h => by rw [← hAe]; exact Or.inr h
  have hS : va_S A s.heap s.heap [] := va_S.rf
  have hl := lv_entry ([.ref (a 0)]) (n := 1) (Nat.le_of_ble_eq_true rfl)
  rw [lg_entry_eq]
  generalize (lg_sl ([.ref (a 0)]) ++ List.replicate (1 - (lg_sl ([.ref (a 0)])).length) Slot.unset).toArray = ls at hl ⊢
  have hl : lv_has ls 1 [(0, .ref (a 0))] := hl
  have blk : ∀ k : Nat, (bT p l e (headSpec w_x_open ({ frames := 1, cells := 0, slots := 0, locals := 22 })).room s m #[.ref (a 0)] below meth c dC dI cy a A (qV dC dI cy a A below #[.ref (a 0)] s) 1 (x_open k 0) (fun L => [(0, .ref (a 0))]) 0 (fun L => [])) ∧ (bT p l e (headSpec w_x_open ({ frames := 1, cells := 0, slots := 0, locals := 22 })).room s m #[.ref (a 0)] below meth c dC dI cy a A (qV dC dI cy a A below #[.ref (a 0)] s) 1 (x_open k 1) (fun L => [(0, .ref (a 0))]) 18 (fun L => [])) := by
    intro k
    induction k with
    | zero => exact ⟨fun L σ r h => (by cases h), fun L σ r h => (by cases h)⟩
    | succ k ih =>
      refine ⟨?_, ?_⟩
      · intro L σ r h H locs ls hP hD hS hl
        rw [x_open] at h
        refine lv_aload_n hx hb dX12_open_0 rfl (lv_at hl 0 rfl) ?_
        refine ng_13 hx hb hts in_x_open hown hK hP (hts _ (List.mem_cons_of_mem _ (List.mem_append_left _ (List.mem_append_left _ (List.mem_of_getElem? (i := 0) rfl))))) dX12_open_1 ?_
        refine lv_bipush (v := 20) hx hb dX12_open_4 (by decide) ?_
        refine lv_icmp_ne (tgt := 18) hx hb dX12_open_6 (by decide) (fun c1 => ?_) (fun c1 => ?_)
        · rw [if_neg c1] at h
          exact ih.2 L σ r h H locs ls hP hD hS (lv_sub hl [0] rfl)
        · rw [if_pos c1] at h
          refine lv_aload_n hx hb dX12_open_9 rfl (lv_at hl 0 rfl) ?_
          refine lv_iconst (v := 3) hx hb dX12_open_10 (by decide) ?_
          refine lv_aload_n hx hb dX12_open_11 rfl (lv_at hl 0 rfl) ?_
          refine ng_8 hx hb hts in_x_open hown hK hP (hts _ (List.mem_cons_of_mem _ (List.mem_append_left _ (List.mem_append_left _ (List.mem_of_getElem? (i := 1) rfl))))) dX12_open_12 ?_
          obtain ⟨r2, hc2, h⟩ := ob_ex h
          refine nc_Vv (As := [.int 3, .int (σ.1 8)]) (rest := []) ⟨hx, hb, hml, hown, hts⟩ (c_x_fault l dC dI cy a k (upd (upd (fun _ => 0) 1 3) 2 ((σ.1 8))) σ r2 hc2 H.size) (cwV 2 hts g_x_open_fault_58 rfl rfl rfl hd_x_fault ⟨Nat.le_of_ble_eq_true rfl, Nat.le_of_ble_eq_true rfl⟩) hK hG hA hP hD hS rfl hl.1 rfl (Nat.le_of_ble_eq_true rfl) dX12_open_15 ⟨Nat.le_refl _, Nat.le_refl _⟩ (fun H locs hP hD hS => ?_)
          exact ih.2 L r2.2 r h H locs ls hP hD hS (lv_sub hl [0] rfl)
      · intro L σ r h H locs ls hP hD hS hl
        rw [x_open] at h
        refine lv_aload_n hx hb dX12_open_18 rfl (lv_at hl 0 rfl) ?_
        refine lv_dup hx hb dX12_open_19 rfl ?_
        refine ng_13 hx hb hts in_x_open hown hK hP (hts _ (List.mem_cons_of_mem _ (List.mem_append_left _ (List.mem_append_left _ (List.mem_of_getElem? (i := 0) rfl))))) dX12_open_20 ?_
        refine lv_iconst (v := 1) hx hb dX12_open_23 (by decide) ?_
        refine lv_iadd hx hb dX12_open_24 ?_
        refine np_13 hx hb hts in_x_open hown hK hP hD hS (hts _ (List.mem_cons_of_mem _ (List.mem_append_left _ (List.mem_append_left _ (List.mem_of_getElem? (i := 0) rfl))))) dX12_open_25 (fun H locs hP hD hS => ?_)
        cases h
        exact W.vret hx hb hr (fun t ht hW => ⟨⟨(), rfl, trivial, by rw [ht]; exact hP, va_K.moved hW.alike hK, hD⟩, hS.F ht⟩) hS.2.2 dX12_open_28
  exact (blk k0).1 L0 σ0 r0 h0 s.heap [] ls hP hD hS hl
/-! node -/
def x_node : Nat → Nat → (Nat → Int32) → MS → Option (Int32 × MS)
  | 0, _, _, _ => none
  | k + 1, 0, L, σ => x_node k 1 (upd L 5 ((σ.1 22))) (upd σ.1 22 ((((σ.1 22)) + 1)), σ.2.1, σ.2.2)
  | k + 1, 1, L, σ => if ¬ (((L 5)) < 0 ∨ 70000 ≤ ((L 5)).toNatClampNeg) then (x_node k 2 L (σ.1, σ.2.1, updG σ.2.2 4 (upd (σ.2.2 4) ((L 5)).toNatClampNeg ((L 1))))) else none
  | k + 1, 2, L, σ => if ¬ (((L 5)) < 0 ∨ 70000 ≤ ((L 5)).toNatClampNeg) then (x_node k 3 L (σ.1, σ.2.1, updG σ.2.2 5 (upd (σ.2.2 5) ((L 5)).toNatClampNeg ((L 2))))) else none
  | k + 1, 3, L, σ => if ¬ (((L 5)) < 0 ∨ 70000 ≤ ((L 5)).toNatClampNeg) then (x_node k 4 L (σ.1, σ.2.1, updG σ.2.2 6 (upd (σ.2.2 6) ((L 5)).toNatClampNeg ((L 3))))) else none
  | k + 1, 4, L, σ => if ¬ (((L 5)) < 0 ∨ 70000 ≤ ((L 5)).toNatClampNeg) then (x_node k 5 L (σ.1, σ.2.1, updG σ.2.2 7 (upd (σ.2.2 7) ((L 5)).toNatClampNeg ((L 4))))) else none
  | k + 1, 5, L, σ => if ¬ (((L 5)) < 0 ∨ 70000 ≤ ((L 5)).toNatClampNeg) then (x_node k 6 L (σ.1, σ.2.1, updG σ.2.2 8 (upd (σ.2.2 8) ((L 5)).toNatClampNeg ((-1))))) else none
  | k + 1, 6, L, σ => if ¬ (((L 5)) < 0 ∨ 70000 ≤ ((L 5)).toNatClampNeg) then (x_node k 7 L (σ.1, σ.2.1, updG σ.2.2 9 (upd (σ.2.2 9) ((L 5)).toNatClampNeg ((-1))))) else none
  | k + 1, 7, L, σ => some ((L 5), σ)
  | _ + 1, _ + 8, _, _ => none
def o_x_node : List Cond := [.fieldLink RX12 80 "SetHouseModel" "nodes" "I", .fieldLink RX12 83 "SetHouseModel" "op" "[I", .fieldLink RX12 86 "SetHouseModel" "x1" "[I", .fieldLink RX12 89 "SetHouseModel" "x2" "[I", .fieldLink RX12 92 "SetHouseModel" "x3" "[I", .fieldLink RX12 95 "SetHouseModel" "x4" "[I", .fieldLink RX12 98 "SetHouseModel" "next" "[I"]
theorem o_x_node_good : o_x_node.all goodWord = true := by decide +kernel
def p_x_node : List Cond := o_x_node ++ []
theorem p_x_node_good : p_x_node.all goodWord = true := nb_all2 o_x_node_good rfl
def w_x_node : List Cond := .code yX12_node cX12_node 6 (some .int) :: (p_x_node ++ fM)
theorem w_x_node_good : w_x_node.all goodWord = true := nb_allc (by decide +kernel) (nb_all2 p_x_node_good fM_good)
theorem in_x_node : ∀ w ∈ wsX120, w ∈ w_x_node := fun _ h => List.mem_cons_of_mem _ (List.mem_append_right _ h)
theorem hd_x_node : yX12_node.cls = RX12 ∧ yX12_node.cls ≠ "java/lang/invoke/MethodHandle" ∧ yX12_node.cls ≠ "java/lang/invoke/VarHandle" ∧ (parseMethodDescriptor yX12_node.desc).map (fun d => d.parameters.length) = some 4 := by decide +kernel
set_option maxHeartbeats 40000000 in
set_option maxRecDepth 100000 in
theorem c_x_node (l : Launch) (dC : Nat → ClassId) (dI : Nat → Nat → Nat) (cy : Nat → ClassId) (a : Nat → Nat) (k0 : Nat) (L0 : Nat → Int32) (σ0 : MS) (r0 : Int32 × MS) (h0 : x_node k0 0 L0 σ0 = some r0) (sz : Nat) : Met l yX12_node w_x_node ({ frames := 0, cells := 0, slots := 0, locals := 0 }) (va_Pc [.ref (a 0), .int (L0 1), .int (L0 2), .int (L0 3), .int (L0 4)] (nIn (dC, dI) cy sz (vM cy a σ0))) (va_Qi (fun (z : Int32) (_ : Unit) => z = r0.1) (fun _ t => nOut (dC, dI) cy (va_A (vM cy a σ0) sz) (vM cy a r0.2) t) (va_A (vM cy a σ0) sz)) 0 0 (va_A (vM cy a σ0) sz) := by
  refine Met.ofW (cc := cX12_node) (maxL := 6) (ret := (some .int)) (by decide) rfl ?_
  intro p e s m args below meth c s₁ B hml hv
  obtain ⟨rfl, hsz, hP, hK, hD0, hG⟩ := hv
  have hx := B.exec
  have hb := B.bytes
  have hr := B.returns
  have hts := atoms_spec (ws := w_x_node) B.pre
  have hown : s.vm.findClass RX12 = some m.cls := findClass_of_methodNamed B.named
  have hlocks := B.notSynchronized
  subst hsz
  have hD := hD0.self (sz := s.heap.size)
  generalize hAe : va_A (vM cy a σ0) s.heap.size = A at hD ⊢
  have hA : ∀ q : Nat, s.heap.size ≤ q → A q := fun q h => by rw [← hAe]; exact Or.inr h
  have hS : va_S A s.heap s.heap [] := va_S.rf
  have hl := lv_entry ([.ref (a 0), .int (L0 1), .int (L0 2), .int (L0 3), .int (L0 4)]) (n := 6) (Nat.le_of_ble_eq_true rfl)
  rw [lg_entry_eq]
  generalize (lg_sl ([.ref (a 0), .int (L0 1), .int (L0 2), .int (L0 3), .int (L0 4)]) ++ List.replicate (6 - (lg_sl ([.ref (a 0), .int (L0 1), .int (L0 2), .int (L0 3), .int (L0 4)])).length) Slot.unset).toArray = ls at hl ⊢
  have hl : lv_has ls 6 [(0, .ref (a 0)), (1, .int (L0 1)), (2, .int (L0 2)), (3, .int (L0 3)), (4, .int (L0 4))] := hl
  have blk : ∀ k : Nat, (bT p l e (headSpec w_x_node ({ frames := 0, cells := 0, slots := 0, locals := 0 })).room s m #[.ref (a 0), .int (L0 1), .int (L0 2), .int (L0 3), .int (L0 4)] below meth c dC dI cy a A (qI dC dI cy a A below #[.ref (a 0), .int (L0 1), .int (L0 2), .int (L0 3), .int (L0 4)] s) 6 (x_node k 0) (fun L => [(0, .ref (a 0)), (1, .int (L 1)), (2, .int (L 2)), (3, .int (L 3)), (4, .int (L 4))]) 0 (fun L => [])) ∧ (bT p l e (headSpec w_x_node ({ frames := 0, cells := 0, slots := 0, locals := 0 })).room s m #[.ref (a 0), .int (L0 1), .int (L0 2), .int (L0 3), .int (L0 4)] below meth c dC dI cy a A (qI dC dI cy a A below #[.ref (a 0), .int (L0 1), .int (L0 2), .int (L0 3), .int (L0 4)] s) 6 (x_node k 1) (fun L => [(0, .ref (a 0)), (1, .int (L 1)), (2, .int (L 2)), (3, .int (L 3)), (4, .int (L 4)), (5, .int (L 5))]) 16 (fun L => [])) ∧ (bT p l e (headSpec w_x_node ({ frames := 0, cells := 0, slots := 0, locals := 0 })).room s m #[.ref (a 0), .int (L0 1), .int (L0 2), .int (L0 3), .int (L0 4)] below meth c dC dI cy a A (qI dC dI cy a A below #[.ref (a 0), .int (L0 1), .int (L0 2), .int (L0 3), .int (L0 4)] s) 6 (x_node k 2) (fun L => [(0, .ref (a 0)), (1, .int (L 1)), (2, .int (L 2)), (3, .int (L 3)), (4, .int (L 4)), (5, .int (L 5))]) 24 (fun L => [])) ∧ (bT p l e (headSpec w_x_node ({ frames := 0, cells := 0, slots := 0, locals := 0 })).room s m #[.ref (a 0), .int (L0 1), .int (L0 2), .int (L0 3), .int (L0 4)] below meth c dC dI cy a A (qI dC dI cy a A below #[.ref (a 0), .int (L0 1), .int (L0 2), .int (L0 3), .int (L0 4)] s) 6 (x_node k 3) (fun L => [(0, .ref (a 0)), (1, .int (L 1)), (2, .int (L 2)), (3, .int (L 3)), (4, .int (L 4)), (5, .int (L 5))]) 32 (fun L => [])) ∧ (bT p l e (headSpec w_x_node ({ frames := 0, cells := 0, slots := 0, locals := 0 })).room s m #[.ref (a 0), .int (L0 1), .int (L0 2), .int (L0 3), .int (L0 4)] below meth c dC dI cy a A (qI dC dI cy a A below #[.ref (a 0), .int (L0 1), .int (L0 2), .int (L0 3), .int (L0 4)] s) 6 (x_node k 4) (fun L => [(0, .ref (a 0)), (1, .int (L 1)), (2, .int (L 2)), (3, .int (L 3)), (4, .int (L 4)), (5, .int (L 5))]) 40 (fun L => [])) ∧ (bT p l e (headSpec w_x_node ({ frames := 0, cells := 0, slots := 0, locals := 0 })).room s m #[.ref (a 0), .int (L0 1), .int (L0 2), .int (L0 3), .int (L0 4)] below meth c dC dI cy a A (qI dC dI cy a A below #[.ref (a 0), .int (L0 1), .int (L0 2), .int (L0 3), .int (L0 4)] s) 6 (x_node k 5) (fun L => [(0, .ref (a 0)), (1, .int (L 1)), (2, .int (L 2)), (3, .int (L 3)), (4, .int (L 4)), (5, .int (L 5))]) 49 (fun L => [])) ∧ (bT p l e (headSpec w_x_node ({ frames := 0, cells := 0, slots := 0, locals := 0 })).room s m #[.ref (a 0), .int (L0 1), .int (L0 2), .int (L0 3), .int (L0 4)] below meth c dC dI cy a A (qI dC dI cy a A below #[.ref (a 0), .int (L0 1), .int (L0 2), .int (L0 3), .int (L0 4)] s) 6 (x_node k 6) (fun L => [(0, .ref (a 0)), (1, .int (L 1)), (2, .int (L 2)), (3, .int (L 3)), (4, .int (L 4)), (5, .int (L 5))]) 57 (fun L => [])) ∧ (bT p l e (headSpec w_x_node ({ frames := 0, cells := 0, slots := 0, locals := 0 })).room s m #[.ref (a 0), .int (L0 1), .int (L0 2), .int (L0 3), .int (L0 4)] below meth c dC dI cy a A (qI dC dI cy a A below #[.ref (a 0), .int (L0 1), .int (L0 2), .int (L0 3), .int (L0 4)] s) 6 (x_node k 7) (fun L => [(0, .ref (a 0)), (1, .int (L 1)), (2, .int (L 2)), (3, .int (L 3)), (4, .int (L 4)), (5, .int (L 5))]) 65 (fun L => [])) := by
    intro k
    induction k with
    | zero => exact ⟨fun L σ r h => (by cases h), fun L σ r h => (by cases h), fun L σ r h => (by cases h), fun L σ r h => (by cases h), fun L σ r h => (by cases h), fun L σ r h => (by cases h), fun L σ r h => (by cases h), fun L σ r h => (by cases h)⟩
    | succ k ih =>
      refine ⟨?_, ?_, ?_, ?_, ?_, ?_, ?_, ?_⟩
      · intro L σ r h H locs ls hP hD hS hl
        rw [x_node] at h
        refine lv_aload_n hx hb dX12_node_0 rfl (lv_at hl 0 rfl) ?_
        refine ng_22 hx hb hts in_x_node hown hK hP (hts _ (List.mem_cons_of_mem _ (List.mem_append_left _ (List.mem_append_left _ (List.mem_of_getElem? (i := 0) rfl))))) dX12_node_1 ?_
        refine lv_istore (lv' := [(5, .int (σ.1 22)), (0, .ref (a 0)), (1, .int (L 1)), (2, .int (L 2)), (3, .int (L 3)), (4, .int (L 4))]) hx hb dX12_node_4 hl (by decide) rfl (fun ls hl => ?_)
        refine lv_aload_n hx hb dX12_node_6 rfl (lv_at hl 1 rfl) ?_
        refine lv_dup hx hb dX12_node_7 rfl ?_
        refine ng_22 hx hb hts in_x_node hown hK hP (hts _ (List.mem_cons_of_mem _ (List.mem_append_left _ (List.mem_append_left _ (List.mem_of_getElem? (i := 0) rfl))))) dX12_node_8 ?_
        refine lv_iconst (v := 1) hx hb dX12_node_11 (by decide) ?_
        refine lv_iadd hx hb dX12_node_12 ?_
        refine np_22 hx hb hts in_x_node hown hK hP hD hS (hts _ (List.mem_cons_of_mem _ (List.mem_append_left _ (List.mem_append_left _ (List.mem_of_getElem? (i := 0) rfl))))) dX12_node_13 (fun H locs hP hD hS => ?_)
        exact ih.2.1 (upd L 5 ((σ.1 22))) (upd σ.1 22 ((((σ.1 22)) + 1)), σ.2.1, σ.2.2) r h H locs ls hP hD hS (lv_sub hl [1, 2, 3, 4, 5, 0] rfl)
      · intro L σ r h H locs ls hP hD hS hl
        rw [x_node] at h
        refine lv_aload_n hx hb dX12_node_16 rfl (lv_at hl 0 rfl) ?_
        refine ng_14 hx hb hts in_x_node hown hK hP (hts _ (List.mem_cons_of_mem _ (List.mem_append_left _ (List.mem_append_left _ (List.mem_of_getElem? (i := 1) rfl))))) dX12_node_17 ?_
        refine lv_iload hx hb dX12_node_20 (lv_at hl 5 rfl) ?_
        refine lv_iload_n hx hb dX12_node_22 rfl (lv_at hl 1 rfl) ?_
        obtain ⟨q1, h⟩ := nb_ite1 h
        refine ns_4 hx hb hK hP hD hS q1 dX12_node_23 (fun H locs hP hD hS => ?_)
        exact ih.2.2.1 L (σ.1, σ.2.1, updG σ.2.2 4 (upd (σ.2.2 4) ((L 5)).toNatClampNeg ((L 1)))) r h H locs ls hP hD hS (lv_sub hl [0, 1, 2, 3, 4, 5] rfl)
      · intro L σ r h H locs ls hP hD hS hl
        rw [x_node] at h
        refine lv_aload_n hx hb dX12_node_24 rfl (lv_at hl 0 rfl) ?_
        refine ng_15 hx hb hts in_x_node hown hK hP (hts _ (List.mem_cons_of_mem _ (List.mem_append_left _ (List.mem_append_left _ (List.mem_of_getElem? (i := 2) rfl))))) dX12_node_25 ?_
        refine lv_iload hx hb dX12_node_28 (lv_at hl 5 rfl) ?_
        refine lv_iload_n hx hb dX12_node_30 rfl (lv_at hl 2 rfl) ?_
        obtain ⟨q1, h⟩ := nb_ite1 h
        refine ns_5 hx hb hK hP hD hS q1 dX12_node_31 (fun H locs hP hD hS => ?_)
        exact ih.2.2.2.1 L (σ.1, σ.2.1, updG σ.2.2 5 (upd (σ.2.2 5) ((L 5)).toNatClampNeg ((L 2)))) r h H locs ls hP hD hS (lv_sub hl [0, 1, 2, 3, 4, 5] rfl)
      · intro L σ r h H locs ls hP hD hS hl
        rw [x_node] at h
        refine lv_aload_n hx hb dX12_node_32 rfl (lv_at hl 0 rfl) ?_
        refine ng_16 hx hb hts in_x_node hown hK hP (hts _ (List.mem_cons_of_mem _ (List.mem_append_left _ (List.mem_append_left _ (List.mem_of_getElem? (i := 3) rfl))))) dX12_node_33 ?_
        refine lv_iload hx hb dX12_node_36 (lv_at hl 5 rfl) ?_
        refine lv_iload_n hx hb dX12_node_38 rfl (lv_at hl 3 rfl) ?_
        obtain ⟨q1, h⟩ := nb_ite1 h
        refine ns_6 hx hb hK hP hD hS q1 dX12_node_39 (fun H locs hP hD hS => ?_)
        exact ih.2.2.2.2.1 L (σ.1, σ.2.1, updG σ.2.2 6 (upd (σ.2.2 6) ((L 5)).toNatClampNeg ((L 3)))) r h H locs ls hP hD hS (lv_sub hl [0, 1, 2, 3, 4, 5] rfl)
      · intro L σ r h H locs ls hP hD hS hl
        rw [x_node] at h
        refine lv_aload_n hx hb dX12_node_40 rfl (lv_at hl 0 rfl) ?_
        refine ng_17 hx hb hts in_x_node hown hK hP (hts _ (List.mem_cons_of_mem _ (List.mem_append_left _ (List.mem_append_left _ (List.mem_of_getElem? (i := 4) rfl))))) dX12_node_41 ?_
        refine lv_iload hx hb dX12_node_44 (lv_at hl 5 rfl) ?_
        refine lv_iload hx hb dX12_node_46 (lv_at hl 4 rfl) ?_
        obtain ⟨q1, h⟩ := nb_ite1 h
        refine ns_7 hx hb hK hP hD hS q1 dX12_node_48 (fun H locs hP hD hS => ?_)
        exact ih.2.2.2.2.2.1 L (σ.1, σ.2.1, updG σ.2.2 7 (upd (σ.2.2 7) ((L 5)).toNatClampNeg ((L 4)))) r h H locs ls hP hD hS (lv_sub hl [0, 1, 2, 3, 4, 5] rfl)
      · intro L σ r h H locs ls hP hD hS hl
        rw [x_node] at h
        refine lv_aload_n hx hb dX12_node_49 rfl (lv_at hl 0 rfl) ?_
        refine ng_18 hx hb hts in_x_node hown hK hP (hts _ (List.mem_cons_of_mem _ (List.mem_append_left _ (List.mem_append_left _ (List.mem_of_getElem? (i := 5) rfl))))) dX12_node_50 ?_
        refine lv_iload hx hb dX12_node_53 (lv_at hl 5 rfl) ?_
        refine lv_iconst (v := (-1)) hx hb dX12_node_55 (by decide) ?_
        obtain ⟨q1, h⟩ := nb_ite1 h
        refine ns_8 hx hb hK hP hD hS q1 dX12_node_56 (fun H locs hP hD hS => ?_)
        exact ih.2.2.2.2.2.2.1 L (σ.1, σ.2.1, updG σ.2.2 8 (upd (σ.2.2 8) ((L 5)).toNatClampNeg ((-1)))) r h H locs ls hP hD hS (lv_sub hl [0, 1, 2, 3, 4, 5] rfl)
      · intro L σ r h H locs ls hP hD hS hl
        rw [x_node] at h
        refine lv_aload_n hx hb dX12_node_57 rfl (lv_at hl 0 rfl) ?_
        refine ng_19 hx hb hts in_x_node hown hK hP (hts _ (List.mem_cons_of_mem _ (List.mem_append_left _ (List.mem_append_left _ (List.mem_of_getElem? (i := 6) rfl))))) dX12_node_58 ?_
        refine lv_iload hx hb dX12_node_61 (lv_at hl 5 rfl) ?_
        refine lv_iconst (v := (-1)) hx hb dX12_node_63 (by decide) ?_
        obtain ⟨q1, h⟩ := nb_ite1 h
        refine ns_9 hx hb hK hP hD hS q1 dX12_node_64 (fun H locs hP hD hS => ?_)
        exact ih.2.2.2.2.2.2.2 L (σ.1, σ.2.1, updG σ.2.2 9 (upd (σ.2.2 9) ((L 5)).toNatClampNeg ((-1)))) r h H locs ls hP hD hS (lv_sub hl [0, 1, 2, 3, 4, 5] rfl)
      · intro L σ r h H locs ls hP hD hS hl
        rw [x_node] at h
        refine lv_iload hx hb dX12_node_65 (lv_at hl 5 rfl) ?_
        cases h
        exact W.iret (v := (L 5)) hx hb hr (fun t ht hW => ⟨⟨(L 5), (), rfl, rfl, by rw [ht]; exact hP, va_K.moved hW.alike hK, hD⟩, hS.F ht⟩) hS.2.2 dX12_node_67
  exact (blk k0).1 L0 σ0 r0 h0 s.heap [] ls hP hD hS hl
/-! over -/
def x_over : Nat → Nat → (Nat → Int32) → MS → Option (Int32 × MS)
  | 0, _, _, _ => none
  | k + 1, 0, L, σ => ob (x_node k 0 (upd (upd (upd (upd (fun _ => 0) 1 ((L 1))) 2 ((L 2))) 3 ((L 3))) 4 ((L 4))) σ) (fun r1 => if ¬ (((L 3)) < 0 ∨ 70000 ≤ ((L 3)).toNatClampNeg) then (x_over k 1 (upd L 5 r1.1) (r1.2.1, r1.2.2.1, updG r1.2.2.2 9 (upd (r1.2.2.2 9) ((L 3)).toNatClampNeg r1.1))) else none)
  | k + 1, 1, L, σ => some ((L 5), σ)
  | _ + 1, _ + 2, _, _ => none
def o_x_over : List Cond := [.methodLink RX12 101 yX12_node, .instanceMethod yX12_node, .selects RX12 yX12_node yX12_node, .initialized RX12, .fieldLink RX12 98 "SetHouseModel" "next" "[I"]
theorem o_x_over_good : o_x_over.all goodWord = true := by decide +kernel
def p_x_over : List Cond := o_x_over ++ ((.code yX12_node cX12_node 6 (some .int) :: p_x_node) ++ [])
theorem p_x_over_good : p_x_over.all goodWord = true := nb_all2 o_x_over_good (nb_all2 (nb_allc (by decide +kernel) p_x_node_good) rfl)
def w_x_over : List Cond := .code yX12_over cX12_over 6 (some .int) :: (p_x_over ++ fM)
theorem w_x_over_good : w_x_over.all goodWord = true := nb_allc (by decide +kernel) (nb_all2 p_x_over_good fM_good)
theorem in_x_over : ∀ w ∈ wsX120, w ∈ w_x_over := fun _ h => List.mem_cons_of_mem _ (List.mem_append_right _ h)
theorem hd_x_over : yX12_over.cls = RX12 ∧ yX12_over.cls ≠ "java/lang/invoke/MethodHandle" ∧ yX12_over.cls ≠ "java/lang/invoke/VarHandle" ∧ (parseMethodDescriptor yX12_over.desc).map (fun d => d.parameters.length) = some 4 := by decide +kernel
theorem gg_x_over_node : GoodIn w_x_over w_x_node := goodIn_sub (fun w h => (List.mem_cons.mp h).elim (fun e => (List.mem_cons_of_mem _ (List.mem_append_left _ (List.mem_append_right _ (List.mem_append_left _ (List.mem_cons.mpr (Or.inl e))))))) (fun h => (List.mem_append.mp h).elim (fun h => (List.mem_cons_of_mem _ (List.mem_append_left _ (List.mem_append_right _ (List.mem_append_left _ (List.mem_cons_of_mem _ h)))))) (fun h => List.mem_cons_of_mem _ (List.mem_append_right _ h)))) w_x_node_good
theorem g_x_over_node_101 : GoodIn w_x_over (wsV RX12 101 RX12 yX12_node w_x_node) := goodIn_app (nb_g4 (List.mem_cons_of_mem _ (List.mem_append_left _ (List.mem_append_left _ (List.mem_of_getElem? (i := 0) rfl)))) (List.mem_cons_of_mem _ (List.mem_append_left _ (List.mem_append_left _ (List.mem_of_getElem? (i := 1) rfl)))) (List.mem_cons_of_mem _ (List.mem_append_left _ (List.mem_append_left _ (List.mem_of_getElem? (i := 2) rfl)))) (List.mem_cons_of_mem _ (List.mem_append_left _ (List.mem_append_left _ (List.mem_of_getElem? (i := 3) rfl)))) (by decide +kernel)) gg_x_over_node
set_option maxHeartbeats 40000000 in
set_option maxRecDepth 100000 in
theorem c_x_over (l : Launch) (dC : Nat → ClassId) (dI : Nat → Nat → Nat) (cy : Nat → ClassId) (a : Nat → Nat) (k0 : Nat) (L0 : Nat → Int32) (σ0 : MS) (r0 : Int32 × MS) (h0 : x_over k0 0 L0 σ0 = some r0) (sz : Nat) : Met l yX12_over w_x_over ({ frames := 1, cells := 0, slots := 0, locals := 25 }) (va_Pc [.ref (a 0), .int (L0 1), .int (L0 2), .int (L0 3), .int (L0 4)] (nIn (dC, dI) cy sz (vM cy a σ0))) (va_Qi (fun (z : Int32) (_ : Unit) => z = r0.1) (fun _ t => nOut (dC, dI) cy (va_A (vM cy a σ0) sz) (vM cy a r0.2) t) (va_A (vM cy a σ0) sz)) 0 0 (va_A (vM cy a σ0) sz) := by
  refine Met.ofW (cc := cX12_over) (maxL := 6) (ret := (some .int)) (by decide) rfl ?_
  intro p e s m args below meth c s₁ B hml hv
  obtain ⟨rfl, hsz, hP, hK, hD0, hG⟩ := hv
  have hx := B.exec
  have hb := B.bytes
  have hr := B.returns
  have hts := atoms_spec (ws := w_x_over) B.pre
  have hown : s.vm.findClass RX12 = some m.cls := findClass_of_methodNamed B.named
  have hlocks := B.notSynchronized
  subst hsz
  have hD := hD0.self (sz := s.heap.size)
  generalize hAe : va_A (vM cy a σ0) s.heap.size = A at hD ⊢
  have hA : ∀ q : Nat, s.heap.size ≤ q → A q := fun q h => by rw [← hAe]; exact Or.inr h
  have hS : va_S A s.heap s.heap [] := va_S.rf
  have hl := lv_entry ([.ref (a 0), .int (L0 1), .int (L0 2), .int (L0 3), .int (L0 4)]) (n := 6) (Nat.le_of_ble_eq_true rfl)
  rw [lg_entry_eq]
  generalize (lg_sl ([.ref (a 0), .int (L0 1), .int (L0 2), .int (L0 3), .int (L0 4)]) ++ List.replicate (6 - (lg_sl ([.ref (a 0), .int (L0 1), .int (L0 2), .int (L0 3), .int (L0 4)])).length) Slot.unset).toArray = ls at hl ⊢
  have hl : lv_has ls 6 [(0, .ref (a 0)), (1, .int (L0 1)), (2, .int (L0 2)), (3, .int (L0 3)), (4, .int (L0 4))] := hl
  have blk : ∀ k : Nat, (bT p l e (headSpec w_x_over ({ frames := 1, cells := 0, slots := 0, locals := 25 })).room s m #[.ref (a 0), .int (L0 1), .int (L0 2), .int (L0 3), .int (L0 4)] below meth c dC dI cy a A (qI dC dI cy a A below #[.ref (a 0), .int (L0 1), .int (L0 2), .int (L0 3), .int (L0 4)] s) 6 (x_over k 0) (fun L => [(0, .ref (a 0)), (1, .int (L 1)), (2, .int (L 2)), (3, .int (L 3)), (4, .int (L 4))]) 0 (fun L => [])) ∧ (bT p l e (headSpec w_x_over ({ frames := 1, cells := 0, slots := 0, locals := 25 })).room s m #[.ref (a 0), .int (L0 1), .int (L0 2), .int (L0 3), .int (L0 4)] below meth c dC dI cy a A (qI dC dI cy a A below #[.ref (a 0), .int (L0 1), .int (L0 2), .int (L0 3), .int (L0 4)] s) 6 (x_over k 1) (fun L => [(0, .ref (a 0)), (1, .int (L 1)), (2, .int (L 2)), (3, .int (L 3)), (4, .int (L 4)), (5, .int (L 5))]) 19 (fun L => [])) := by
    intro k
    induction k with
    | zero => exact ⟨fun L σ r h => (by cases h), fun L σ r h => (by cases h)⟩
    | succ k ih =>
      refine ⟨?_, ?_⟩
      · intro L σ r h H locs ls hP hD hS hl
        rw [x_over] at h
        refine lv_aload_n hx hb dX12_over_0 rfl (lv_at hl 0 rfl) ?_
        refine lv_iload_n hx hb dX12_over_1 rfl (lv_at hl 1 rfl) ?_
        refine lv_iload_n hx hb dX12_over_2 rfl (lv_at hl 2 rfl) ?_
        refine lv_iload_n hx hb dX12_over_3 rfl (lv_at hl 3 rfl) ?_
        refine lv_iload hx hb dX12_over_4 (lv_at hl 4 rfl) ?_
        obtain ⟨r1, hc1, h⟩ := ob_ex h
        refine nc_Vi (As := [.int (L 1), .int (L 2), .int (L 3), .int (L 4)]) (rest := []) ⟨hx, hb, hml, hown, hts⟩ (c_x_node l dC dI cy a k (upd (upd (upd (upd (fun _ => 0) 1 ((L 1))) 2 ((L 2))) 3 ((L 3))) 4 ((L 4))) σ r1 hc1 H.size) (cwV 4 hts g_x_over_node_101 rfl rfl rfl hd_x_node ⟨Nat.le_of_ble_eq_true rfl, Nat.le_of_ble_eq_true rfl⟩) hK hG hA hP hD hS rfl hl.1 rfl (Nat.le_of_ble_eq_true rfl) dX12_over_6 ⟨Nat.le_refl _, Nat.le_refl _⟩ (fun H locs hP hD hS => ?_)
        refine lv_istore (lv' := [(5, .int r1.1), (0, .ref (a 0)), (1, .int (L 1)), (2, .int (L 2)), (3, .int (L 3)), (4, .int (L 4))]) hx hb dX12_over_9 hl (by decide) rfl (fun ls hl => ?_)
        refine lv_aload_n hx hb dX12_over_11 rfl (lv_at hl 1 rfl) ?_
        refine ng_19 hx hb hts in_x_over hown hK hP (hts _ (List.mem_cons_of_mem _ (List.mem_append_left _ (List.mem_append_left _ (List.mem_of_getElem? (i := 4) rfl))))) dX12_over_12 ?_
        refine lv_iload_n hx hb dX12_over_15 rfl (lv_at hl 4 rfl) ?_
        refine lv_iload hx hb dX12_over_16 (lv_at hl 0 rfl) ?_
        obtain ⟨q2, h⟩ := nb_ite1 h
        refine ns_9 hx hb hK hP hD hS q2 dX12_over_18 (fun H locs hP hD hS => ?_)
        exact ih.2 (upd L 5 r1.1) (r1.2.1, r1.2.2.1, updG r1.2.2.2 9 (upd (r1.2.2.2 9) ((L 3)).toNatClampNeg r1.1)) r h H locs ls hP hD hS (lv_sub hl [1, 2, 3, 4, 5, 0] rfl)
      · intro L σ r h H locs ls hP hD hS hl
        rw [x_over] at h
        refine lv_iload hx hb dX12_over_19 (lv_at hl 5 rfl) ?_
        cases h
        exact W.iret (v := (L 5)) hx hb hr (fun t ht hW => ⟨⟨(L 5), (), rfl, rfl, by rw [ht]; exact hP, va_K.moved hW.alike hK, hD⟩, hS.F ht⟩) hS.2.2 dX12_over_21
  exact (blk k0).1 L0 σ0 r0 h0 s.heap [] ls hP hD hS hl
/-! keep -/
def x_keep : Nat → Nat → (Nat → Int32) → MS → Option (Int32 × MS)
  | 0, _, _, _ => none
  | k + 1, 0, L, σ => x_keep k 1 (upd (upd L 3 ((σ.1 24))) 4 ((L 1))) σ
  | k + 1, 1, L, σ => if ((L 2)) ≤ ((L 4)) then (x_keep k 4 L σ) else (if ¬ (((L 4)) < 0 ∨ 32768 ≤ ((L 4)).toNatClampNeg) then (if ¬ (((σ.1 24)) < 0 ∨ 70000 ≤ ((σ.1 24)).toNatClampNeg) then (x_keep k 2 L (σ.1, σ.2.1, updG σ.2.2 12 (upd (σ.2.2 12) ((σ.1 24)).toNatClampNeg ((σ.2.2 3 ((L 4)).toNatClampNeg))))) else none) else none)
  | k + 1, 2, L, σ => x_keep k 3 L (upd σ.1 24 ((((σ.1 24)) + 1)), σ.2.1, σ.2.2)
  | k + 1, 3, L, σ => x_keep k 1 (upd L 4 (((L 4)) + 1)) σ
  | k + 1, 4, L, σ => some ((L 3), σ)
  | _ + 1, _ + 5, _, _ => none
def o_x_keep : List Cond := [.fieldLink RX12 105 "SetHouseModel" "pooled" "I", .fieldLink RX12 108 "SetHouseModel" "pool" "[I", .fieldLink RX12 7 "SetHouseModel" "tape" "[I"]
theorem o_x_keep_good : o_x_keep.all goodWord = true := by decide +kernel
def p_x_keep : List Cond := o_x_keep ++ []
theorem p_x_keep_good : p_x_keep.all goodWord = true := nb_all2 o_x_keep_good rfl
def w_x_keep : List Cond := .code yX12_keep cX12_keep 5 (some .int) :: (p_x_keep ++ fM)
theorem w_x_keep_good : w_x_keep.all goodWord = true := nb_allc (by decide +kernel) (nb_all2 p_x_keep_good fM_good)
theorem in_x_keep : ∀ w ∈ wsX120, w ∈ w_x_keep := fun _ h => List.mem_cons_of_mem _ (List.mem_append_right _ h)
theorem hd_x_keep : yX12_keep.cls = RX12 ∧ yX12_keep.cls ≠ "java/lang/invoke/MethodHandle" ∧ yX12_keep.cls ≠ "java/lang/invoke/VarHandle" ∧ (parseMethodDescriptor yX12_keep.desc).map (fun d => d.parameters.length) = some 2 := by decide +kernel
set_option maxHeartbeats 40000000 in
set_option maxRecDepth 100000 in
theorem c_x_keep (l : Launch) (dC : Nat → ClassId) (dI : Nat → Nat → Nat) (cy : Nat → ClassId) (a : Nat → Nat) (k0 : Nat) (L0 : Nat → Int32) (σ0 : MS) (r0 : Int32 × MS) (h0 : x_keep k0 0 L0 σ0 = some r0) (sz : Nat) : Met l yX12_keep w_x_keep ({ frames := 0, cells := 0, slots := 0, locals := 0 }) (va_Pc [.ref (a 0), .int (L0 1), .int (L0 2)] (nIn (dC, dI) cy sz (vM cy a σ0))) (va_Qi (fun (z : Int32) (_ : Unit) => z = r0.1) (fun _ t => nOut (dC, dI) cy (va_A (vM cy a σ0) sz) (vM cy a r0.2) t) (va_A (vM cy a σ0) sz)) 0 0 (va_A (vM cy a σ0) sz) := by
  refine Met.ofW (cc := cX12_keep) (maxL := 5) (ret := (some .int)) (by decide) rfl ?_
  intro p e s m args below meth c s₁ B hml hv
  obtain ⟨rfl, hsz, hP, hK, hD0, hG⟩ := hv
  have hx := B.exec
  have hb := B.bytes
  have hr := B.returns
  have hts := atoms_spec (ws := w_x_keep) B.pre
  have hown : s.vm.findClass RX12 = some m.cls := findClass_of_methodNamed B.named
  have hlocks := B.notSynchronized
  subst hsz
  have hD := hD0.self (sz := s.heap.size)
  generalize hAe : va_A (vM cy a σ0) s.heap.size = A at hD ⊢
  have hA : ∀ q : Nat, s.heap.size ≤ q → A q := fun q h => by rw [← hAe]; exact Or.inr h
  have hS : va_S A s.heap s.heap [] := va_S.rf
  have hl := lv_entry ([.ref (a 0), .int (L0 1), .int (L0 2)]) (n := 5) (Nat.le_of_ble_eq_true rfl)
  rw [lg_entry_eq]
  generalize (lg_sl ([.ref (a 0), .int (L0 1), .int (L0 2)]) ++ List.replicate (5 - (lg_sl ([.ref (a 0), .int (L0 1), .int (L0 2)])).length) Slot.unset).toArray = ls at hl ⊢
  have hl : lv_has ls 5 [(0, .ref (a 0)), (1, .int (L0 1)), (2, .int (L0 2))] := hl
  have blk : ∀ k : Nat, (bT p l e (headSpec w_x_keep ({ frames := 0, cells := 0, slots := 0, locals := 0 })).room s m #[.ref (a 0), .int (L0 1), .int (L0 2)] below meth c dC dI cy a A (qI dC dI cy a A below #[.ref (a 0), .int (L0 1), .int (L0 2)] s) 5 (x_keep k 0) (fun L => [(0, .ref (a 0)), (1, .int (L 1)), (2, .int (L 2))]) 0 (fun L => [])) ∧ (bT p l e (headSpec w_x_keep ({ frames := 0, cells := 0, slots := 0, locals := 0 })).room s m #[.ref (a 0), .int (L0 1), .int (L0 2)] below meth c dC dI cy a A (qI dC dI cy a A below #[.ref (a 0), .int (L0 1), .int (L0 2)] s) 5 (x_keep k 1) (fun L => [(0, .ref (a 0)), (1, .int (L 1)), (2, .int (L 2)), (3, .int (L 3)), (4, .int (L 4))]) 8 (fun L => [])) ∧ (bT p l e (headSpec w_x_keep ({ frames := 0, cells := 0, slots := 0, locals := 0 })).room s m #[.ref (a 0), .int (L0 1), .int (L0 2)] below meth c dC dI cy a A (qI dC dI cy a A below #[.ref (a 0), .int (L0 1), .int (L0 2)] s) 5 (x_keep k 2) (fun L => [(0, .ref (a 0)), (1, .int (L 1)), (2, .int (L 2)), (3, .int (L 3)), (4, .int (L 4))]) 30 (fun L => [])) ∧ (bT p l e (headSpec w_x_keep ({ frames := 0, cells := 0, slots := 0, locals := 0 })).room s m #[.ref (a 0), .int (L0 1), .int (L0 2)] below meth c dC dI cy a A (qI dC dI cy a A below #[.ref (a 0), .int (L0 1), .int (L0 2)] s) 5 (x_keep k 3) (fun L => [(0, .ref (a 0)), (1, .int (L 1)), (2, .int (L 2)), (3, .int (L 3)), (4, .int (L 4))]) 40 (fun L => [])) ∧ (bT p l e (headSpec w_x_keep ({ frames := 0, cells := 0, slots := 0, locals := 0 })).room s m #[.ref (a 0), .int (L0 1), .int (L0 2)] below meth c dC dI cy a A (qI dC dI cy a A below #[.ref (a 0), .int (L0 1), .int (L0 2)] s) 5 (x_keep k 4) (fun L => [(0, .ref (a 0)), (1, .int (L 1)), (2, .int (L 2)), (3, .int (L 3)), (4, .int (L 4))]) 46 (fun L => [])) := by
    intro k
    induction k with
    | zero => exact ⟨fun L σ r h => (by cases h), fun L σ r h => (by cases h), fun L σ r h => (by cases h), fun L σ r h => (by cases h), fun L σ r h => (by cases h)⟩
    | succ k ih =>
      refine ⟨?_, ?_, ?_, ?_, ?_⟩
      · intro L σ r h H locs ls hP hD hS hl
        rw [x_keep] at h
        refine lv_aload_n hx hb dX12_keep_0 rfl (lv_at hl 0 rfl) ?_
        refine ng_24 hx hb hts in_x_keep hown hK hP (hts _ (List.mem_cons_of_mem _ (List.mem_append_left _ (List.mem_append_left _ (List.mem_of_getElem? (i := 0) rfl))))) dX12_keep_1 ?_
        refine lv_istore_n (lv' := [(3, .int (σ.1 24)), (0, .ref (a 0)), (1, .int (L 1)), (2, .int (L 2))]) hx hb dX12_keep_4 rfl hl (by decide) rfl (fun ls hl => ?_)
        refine lv_iload_n hx hb dX12_keep_5 rfl (lv_at hl 2 rfl) ?_
        refine lv_istore (lv' := [(4, .int (L 1)), (3, .int (σ.1 24)), (0, .ref (a 0)), (1, .int (L 1)), (2, .int (L 2))]) hx hb dX12_keep_6 hl (by decide) rfl (fun ls hl => ?_)
        exact ih.2.1 (upd (upd L 3 ((σ.1 24))) 4 ((L 1))) σ r h H locs ls hP hD hS (lv_sub hl [2, 3, 4, 1, 0] rfl)
      · intro L σ r h H locs ls hP hD hS hl
        rw [x_keep] at h
        refine lv_iload hx hb dX12_keep_8 (lv_at hl 4 rfl) ?_
        refine lv_iload_n hx hb dX12_keep_10 rfl (lv_at hl 2 rfl) ?_
        refine lv_icmp_ge (tgt := 46) hx hb dX12_keep_11 (by decide) (fun c1 => ?_) (fun c1 => ?_)
        · rw [if_pos c1] at h
          exact ih.2.2.2.2 L σ r h H locs ls hP hD hS (lv_sub hl [0, 1, 2, 3, 4] rfl)
        · rw [if_neg c1] at h
          refine lv_aload_n hx hb dX12_keep_14 rfl (lv_at hl 0 rfl) ?_
          refine ng_23 hx hb hts in_x_keep hown hK hP (hts _ (List.mem_cons_of_mem _ (List.mem_append_left _ (List.mem_append_left _ (List.mem_of_getElem? (i := 1) rfl))))) dX12_keep_15 ?_
          refine lv_aload_n hx hb dX12_keep_18 rfl (lv_at hl 0 rfl) ?_
          refine ng_24 hx hb hts in_x_keep hown hK hP (hts _ (List.mem_cons_of_mem _ (List.mem_append_left _ (List.mem_append_left _ (List.mem_of_getElem? (i := 0) rfl))))) dX12_keep_19 ?_
          refine lv_aload_n hx hb dX12_keep_22 rfl (lv_at hl 0 rfl) ?_
          refine ng_3 hx hb hts in_x_keep hown hK hP (hts _ (List.mem_cons_of_mem _ (List.mem_append_left _ (List.mem_append_left _ (List.mem_of_getElem? (i := 2) rfl))))) dX12_keep_23 ?_
          refine lv_iload hx hb dX12_keep_26 (lv_at hl 4 rfl) ?_
          obtain ⟨q2, h⟩ := nb_ite1 h
          refine nl_3 hx hb hK hP q2 dX12_keep_28 ?_
          obtain ⟨q3, h⟩ := nb_ite1 h
          refine ns_12 hx hb hK hP hD hS q3 dX12_keep_29 (fun H locs hP hD hS => ?_)
          exact ih.2.2.1 L (σ.1, σ.2.1, updG σ.2.2 12 (upd (σ.2.2 12) ((σ.1 24)).toNatClampNeg ((σ.2.2 3 ((L 4)).toNatClampNeg)))) r h H locs ls hP hD hS (lv_sub hl [0, 1, 2, 3, 4] rfl)
      · intro L σ r h H locs ls hP hD hS hl
        rw [x_keep] at h
        refine lv_aload_n hx hb dX12_keep_30 rfl (lv_at hl 0 rfl) ?_
        refine lv_dup hx hb dX12_keep_31 rfl ?_
        refine ng_24 hx hb hts in_x_keep hown hK hP (hts _ (List.mem_cons_of_mem _ (List.mem_append_left _ (List.mem_append_left _ (List.mem_of_getElem? (i := 0) rfl))))) dX12_keep_32 ?_
        refine lv_iconst (v := 1) hx hb dX12_keep_35 (by decide) ?_
        refine lv_iadd hx hb dX12_keep_36 ?_
        refine np_24 hx hb hts in_x_keep hown hK hP hD hS (hts _ (List.mem_cons_of_mem _ (List.mem_append_left _ (List.mem_append_left _ (List.mem_of_getElem? (i := 0) rfl))))) dX12_keep_37 (fun H locs hP hD hS => ?_)
        exact ih.2.2.2.1 L (upd σ.1 24 ((((σ.1 24)) + 1)), σ.2.1, σ.2.2) r h H locs ls hP hD hS (lv_sub hl [0, 1, 2, 3, 4] rfl)
      · intro L σ r h H locs ls hP hD hS hl
        rw [x_keep] at h
        refine lv_iinc (v := ((L 4)) + 1) (lv' := [(4, .int (((L 4)) + 1)), (0, .ref (a 0)), (1, .int (L 1)), (2, .int (L 2)), (3, .int (L 3))]) hx hb dX12_keep_40 hl (k := 4) rfl rfl (by decide) rfl (fun ls hl => ?_)
        refine lv_goto (tgt := 8) hx hb dX12_keep_43 (by decide) ?_
        exact ih.2.1 (upd L 4 (((L 4)) + 1)) σ r h H locs ls hP hD hS (lv_sub hl [1, 2, 3, 4, 0] rfl)
      · intro L σ r h H locs ls hP hD hS hl
        rw [x_keep] at h
        refine lv_iload_n hx hb dX12_keep_46 rfl (lv_at hl 3 rfl) ?_
        cases h
        exact W.iret (v := (L 3)) hx hb hr (fun t ht hW => ⟨⟨(L 3), (), rfl, rfl, by rw [ht]; exact hP, va_K.moved hW.alike hK, hD⟩, hS.F ht⟩) hS.2.2 dX12_keep_47
  exact (blk k0).1 L0 σ0 r0 h0 s.heap [] ls hP hD hS hl
/-! isNamed -/
def x_isNamed : Nat → Nat → (Nat → Int32) → MS → Option (Int32 × MS)
  | 0, _, _, _ => none
  | k + 1, 0, L, σ => if ((((σ.1 9)) - ((σ.1 8)))) = ((L 2)) then (x_isNamed k 1 L σ) else (some (0, σ))
  | k + 1, 1, L, σ => x_isNamed k 2 (upd L 3 0) σ
  | k + 1, 2, L, σ => if ((L 2)) ≤ ((L 3)) then (x_isNamed k 4 L σ) else (if ¬ (((((L 1)) + ((L 3)))) < 0 ∨ 70000 ≤ ((((L 1)) + ((L 3)))).toNatClampNeg) then (if ¬ (((((σ.1 8)) + ((L 3)))) < 0 ∨ 32768 ≤ ((((σ.1 8)) + ((L 3)))).toNatClampNeg) then (if ((σ.2.2 12 ((((L 1)) + ((L 3)))).toNatClampNeg)) = ((σ.2.2 3 ((((σ.1 8)) + ((L 3)))).toNatClampNeg)) then (x_isNamed k 3 L σ) else (some (0, σ))) else none) else none)
  | k + 1, 3, L, σ => x_isNamed k 2 (upd L 3 (((L 3)) + 1)) σ
  | k + 1, 4, L, σ => some (1, σ)
  | _ + 1, _ + 5, _, _ => none
def o_x_isNamed : List Cond := [.fieldLink RX12 55 "SetHouseModel" "tTo" "I", .fieldLink RX12 32 "SetHouseModel" "tFrom" "I", .fieldLink RX12 108 "SetHouseModel" "pool" "[I", .fieldLink RX12 7 "SetHouseModel" "tape" "[I"]
theorem o_x_isNamed_good : o_x_isNamed.all goodWord = true := by decide +kernel
def p_x_isNamed : List Cond := o_x_isNamed ++ []
theorem p_x_isNamed_good : p_x_isNamed.all goodWord = true := nb_all2 o_x_isNamed_good rfl
def w_x_isNamed : List Cond := .code yX12_isNamed cX12_isNamed 4 (some .boolean) :: (p_x_isNamed ++ fM)
theorem w_x_isNamed_good : w_x_isNamed.all goodWord = true := nb_allc (by decide +kernel) (nb_all2 p_x_isNamed_good fM_good)
theorem in_x_isNamed : ∀ w ∈ wsX120, w ∈ w_x_isNamed := fun _ h => List.mem_cons_of_mem _ (List.mem_append_right _ h)
theorem hd_x_isNamed : yX12_isNamed.cls = RX12 ∧ yX12_isNamed.cls ≠ "java/lang/invoke/MethodHandle" ∧ yX12_isNamed.cls ≠ "java/lang/invoke/VarHandle" ∧ (parseMethodDescriptor yX12_isNamed.desc).map (fun d => d.parameters.length) = some 2 := by decide +kernel
set_option maxHeartbeats 40000000 in
set_option maxRecDepth 100000 in
theorem c_x_isNamed (l : Launch) (dC : Nat → ClassId) (dI : Nat → Nat → Nat) (cy : Nat → ClassId) (a : Nat → Nat) (k0 : Nat) (L0 : Nat → Int32) (σ0 : MS) (r0 : Int32 × MS) (h0 : x_isNamed k0 0 L0 σ0 = some r0) (sz : Nat) : Met l yX12_isNamed w_x_isNamed ({ frames := 0, cells := 0, slots := 0, locals := 0 }) (va_Pc [.ref (a 0), .int (L0 1), .int (L0 2)] (nIn (dC, dI) cy sz (vM cy a σ0))) (va_Qi (fun (z : Int32) (_ : Unit) => z = r0.1) (fun _ t => nOut (dC, dI) cy (va_A (vM cy a σ0) sz) (vM cy a r0.2) t) (va_A (vM cy a σ0) sz)) 0 0 (va_A (vM cy a σ0) sz) := by
  refine Met.ofW (cc := cX12_isNamed) (maxL := 4) (ret := (some .boolean)) (by decide) rfl ?_
  intro p e s m args below meth c s₁ B hml hv
  obtain ⟨rfl, hsz, hP, hK, hD0, hG⟩ := hv
  have hx := B.exec
  have hb := B.bytes
  have hr := B.returns
  have hts := atoms_spec (ws := w_x_isNamed) B.pre
  have hown : s.vm.findClass RX12 = some m.cls := findClass_of_methodNamed B.named
  have hlocks := B.notSynchronized
  subst hsz
  have hD := hD0.self (sz := s.heap.size)
  generalize hAe : va_A (vM cy a σ0) s.heap.size = A at hD ⊢
  have hA : ∀ q : Nat, s.heap.size ≤ q → A q := fun q h => by rw [← hAe]; exact Or.inr h
  have hS : va_S A s.heap s.heap [] := va_S.rf
  have hl := lv_entry ([.ref (a 0), .int (L0 1), .int (L0 2)]) (n := 4) (Nat.le_of_ble_eq_true rfl)
  rw [lg_entry_eq]
  generalize (lg_sl ([.ref (a 0), .int (L0 1), .int (L0 2)]) ++ List.replicate (4 - (lg_sl ([.ref (a 0), .int (L0 1), .int (L0 2)])).length) Slot.unset).toArray = ls at hl ⊢
  have hl : lv_has ls 4 [(0, .ref (a 0)), (1, .int (L0 1)), (2, .int (L0 2))] := hl
  have blk : ∀ k : Nat, (bT p l e (headSpec w_x_isNamed ({ frames := 0, cells := 0, slots := 0, locals := 0 })).room s m #[.ref (a 0), .int (L0 1), .int (L0 2)] below meth c dC dI cy a A (qI dC dI cy a A below #[.ref (a 0), .int (L0 1), .int (L0 2)] s) 4 (x_isNamed k 0) (fun L => [(0, .ref (a 0)), (1, .int (L 1)), (2, .int (L 2))]) 0 (fun L => [])) ∧ (bT p l e (headSpec w_x_isNamed ({ frames := 0, cells := 0, slots := 0, locals := 0 })).room s m #[.ref (a 0), .int (L0 1), .int (L0 2)] below meth c dC dI cy a A (qI dC dI cy a A below #[.ref (a 0), .int (L0 1), .int (L0 2)] s) 4 (x_isNamed k 1) (fun L => [(0, .ref (a 0)), (1, .int (L 1)), (2, .int (L 2))]) 15 (fun L => [])) ∧ (bT p l e (headSpec w_x_isNamed ({ frames := 0, cells := 0, slots := 0, locals := 0 })).room s m #[.ref (a 0), .int (L0 1), .int (L0 2)] below meth c dC dI cy a A (qI dC dI cy a A below #[.ref (a 0), .int (L0 1), .int (L0 2)] s) 4 (x_isNamed k 2) (fun L => [(0, .ref (a 0)), (1, .int (L 1)), (2, .int (L 2)), (3, .int (L 3))]) 17 (fun L => [])) ∧ (bT p l e (headSpec w_x_isNamed ({ frames := 0, cells := 0, slots := 0, locals := 0 })).room s m #[.ref (a 0), .int (L0 1), .int (L0 2)] below meth c dC dI cy a A (qI dC dI cy a A below #[.ref (a 0), .int (L0 1), .int (L0 2)] s) 4 (x_isNamed k 3) (fun L => [(0, .ref (a 0)), (1, .int (L 1)), (2, .int (L 2)), (3, .int (L 3))]) 46 (fun L => [])) ∧ (bT p l e (headSpec w_x_isNamed ({ frames := 0, cells := 0, slots := 0, locals := 0 })).room s m #[.ref (a 0), .int (L0 1), .int (L0 2)] below meth c dC dI cy a A (qI dC dI cy a A below #[.ref (a 0), .int (L0 1), .int (L0 2)] s) 4 (x_isNamed k 4) (fun L => [(0, .ref (a 0)), (1, .int (L 1)), (2, .int (L 2)), (3, .int (L 3))]) 52 (fun L => [])) := by
    intro k
    induction k with
    | zero => exact ⟨fun L σ r h => (by cases h), fun L σ r h => (by cases h), fun L σ r h => (by cases h), fun L σ r h => (by cases h), fun L σ r h => (by cases h)⟩
    | succ k ih =>
      refine ⟨?_, ?_, ?_, ?_, ?_⟩
      · intro L σ r h H locs ls hP hD hS hl
        rw [x_isNamed] at h
        refine lv_aload_n hx hb dX12_isNamed_0 rfl (lv_at hl 0 rfl) ?_
        refine ng_9 hx hb hts in_x_isNamed hown hK hP (hts _ (List.mem_cons_of_mem _ (List.mem_append_left _ (List.mem_append_left _ (List.mem_of_getElem? (i := 0) rfl))))) dX12_isNamed_1 ?_
        refine lv_aload_n hx hb dX12_isNamed_4 rfl (lv_at hl 0 rfl) ?_
        refine ng_8 hx hb hts in_x_isNamed hown hK hP (hts _ (List.mem_cons_of_mem _ (List.mem_append_left _ (List.mem_append_left _ (List.mem_of_getElem? (i := 1) rfl))))) dX12_isNamed_5 ?_
        refine lv_isub hx hb dX12_isNamed_8 ?_
        refine lv_iload_n hx hb dX12_isNamed_9 rfl (lv_at hl 2 rfl) ?_
        refine lv_icmp_eq (tgt := 15) hx hb dX12_isNamed_10 (by decide) (fun c1 => ?_) (fun c1 => ?_)
        · rw [if_pos c1] at h
          exact ih.2.1 L σ r h H locs ls hP hD hS (lv_sub hl [0, 1, 2] rfl)
        · rw [if_neg c1] at h
          refine lv_iconst (v := 0) hx hb dX12_isNamed_13 (by decide) ?_
          cases h
          exact W.zret (v := 0) hx hb hr rfl (fun t ht hW => ⟨⟨0, (), rfl, rfl, by rw [ht]; exact hP, va_K.moved hW.alike hK, hD⟩, hS.F ht⟩) hS.2.2 dX12_isNamed_14
      · intro L σ r h H locs ls hP hD hS hl
        rw [x_isNamed] at h
        refine lv_iconst (v := 0) hx hb dX12_isNamed_15 (by decide) ?_
        refine lv_istore_n (lv' := [(3, .int 0), (0, .ref (a 0)), (1, .int (L 1)), (2, .int (L 2))]) hx hb dX12_isNamed_16 rfl hl (by decide) rfl (fun ls hl => ?_)
        exact ih.2.2.1 (upd L 3 0) σ r h H locs ls hP hD hS (lv_sub hl [1, 2, 3, 0] rfl)
      · intro L σ r h H locs ls hP hD hS hl
        rw [x_isNamed] at h
        refine lv_iload_n hx hb dX12_isNamed_17 rfl (lv_at hl 3 rfl) ?_
        refine lv_iload_n hx hb dX12_isNamed_18 rfl (lv_at hl 2 rfl) ?_
        refine lv_icmp_ge (tgt := 52) hx hb dX12_isNamed_19 (by decide) (fun c1 => ?_) (fun c1 => ?_)
        · rw [if_pos c1] at h
          exact ih.2.2.2.2 L σ r h H locs ls hP hD hS (lv_sub hl [0, 1, 2, 3] rfl)
        · rw [if_neg c1] at h
          refine lv_aload_n hx hb dX12_isNamed_22 rfl (lv_at hl 0 rfl) ?_
          refine ng_23 hx hb hts in_x_isNamed hown hK hP (hts _ (List.mem_cons_of_mem _ (List.mem_append_left _ (List.mem_append_left _ (List.mem_of_getElem? (i := 2) rfl))))) dX12_isNamed_23 ?_
          refine lv_iload_n hx hb dX12_isNamed_26 rfl (lv_at hl 1 rfl) ?_
          refine lv_iload_n hx hb dX12_isNamed_27 rfl (lv_at hl 3 rfl) ?_
          refine lv_iadd hx hb dX12_isNamed_28 ?_
          obtain ⟨q2, h⟩ := nb_ite1 h
          refine nl_12 hx hb hK hP q2 dX12_isNamed_29 ?_
          refine lv_aload_n hx hb dX12_isNamed_30 rfl (lv_at hl 0 rfl) ?_
          refine ng_3 hx hb hts in_x_isNamed hown hK hP (hts _ (List.mem_cons_of_mem _ (List.mem_append_left _ (List.mem_append_left _ (List.mem_of_getElem? (i := 3) rfl))))) dX12_isNamed_31 ?_
          refine lv_aload_n hx hb dX12_isNamed_34 rfl (lv_at hl 0 rfl) ?_
          refine ng_8 hx hb hts in_x_isNamed hown hK hP (hts _ (List.mem_cons_of_mem _ (List.mem_append_left _ (List.mem_append_left _ (List.mem_of_getElem? (i := 1) rfl))))) dX12_isNamed_35 ?_
          refine lv_iload_n hx hb dX12_isNamed_38 rfl (lv_at hl 3 rfl) ?_
          refine lv_iadd hx hb dX12_isNamed_39 ?_
          obtain ⟨q3, h⟩ := nb_ite1 h
          refine nl_3 hx hb hK hP q3 dX12_isNamed_40 ?_
          refine lv_icmp_eq (tgt := 46) hx hb dX12_isNamed_41 (by decide) (fun c4 => ?_) (fun c4 => ?_)
          · rw [if_pos c4] at h
            exact ih.2.2.2.1 L σ r h H locs ls hP hD hS (lv_sub hl [0, 1, 2, 3] rfl)
          · rw [if_neg c4] at h
            refine lv_iconst (v := 0) hx hb dX12_isNamed_44 (by decide) ?_
            cases h
            exact W.zret (v := 0) hx hb hr rfl (fun t ht hW => ⟨⟨0, (), rfl, rfl, by rw [ht]; exact hP, va_K.moved hW.alike hK, hD⟩, hS.F ht⟩) hS.2.2 dX12_isNamed_45
      · intro L σ r h H locs ls hP hD hS hl
        rw [x_isNamed] at h
        refine lv_iinc (v := ((L 3)) + 1) (lv' := [(3, .int (((L 3)) + 1)), (0, .ref (a 0)), (1, .int (L 1)), (2, .int (L 2))]) hx hb dX12_isNamed_46 hl (k := 3) rfl rfl (by decide) rfl (fun ls hl => ?_)
        refine lv_goto (tgt := 17) hx hb dX12_isNamed_49 (by decide) ?_
        exact ih.2.2.1 (upd L 3 (((L 3)) + 1)) σ r h H locs ls hP hD hS (lv_sub hl [1, 2, 3, 0] rfl)
      · intro L σ r h H locs ls hP hD hS hl
        rw [x_isNamed] at h
        refine lv_iconst (v := 1) hx hb dX12_isNamed_52 (by decide) ?_
        cases h
        exact W.zret (v := 1) hx hb hr rfl (fun t ht hW => ⟨⟨1, (), rfl, rfl, by rw [ht]; exact hP, va_K.moved hW.alike hK, hD⟩, hS.F ht⟩) hS.2.2 dX12_isNamed_53
  exact (blk k0).1 L0 σ0 r0 h0 s.heap [] ls hP hD hS hl
/-! find -/
def x_find : Nat → Nat → (Nat → Int32) → MS → Option (Int32 × MS)
  | 0, _, _, _ => none
  | k + 1, 0, L, σ => x_find k 1 L (upd σ.1 46 0, σ.2.1, σ.2.2)
  | k + 1, 1, L, σ => x_find k 2 (upd L 1 ((((σ.1 38)) - 1))) σ
  | k + 1, 2, L, σ => if ((L 1)) < 0 then (x_find k 8 L σ) else (if ¬ (((L 1)) < 0 ∨ 400 ≤ ((L 1)).toNatClampNeg) then (if ¬ (((L 1)) < 0 ∨ 400 ≤ ((L 1)).toNatClampNeg) then (ob (x_isNamed k 0 (upd (upd (fun _ => 0) 1 ((σ.2.2 22 ((L 1)).toNatClampNeg))) 2 ((σ.2.2 23 ((L 1)).toNatClampNeg))) σ) (fun r4 => if r4.1 = 0 then (x_find k 7 L r4.2) else (x_find k 3 L (upd r4.2.1 46 1, r4.2.2.1, r4.2.2.2)))) else none) else none)
  | k + 1, 3, L, σ => if ¬ (((L 1)) < 0 ∨ 400 ≤ ((L 1)).toNatClampNeg) then (x_find k 4 L (upd σ.1 47 ((σ.2.2 24 ((L 1)).toNatClampNeg)), σ.2.1, σ.2.2)) else none
  | k + 1, 4, L, σ => if ((σ.1 37)) ≤ 0 then (x_find k 5 L σ) else (x_find k 6 (upd L 100 1) σ)
  | k + 1, 5, L, σ => x_find k 6 (upd L 100 0) σ
  | k + 1, 6, L, σ => if ((L 100)) = 0 ∨ ((L 100)) = 1 then (some (0, (upd σ.1 48 ((L 100)), σ.2.1, σ.2.2))) else none
  | k + 1, 7, L, σ => x_find k 2 (upd L 1 (((L 1)) + (-1))) σ
  | k + 1, 8, L, σ => x_find k 9 (upd L 1 0) σ
  | k + 1, 9, L, σ => if ((σ.1 25)) ≤ ((L 1)) then (x_find k 13 L σ) else (if ¬ (((L 1)) < 0 ∨ 200 ≤ ((L 1)).toNatClampNeg) then (if ¬ (((L 1)) < 0 ∨ 200 ≤ ((L 1)).toNatClampNeg) then (ob (x_isNamed k 0 (upd (upd (fun _ => 0) 1 ((σ.2.2 14 ((L 1)).toNatClampNeg))) 2 ((σ.2.2 15 ((L 1)).toNatClampNeg))) σ) (fun r4 => if r4.1 = 0 then (x_find k 12 L r4.2) else (if ¬ (((L 1)) < 0 ∨ 200 ≤ ((L 1)).toNatClampNeg) then (x_find k 10 L (upd r4.2.1 46 ((r4.2.2.2 13 ((L 1)).toNatClampNeg)), r4.2.2.1, r4.2.2.2)) else none))) else none) else none)
  | k + 1, 10, L, σ => if ¬ (((L 1)) < 0 ∨ 200 ≤ ((L 1)).toNatClampNeg) then (x_find k 11 L (upd σ.1 47 ((σ.2.2 16 ((L 1)).toNatClampNeg)), σ.2.1, σ.2.2)) else none
  | k + 1, 11, L, σ => some (0, (upd σ.1 48 0, σ.2.1, σ.2.2))
  | k + 1, 12, L, σ => x_find k 9 (upd L 1 (((L 1)) + 1)) σ
  | k + 1, 13, L, σ => some (0, σ)
  | _ + 1, _ + 14, _, _ => none
def o_x_find : List Cond := [.fieldLink RX12 111 "SetHouseModel" "foundKind" "I", .fieldLink RX12 114 "SetHouseModel" "seenNames" "I", .fieldLink RX12 117 "SetHouseModel" "nFrom" "[I", .fieldLink RX12 120 "SetHouseModel" "nSize" "[I", .methodLink RX12 123 yX12_isNamed, .instanceMethod yX12_isNamed, .selects RX12 yX12_isNamed yX12_isNamed, .initialized RX12, .fieldLink RX12 127 "SetHouseModel" "nSlot" "[I", .fieldLink RX12 130 "SetHouseModel" "foundNumber" "I", .fieldLink RX12 133 "SetHouseModel" "owner" "I", .fieldLink RX12 136 "SetHouseModel" "foundLocal" "Z", .fieldLink RX12 139 "SetHouseModel" "entities" "I", .fieldLink RX12 142 "SetHouseModel" "eFrom" "[I", .fieldLink RX12 145 "SetHouseModel" "eSize" "[I", .fieldLink RX12 148 "SetHouseModel" "eKind" "[I", .fieldLink RX12 151 "SetHouseModel" "eNumber" "[I"]
theorem o_x_find_good : o_x_find.all goodWord = true := by decide +kernel
def p_x_find : List Cond := o_x_find ++ ((.code yX12_isNamed cX12_isNamed 4 (some .boolean) :: p_x_isNamed) ++ [])
theorem p_x_find_good : p_x_find.all goodWord = true := nb_all2 o_x_find_good (nb_all2 (nb_allc (by decide +kernel) p_x_isNamed_good) rfl)
def w_x_find : List Cond := .code yX12_find cX12_find 2 none :: (p_x_find ++ fM)
theorem w_x_find_good : w_x_find.all goodWord = true := nb_allc (by decide +kernel) (nb_all2 p_x_find_good fM_good)
theorem in_x_find : ∀ w ∈ wsX120, w ∈ w_x_find := fun _ h => List.mem_cons_of_mem _ (List.mem_append_right _ h)
theorem hd_x_find : yX12_find.cls = RX12 ∧ yX12_find.cls ≠ "java/lang/invoke/MethodHandle" ∧ yX12_find.cls ≠ "java/lang/invoke/VarHandle" ∧ (parseMethodDescriptor yX12_find.desc).map (fun d => d.parameters.length) = some 0 := by decide +kernel
theorem gg_x_find_isNamed : GoodIn w_x_find w_x_isNamed := goodIn_sub (fun w h => (List.mem_cons.mp h).elim (fun e => (List.mem_cons_of_mem _ (List.mem_append_left _ (List.mem_append_right _ (List.mem_append_left _ (List.mem_cons.mpr (Or.inl e))))))) (fun h => (List.mem_append.mp h).elim (fun h => (List.mem_cons_of_mem _ (List.mem_append_left _ (List.mem_append_right _ (List.mem_append_left _ (List.mem_cons_of_mem _ h)))))) (fun h => List.mem_cons_of_mem _ (List.mem_append_right _ h)))) w_x_isNamed_good
theorem g_x_find_isNamed_123 : GoodIn w_x_find (wsV RX12 123 RX12 yX12_isNamed w_x_isNamed) := goodIn_app (nb_g4 (List.mem_cons_of_mem _ (List.mem_append_left _ (List.mem_append_left _ (List.mem_of_getElem? (i := 4) rfl)))) (List.mem_cons_of_mem _ (List.mem_append_left _ (List.mem_append_left _ (List.mem_of_getElem? (i := 5) rfl)))) (List.mem_cons_of_mem _ (List.mem_append_left _ (List.mem_append_left _ (List.mem_of_getElem? (i := 6) rfl)))) (List.mem_cons_of_mem _ (List.mem_append_left _ (List.mem_append_left _ (List.mem_of_getElem? (i := 7) rfl)))) (by decide +kernel)) gg_x_find_isNamed
set_option maxHeartbeats 40000000 in
set_option maxRecDepth 100000 in
theorem c_x_find (l : Launch) (dC : Nat → ClassId) (dI : Nat → Nat → Nat) (cy : Nat → ClassId) (a : Nat → Nat) (k0 : Nat) (L0 : Nat → Int32) (σ0 : MS) (r0 : Int32 × MS) (h0 : x_find k0 0 L0 σ0 = some r0) (sz : Nat) : Met l yX12_find w_x_find ({ frames := 1, cells := 0, slots := 0, locals := 23 }) (va_Pc [.ref (a 0)] (nIn (dC, dI) cy sz (vM cy a σ0))) (va_Qv (fun _ : Unit => True) (fun _ t => nOut (dC, dI) cy (va_A (vM cy a σ0) sz) (vM cy a r0.2) t) (va_A (vM cy a σ0) sz)) 0 0 (va_A (vM cy a σ0) sz) := by
  refine Met.ofW (cc := cX12_find) (maxL := 2) (ret := none) (by decide) rfl ?_
  intro p e s m args below meth c s₁ B hml hv
  obtain ⟨rfl, hsz, hP, hK, hD0, hG⟩ := hv
  have hx := B.exec
  have hb := B.bytes
  have hr := B.returns
  have hts := atoms_spec (ws := w_x_find) B.pre
  have hown : s.vm.findClass RX12 = some m.cls := findClass_of_methodNamed B.named
  have hlocks := B.notSynchronized
  subst hsz
  have hD := hD0.self (sz := s.heap.size)
  generalize hAe : va_A (vM cy a σ0) s.heap.size = A at hD ⊢
  have hA : ∀ q : Nat, s.heap.size ≤ q → A q := fun q h => by rw [← hAe]; exact Or.inr h
  have hS : va_S A s.heap s.heap [] := va_S.rf
  have hl := lv_entry ([.ref (a 0)]) (n := 2) (Nat.le_of_ble_eq_true rfl)
  rw [lg_entry_eq]
  generalize (lg_sl ([.ref (a 0)]) ++ List.replicate (2 - (lg_sl ([.ref (a 0)])).length) Slot.unset).toArray = ls at hl ⊢
  have hl : lv_has ls 2 [(0, .ref (a 0))] := hl
  have blk : ∀ k : Nat, (bT p l e (headSpec w_x_find ({ frames := 1, cells := 0, slots := 0, locals := 23 })).room s m #[.ref (a 0)] below meth c dC dI cy a A (qV dC dI cy a A below #[.ref (a 0)] s) 2 (x_find k 0) (fun L => [(0, .ref (a 0))]) 0 (fun L => [])) ∧ (bT p l e (headSpec w_x_find ({ frames := 1, cells := 0, slots := 0, locals := 23 })).room s m #[.ref (a 0)] below meth c dC dI cy a A (qV dC dI cy a A below #[.ref (a 0)] s) 2 (x_find k 1) (fun L => [(0, .ref (a 0))]) 5 (fun L => [])) ∧ (bT p l e (headSpec w_x_find ({ frames := 1, cells := 0, slots := 0, locals := 23 })).room s m #[.ref (a 0)] below meth c dC dI cy a A (qV dC dI cy a A below #[.ref (a 0)] s) 2 (x_find k 2) (fun L => [(0, .ref (a 0)), (1, .int (L 1))]) 12 (fun L => [])) ∧ (bT p l e (headSpec w_x_find ({ frames := 1, cells := 0, slots := 0, locals := 23 })).room s m #[.ref (a 0)] below meth c dC dI cy a A (qV dC dI cy a A below #[.ref (a 0)] s) 2 (x_find k 3) (fun L => [(0, .ref (a 0)), (1, .int (L 1))]) 40 (fun L => [])) ∧ (bT p l e (headSpec w_x_find ({ frames := 1, cells := 0, slots := 0, locals := 23 })).room s m #[.ref (a 0)] below meth c dC dI cy a A (qV dC dI cy a A below #[.ref (a 0)] s) 2 (x_find k 4) (fun L => [(0, .ref (a 0)), (1, .int (L 1))]) 50 (fun L => [])) ∧ (bT p l e (headSpec w_x_find ({ frames := 1, cells := 0, slots := 0, locals := 23 })).room s m #[.ref (a 0)] below meth c dC dI cy a A (qV dC dI cy a A below #[.ref (a 0)] s) 2 (x_find k 5) (fun L => [(0, .ref (a 0)), (1, .int (L 1))]) 62 (fun L => [.ref (a 0)])) ∧ (bT p l e (headSpec w_x_find ({ frames := 1, cells := 0, slots := 0, locals := 23 })).room s m #[.ref (a 0)] below meth c dC dI cy a A (qV dC dI cy a A below #[.ref (a 0)] s) 2 (x_find k 6) (fun L => [(0, .ref (a 0)), (1, .int (L 1))]) 63 (fun L => [.int (L 100), .ref (a 0)])) ∧ (bT p l e (headSpec w_x_find ({ frames := 1, cells := 0, slots := 0, locals := 23 })).room s m #[.ref (a 0)] below meth c dC dI cy a A (qV dC dI cy a A below #[.ref (a 0)] s) 2 (x_find k 7) (fun L => [(0, .ref (a 0)), (1, .int (L 1))]) 67 (fun L => [])) ∧ (bT p l e (headSpec w_x_find ({ frames := 1, cells := 0, slots := 0, locals := 23 })).room s m #[.ref (a 0)] below meth c dC dI cy a A (qV dC dI cy a A below #[.ref (a 0)] s) 2 (x_find k 8) (fun L => [(0, .ref (a 0)), (1, .int (L 1))]) 73 (fun L => [])) ∧ (bT p l e (headSpec w_x_find ({ frames := 1, cells := 0, slots := 0, locals := 23 })).room s m #[.ref (a 0)] below meth c dC dI cy a A (qV dC dI cy a A below #[.ref (a 0)] s) 2 (x_find k 9) (fun L => [(0, .ref (a 0)), (1, .int (L 1))]) 75 (fun L => [])) ∧ (bT p l e (headSpec w_x_find ({ frames := 1, cells := 0, slots := 0, locals := 23 })).room s m #[.ref (a 0)] below meth c dC dI cy a A (qV dC dI cy a A below #[.ref (a 0)] s) 2 (x_find k 10) (fun L => [(0, .ref (a 0)), (1, .int (L 1))]) 112 (fun L => [])) ∧ (bT p l e (headSpec w_x_find ({ frames := 1, cells := 0, slots := 0, locals := 23 })).room s m #[.ref (a 0)] below meth c dC dI cy a A (qV dC dI cy a A below #[.ref (a 0)] s) 2 (x_find k 11) (fun L => [(0, .ref (a 0)), (1, .int (L 1))]) 122 (fun L => [])) ∧ (bT p l e (headSpec w_x_find ({ frames := 1, cells := 0, slots := 0, locals := 23 })).room s m #[.ref (a 0)] below meth c dC dI cy a A (qV dC dI cy a A below #[.ref (a 0)] s) 2 (x_find k 12) (fun L => [(0, .ref (a 0)), (1, .int (L 1))]) 128 (fun L => [])) ∧ (bT p l e (headSpec w_x_find ({ frames := 1, cells := 0, slots := 0, locals := 23 })).room s m #[.ref (a 0)] below meth c dC dI cy a A (qV dC dI cy a A below #[.ref (a 0)] s) 2 (x_find k 13) (fun L => [(0, .ref (a 0)), (1, .int (L 1))]) 134 (fun L => [])) := by
    intro k
    induction k with
    | zero => exact ⟨fun L σ r h => (by cases h), fun L σ r h => (by cases h), fun L σ r h => (by cases h), fun L σ r h => (by cases h), fun L σ r h => (by cases h), fun L σ r h => (by cases h), fun L σ r h => (by cases h), fun L σ r h => (by cases h), fun L σ r h => (by cases h), fun L σ r h => (by cases h), fun L σ r h => (by cases h), fun L σ r h => (by cases h), fun L σ r h => (by cases h), fun L σ r h => (by cases h)⟩
    | succ k ih =>
      refine ⟨?_, ?_, ?_, ?_, ?_, ?_, ?_, ?_, ?_, ?_, ?_, ?_, ?_, ?_⟩
      · intro L σ r h H locs ls hP hD hS hl
        rw [x_find] at h
        refine lv_aload_n hx hb dX12_find_0 rfl (lv_at hl 0 rfl) ?_
        refine lv_iconst (v := 0) hx hb dX12_find_1 (by decide) ?_
        refine np_46 hx hb hts in_x_find hown hK hP hD hS (hts _ (List.mem_cons_of_mem _ (List.mem_append_left _ (List.mem_append_left _ (List.mem_of_getElem? (i := 0) rfl))))) dX12_find_2 (fun H locs hP hD hS => ?_)
        exact ih.2.1 L (upd σ.1 46 0, σ.2.1, σ.2.2) r h H locs ls hP hD hS (lv_sub hl [0] rfl)
      · intro L σ r h H locs ls hP hD hS hl
        rw [x_find] at h
        refine lv_aload_n hx hb dX12_find_5 rfl (lv_at hl 0 rfl) ?_
        refine ng_38 hx hb hts in_x_find hown hK hP (hts _ (List.mem_cons_of_mem _ (List.mem_append_left _ (List.mem_append_left _ (List.mem_of_getElem? (i := 1) rfl))))) dX12_find_6 ?_
        refine lv_iconst (v := 1) hx hb dX12_find_9 (by decide) ?_
        refine lv_isub hx hb dX12_find_10 ?_
        refine lv_istore_n (lv' := [(1, .int (((σ.1 38)) - 1)), (0, .ref (a 0))]) hx hb dX12_find_11 rfl hl (by decide) rfl (fun ls hl => ?_)
        exact ih.2.2.1 (upd L 1 ((((σ.1 38)) - 1))) σ r h H locs ls hP hD hS (lv_sub hl [1, 0] rfl)
      · intro L σ r h H locs ls hP hD hS hl
        rw [x_find] at h
        refine lv_iload_n hx hb dX12_find_12 rfl (lv_at hl 1 rfl) ?_
        refine lv_if_lt (tgt := 73) hx hb dX12_find_13 (by decide) (fun c1 => ?_) (fun c1 => ?_)
        · rw [if_pos c1] at h
          exact ih.2.2.2.2.2.2.2.2.1 L σ r h H locs ls hP hD hS (lv_sub hl [0, 1] rfl)
        · rw [if_neg c1] at h
          refine lv_aload_n hx hb dX12_find_16 rfl (lv_at hl 0 rfl) ?_
          refine lv_aload_n hx hb dX12_find_17 rfl (lv_at hl 0 rfl) ?_
          refine ng_39 hx hb hts in_x_find hown hK hP (hts _ (List.mem_cons_of_mem _ (List.mem_append_left _ (List.mem_append_left _ (List.mem_of_getElem? (i := 2) rfl))))) dX12_find_18 ?_
          refine lv_iload_n hx hb dX12_find_21 rfl (lv_at hl 1 rfl) ?_
          obtain ⟨q2, h⟩ := nb_ite1 h
          refine nl_22 hx hb hK hP q2 dX12_find_22 ?_
          refine lv_aload_n hx hb dX12_find_23 rfl (lv_at hl 0 rfl) ?_
          refine ng_40 hx hb hts in_x_find hown hK hP (hts _ (List.mem_cons_of_mem _ (List.mem_append_left _ (List.mem_append_left _ (List.mem_of_getElem? (i := 3) rfl))))) dX12_find_24 ?_
          refine lv_iload_n hx hb dX12_find_27 rfl (lv_at hl 1 rfl) ?_
          obtain ⟨q3, h⟩ := nb_ite1 h
          refine nl_23 hx hb hK hP q3 dX12_find_28 ?_
          obtain ⟨r4, hc4, h⟩ := ob_ex h
          refine nc_Vi (As := [.int (σ.2.2 22 ((L 1)).toNatClampNeg), .int (σ.2.2 23 ((L 1)).toNatClampNeg)]) (rest := []) ⟨hx, hb, hml, hown, hts⟩ (c_x_isNamed l dC dI cy a k (upd (upd (fun _ => 0) 1 ((σ.2.2 22 ((L 1)).toNatClampNeg))) 2 ((σ.2.2 23 ((L 1)).toNatClampNeg))) σ r4 hc4 H.size) (cwV 2 hts g_x_find_isNamed_123 rfl rfl rfl hd_x_isNamed ⟨Nat.le_of_ble_eq_true rfl, Nat.le_of_ble_eq_true rfl⟩) hK hG hA hP hD hS rfl hl.1 rfl (Nat.le_of_ble_eq_true rfl) dX12_find_29 ⟨Nat.le_refl _, Nat.le_refl _⟩ (fun H locs hP hD hS => ?_)
          refine lv_if_eq (tgt := 67) hx hb dX12_find_32 (by decide) (fun c5 => ?_) (fun c5 => ?_)
          · rw [if_pos c5] at h
            exact ih.2.2.2.2.2.2.2.1 L r4.2 r h H locs ls hP hD hS (lv_sub hl [0, 1] rfl)
          · rw [if_neg c5] at h
            refine lv_aload_n hx hb dX12_find_35 rfl (lv_at hl 0 rfl) ?_
            refine lv_iconst (v := 1) hx hb dX12_find_36 (by decide) ?_
            refine np_46 hx hb hts in_x_find hown hK hP hD hS (hts _ (List.mem_cons_of_mem _ (List.mem_append_left _ (List.mem_append_left _ (List.mem_of_getElem? (i := 0) rfl))))) dX12_find_37 (fun H locs hP hD hS => ?_)
            exact ih.2.2.2.1 L (upd r4.2.1 46 1, r4.2.2.1, r4.2.2.2) r h H locs ls hP hD hS (lv_sub hl [0, 1] rfl)
      · intro L σ r h H locs ls hP hD hS hl
        rw [x_find] at h
        refine lv_aload_n hx hb dX12_find_40 rfl (lv_at hl 0 rfl) ?_
        refine lv_aload_n hx hb dX12_find_41 rfl (lv_at hl 0 rfl) ?_
        refine ng_41 hx hb hts in_x_find hown hK hP (hts _ (List.mem_cons_of_mem _ (List.mem_append_left _ (List.mem_append_left _ (List.mem_of_getElem? (i := 8) rfl))))) dX12_find_42 ?_
        refine lv_iload_n hx hb dX12_find_45 rfl (lv_at hl 1 rfl) ?_
        obtain ⟨q1, h⟩ := nb_ite1 h
        refine nl_24 hx hb hK hP q1 dX12_find_46 ?_
        refine np_47 hx hb hts in_x_find hown hK hP hD hS (hts _ (List.mem_cons_of_mem _ (List.mem_append_left _ (List.mem_append_left _ (List.mem_of_getElem? (i := 9) rfl))))) dX12_find_47 (fun H locs hP hD hS => ?_)
        exact ih.2.2.2.2.1 L (upd σ.1 47 ((σ.2.2 24 ((L 1)).toNatClampNeg)), σ.2.1, σ.2.2) r h H locs ls hP hD hS (lv_sub hl [0, 1] rfl)
      · intro L σ r h H locs ls hP hD hS hl
        rw [x_find] at h
        refine lv_aload_n hx hb dX12_find_50 rfl (lv_at hl 0 rfl) ?_
        refine lv_aload_n hx hb dX12_find_51 rfl (lv_at hl 0 rfl) ?_
        refine ng_37 hx hb hts in_x_find hown hK hP (hts _ (List.mem_cons_of_mem _ (List.mem_append_left _ (List.mem_append_left _ (List.mem_of_getElem? (i := 10) rfl))))) dX12_find_52 ?_
        refine lv_if_le (tgt := 62) hx hb dX12_find_55 (by decide) (fun c1 => ?_) (fun c1 => ?_)
        · rw [if_pos c1] at h
          exact ih.2.2.2.2.2.1 L σ r h H locs ls hP hD hS (lv_sub hl [0, 1] rfl)
        · rw [if_neg c1] at h
          refine lv_iconst (v := 1) hx hb dX12_find_58 (by decide) ?_
          refine lv_goto (tgt := 63) hx hb dX12_find_59 (by decide) ?_
          exact ih.2.2.2.2.2.2.1 (upd L 100 1) σ r h H locs ls hP hD hS (lv_sub hl [0, 1] rfl)
      · intro L σ r h H locs ls hP hD hS hl
        rw [x_find] at h
        refine lv_iconst (v := 0) hx hb dX12_find_62 (by decide) ?_
        exact ih.2.2.2.2.2.2.1 (upd L 100 0) σ r h H locs ls hP hD hS (lv_sub hl [0, 1] rfl)
      · intro L σ r h H locs ls hP hD hS hl
        rw [x_find] at h
        obtain ⟨q1, h⟩ := nb_ite1 h
        refine np_48 hx hb hts in_x_find hown hK hP hD hS (hts _ (List.mem_cons_of_mem _ (List.mem_append_left _ (List.mem_append_left _ (List.mem_of_getElem? (i := 11) rfl))))) q1 dX12_find_63 (fun H locs hP hD hS => ?_)
        cases h
        exact W.vret hx hb hr (fun t ht hW => ⟨⟨(), rfl, trivial, by rw [ht]; exact hP, va_K.moved hW.alike hK, hD⟩, hS.F ht⟩) hS.2.2 dX12_find_66
      · intro L σ r h H locs ls hP hD hS hl
        rw [x_find] at h
        refine lv_iinc (v := ((L 1)) + (-1)) (lv' := [(1, .int (((L 1)) + (-1))), (0, .ref (a 0))]) hx hb dX12_find_67 hl (k := 1) rfl rfl (by decide) rfl (fun ls hl => ?_)
        refine lv_goto (tgt := 12) hx hb dX12_find_70 (by decide) ?_
        exact ih.2.2.1 (upd L 1 (((L 1)) + (-1))) σ r h H locs ls hP hD hS (lv_sub hl [1, 0] rfl)
      · intro L σ r h H locs ls hP hD hS hl
        rw [x_find] at h
        refine lv_iconst (v := 0) hx hb dX12_find_73 (by decide) ?_
        refine lv_istore_n (lv' := [(1, .int 0), (0, .ref (a 0))]) hx hb dX12_find_74 rfl hl (by decide) rfl (fun ls hl => ?_)
        exact ih.2.2.2.2.2.2.2.2.2.1 (upd L 1 0) σ r h H locs ls hP hD hS (lv_sub hl [1, 0] rfl)
      · intro L σ r h H locs ls hP hD hS hl
        rw [x_find] at h
        refine lv_iload_n hx hb dX12_find_75 rfl (lv_at hl 1 rfl) ?_
        refine lv_aload_n hx hb dX12_find_76 rfl (lv_at hl 0 rfl) ?_
        refine ng_25 hx hb hts in_x_find hown hK hP (hts _ (List.mem_cons_of_mem _ (List.mem_append_left _ (List.mem_append_left _ (List.mem_of_getElem? (i := 12) rfl))))) dX12_find_77 ?_
        refine lv_icmp_ge (tgt := 134) hx hb dX12_find_80 (by decide) (fun c1 => ?_) (fun c1 => ?_)
        · rw [if_pos c1] at h
          exact ih.2.2.2.2.2.2.2.2.2.2.2.2.2 L σ r h H locs ls hP hD hS (lv_sub hl [0, 1] rfl)
        · rw [if_neg c1] at h
          refine lv_aload_n hx hb dX12_find_83 rfl (lv_at hl 0 rfl) ?_
          refine lv_aload_n hx hb dX12_find_84 rfl (lv_at hl 0 rfl) ?_
          refine ng_27 hx hb hts in_x_find hown hK hP (hts _ (List.mem_cons_of_mem _ (List.mem_append_left _ (List.mem_append_left _ (List.mem_of_getElem? (i := 13) rfl))))) dX12_find_85 ?_
          refine lv_iload_n hx hb dX12_find_88 rfl (lv_at hl 1 rfl) ?_
          obtain ⟨q2, h⟩ := nb_ite1 h
          refine nl_14 hx hb hK hP q2 dX12_find_89 ?_
          refine lv_aload_n hx hb dX12_find_90 rfl (lv_at hl 0 rfl) ?_
          refine ng_28 hx hb hts in_x_find hown hK hP (hts _ (List.mem_cons_of_mem _ (List.mem_append_left _ (List.mem_append_left _ (List.mem_of_getElem? (i := 14) rfl))))) dX12_find_91 ?_
          refine lv_iload_n hx hb dX12_find_94 rfl (lv_at hl 1 rfl) ?_
          obtain ⟨q3, h⟩ := nb_ite1 h
          refine nl_15 hx hb hK hP q3 dX12_find_95 ?_
          obtain ⟨r4, hc4, h⟩ := ob_ex h
          refine nc_Vi (As := [.int (σ.2.2 14 ((L 1)).toNatClampNeg), .int (σ.2.2 15 ((L 1)).toNatClampNeg)]) (rest := []) ⟨hx, hb, hml, hown, hts⟩ (c_x_isNamed l dC dI cy a k (upd (upd (fun _ => 0) 1 ((σ.2.2 14 ((L 1)).toNatClampNeg))) 2 ((σ.2.2 15 ((L 1)).toNatClampNeg))) σ r4 hc4 H.size) (cwV 2 hts g_x_find_isNamed_123 rfl rfl rfl hd_x_isNamed ⟨Nat.le_of_ble_eq_true rfl, Nat.le_of_ble_eq_true rfl⟩) hK hG hA hP hD hS rfl hl.1 rfl (Nat.le_of_ble_eq_true rfl) dX12_find_96 ⟨Nat.le_refl _, Nat.le_refl _⟩ (fun H locs hP hD hS => ?_)
          refine lv_if_eq (tgt := 128) hx hb dX12_find_99 (by decide) (fun c5 => ?_) (fun c5 => ?_)
          · rw [if_pos c5] at h
            exact ih.2.2.2.2.2.2.2.2.2.2.2.2.1 L r4.2 r h H locs ls hP hD hS (lv_sub hl [0, 1] rfl)
          · rw [if_neg c5] at h
            refine lv_aload_n hx hb dX12_find_102 rfl (lv_at hl 0 rfl) ?_
            refine lv_aload_n hx hb dX12_find_103 rfl (lv_at hl 0 rfl) ?_
            refine ng_26 hx hb hts in_x_find hown hK hP (hts _ (List.mem_cons_of_mem _ (List.mem_append_left _ (List.mem_append_left _ (List.mem_of_getElem? (i := 15) rfl))))) dX12_find_104 ?_
            refine lv_iload_n hx hb dX12_find_107 rfl (lv_at hl 1 rfl) ?_
            obtain ⟨q6, h⟩ := nb_ite1 h
            refine nl_13 hx hb hK hP q6 dX12_find_108 ?_
            refine np_46 hx hb hts in_x_find hown hK hP hD hS (hts _ (List.mem_cons_of_mem _ (List.mem_append_left _ (List.mem_append_left _ (List.mem_of_getElem? (i := 0) rfl))))) dX12_find_109 (fun H locs hP hD hS => ?_)
            exact ih.2.2.2.2.2.2.2.2.2.2.1 L (upd r4.2.1 46 ((r4.2.2.2 13 ((L 1)).toNatClampNeg)), r4.2.2.1, r4.2.2.2) r h H locs ls hP hD hS (lv_sub hl [0, 1] rfl)
      · intro L σ r h H locs ls hP hD hS hl
        rw [x_find] at h
        refine lv_aload_n hx hb dX12_find_112 rfl (lv_at hl 0 rfl) ?_
        refine lv_aload_n hx hb dX12_find_113 rfl (lv_at hl 0 rfl) ?_
        refine ng_29 hx hb hts in_x_find hown hK hP (hts _ (List.mem_cons_of_mem _ (List.mem_append_left _ (List.mem_append_left _ (List.mem_of_getElem? (i := 16) rfl))))) dX12_find_114 ?_
        refine lv_iload_n hx hb dX12_find_117 rfl (lv_at hl 1 rfl) ?_
        obtain ⟨q1, h⟩ := nb_ite1 h
        refine nl_16 hx hb hK hP q1 dX12_find_118 ?_
        refine np_47 hx hb hts in_x_find hown hK hP hD hS (hts _ (List.mem_cons_of_mem _ (List.mem_append_left _ (List.mem_append_left _ (List.mem_of_getElem? (i := 9) rfl))))) dX12_find_119 (fun H locs hP hD hS => ?_)
        exact ih.2.2.2.2.2.2.2.2.2.2.2.1 L (upd σ.1 47 ((σ.2.2 16 ((L 1)).toNatClampNeg)), σ.2.1, σ.2.2) r h H locs ls hP hD hS (lv_sub hl [0, 1] rfl)
      · intro L σ r h H locs ls hP hD hS hl
        rw [x_find] at h
        refine lv_aload_n hx hb dX12_find_122 rfl (lv_at hl 0 rfl) ?_
        refine lv_iconst (v := 0) hx hb dX12_find_123 (by decide) ?_
        refine np_48 hx hb hts in_x_find hown hK hP hD hS (hts _ (List.mem_cons_of_mem _ (List.mem_append_left _ (List.mem_append_left _ (List.mem_of_getElem? (i := 11) rfl))))) (Or.inl rfl) dX12_find_124 (fun H locs hP hD hS => ?_)
        cases h
        exact W.vret hx hb hr (fun t ht hW => ⟨⟨(), rfl, trivial, by rw [ht]; exact hP, va_K.moved hW.alike hK, hD⟩, hS.F ht⟩) hS.2.2 dX12_find_127
      · intro L σ r h H locs ls hP hD hS hl
        rw [x_find] at h
        refine lv_iinc (v := ((L 1)) + 1) (lv' := [(1, .int (((L 1)) + 1)), (0, .ref (a 0))]) hx hb dX12_find_128 hl (k := 1) rfl rfl (by decide) rfl (fun ls hl => ?_)
        refine lv_goto (tgt := 75) hx hb dX12_find_131 (by decide) ?_
        exact ih.2.2.2.2.2.2.2.2.2.1 (upd L 1 (((L 1)) + 1)) σ r h H locs ls hP hD hS (lv_sub hl [1, 0] rfl)
      · intro L σ r h H locs ls hP hD hS hl
        rw [x_find] at h
        cases h
        exact W.vret hx hb hr (fun t ht hW => ⟨⟨(), rfl, trivial, by rw [ht]; exact hP, va_K.moved hW.alike hK, hD⟩, hS.F ht⟩) hS.2.2 dX12_find_134
  exact (blk k0).1 L0 σ0 r0 h0 s.heap [] ls hP hD hS hl
/-! tellEntity -/
def x_tellEntity : Nat → Nat → (Nat → Int32) → MS → Option (Int32 × MS)
  | 0, _, _, _ => none
  | k + 1, 0, L, σ => if ¬ (((σ.1 25)) < 0 ∨ 200 ≤ ((σ.1 25)).toNatClampNeg) then (x_tellEntity k 1 L (σ.1, σ.2.1, updG σ.2.2 13 (upd (σ.2.2 13) ((σ.1 25)).toNatClampNeg ((L 1))))) else none
  | k + 1, 1, L, σ => ob (x_keep k 0 (upd (upd (fun _ => 0) 1 ((σ.1 8))) 2 ((σ.1 9))) σ) (fun r1 => if ¬ (((σ.1 25)) < 0 ∨ 200 ≤ ((σ.1 25)).toNatClampNeg) then (x_tellEntity k 2 L (r1.2.1, r1.2.2.1, updG r1.2.2.2 14 (upd (r1.2.2.2 14) ((σ.1 25)).toNatClampNeg r1.1))) else none)
  | k + 1, 2, L, σ => if ¬ (((σ.1 25)) < 0 ∨ 200 ≤ ((σ.1 25)).toNatClampNeg) then (x_tellEntity k 3 L (σ.1, σ.2.1, updG σ.2.2 15 (upd (σ.2.2 15) ((σ.1 25)).toNatClampNeg ((((σ.1 9)) - ((σ.1 8))))))) else none
  | k + 1, 3, L, σ => if ¬ (((σ.1 25)) < 0 ∨ 200 ≤ ((σ.1 25)).toNatClampNeg) then (x_tellEntity k 4 L (σ.1, σ.2.1, updG σ.2.2 16 (upd (σ.2.2 16) ((σ.1 25)).toNatClampNeg ((L 2))))) else none
  | k + 1, 4, L, σ => some (0, (upd σ.1 25 ((((σ.1 25)) + 1)), σ.2.1, σ.2.2))
  | _ + 1, _ + 5, _, _ => none
def o_x_tellEntity : List Cond := [.fieldLink RX12 148 "SetHouseModel" "eKind" "[I", .fieldLink RX12 139 "SetHouseModel" "entities" "I", .fieldLink RX12 142 "SetHouseModel" "eFrom" "[I", .fieldLink RX12 32 "SetHouseModel" "tFrom" "I", .fieldLink RX12 55 "SetHouseModel" "tTo" "I", .methodLink RX12 154 yX12_keep, .instanceMethod yX12_keep, .selects RX12 yX12_keep yX12_keep, .initialized RX12, .fieldLink RX12 145 "SetHouseModel" "eSize" "[I", .fieldLink RX12 151 "SetHouseModel" "eNumber" "[I"]
theorem o_x_tellEntity_good : o_x_tellEntity.all goodWord = true := by decide +kernel
def p_x_tellEntity : List Cond := o_x_tellEntity ++ ((.code yX12_keep cX12_keep 5 (some .int) :: p_x_keep) ++ [])
theorem p_x_tellEntity_good : p_x_tellEntity.all goodWord = true := nb_all2 o_x_tellEntity_good (nb_all2 (nb_allc (by decide +kernel) p_x_keep_good) rfl)
def w_x_tellEntity : List Cond := .code yX12_tellEntity cX12_tellEntity 3 none :: (p_x_tellEntity ++ fM)
theorem w_x_tellEntity_good : w_x_tellEntity.all goodWord = true := nb_allc (by decide +kernel) (nb_all2 p_x_tellEntity_good fM_good)
theorem in_x_tellEntity : ∀ w ∈ wsX120, w ∈ w_x_tellEntity := fun _ h => List.mem_cons_of_mem _ (List.mem_append_right _ h)
theorem hd_x_tellEntity : yX12_tellEntity.cls = RX12 ∧ yX12_tellEntity.cls ≠ "java/lang/invoke/MethodHandle" ∧ yX12_tellEntity.cls ≠ "java/lang/invoke/VarHandle" ∧ (parseMethodDescriptor yX12_tellEntity.desc).map (fun d => d.parameters.length) = some 2 := by decide +kernel
theorem gg_x_tellEntity_keep : GoodIn w_x_tellEntity w_x_keep := goodIn_sub (fun w h => (List.mem_cons.mp h).elim (fun e => (List.mem_cons_of_mem _ (List.mem_append_left _ (List.mem_append_right _ (List.mem_append_left _ (List.mem_cons.mpr (Or.inl e))))))) (fun h => (List.mem_append.mp h).elim (fun h => (List.mem_cons_of_mem _ (List.mem_append_left _ (List.mem_append_right _ (List.mem_append_left _ (List.mem_cons_of_mem _ h)))))) (fun h => List.mem_cons_of_mem _ (List.mem_append_right _ h)))) w_x_keep_good
theorem g_x_tellEntity_keep_154 : GoodIn w_x_tellEntity (wsV RX12 154 RX12 yX12_keep w_x_keep) := goodIn_app (nb_g4 (List.mem_cons_of_mem _ (List.mem_append_left _ (List.mem_append_left _ (List.mem_of_getElem? (i := 5) rfl)))) (List.mem_cons_of_mem _ (List.mem_append_left _ (List.mem_append_left _ (List.mem_of_getElem? (i := 6) rfl)))) (List.mem_cons_of_mem _ (List.mem_append_left _ (List.mem_append_left _ (List.mem_of_getElem? (i := 7) rfl)))) (List.mem_cons_of_mem _ (List.mem_append_left _ (List.mem_append_left _ (List.mem_of_getElem? (i := 8) rfl)))) (by decide +kernel)) gg_x_tellEntity_keep
set_option maxHeartbeats 40000000 in
set_option maxRecDepth 100000 in
theorem c_x_tellEntity (l : Launch) (dC : Nat → ClassId) (dI : Nat → Nat → Nat) (cy : Nat → ClassId) (a : Nat → Nat) (k0 : Nat) (L0 : Nat → Int32) (σ0 : MS) (r0 : Int32 × MS) (h0 : x_tellEntity k0 0 L0 σ0 = some r0) (sz : Nat) : Met l yX12_tellEntity w_x_tellEntity ({ frames := 1, cells := 0, slots := 0, locals := 24 }) (va_Pc [.ref (a 0), .int (L0 1), .int (L0 2)] (nIn (dC, dI) cy sz (vM cy a σ0))) (va_Qv (fun _ : Unit => True) (fun _ t => nOut (dC, dI) cy (va_A (vM cy a σ0) sz) (vM cy a r0.2) t) (va_A (vM cy a σ0) sz)) 0 0 (va_A (vM cy a σ0) sz) := by
  refine Met.ofW (cc := cX12_tellEntity) (maxL := 3) (ret := none) (by decide) rfl ?_
  intro p e s m args below meth c s₁ B hml hv
  obtain ⟨rfl, hsz, hP, hK, hD0, hG⟩ := hv
  have hx := B.exec
  have hb := B.bytes
  have hr := B.returns
  have hts := atoms_spec (ws := w_x_tellEntity) B.pre
  have hown : s.vm.findClass RX12 = some m.cls := findClass_of_methodNamed B.named
  have hlocks := B.notSynchronized
  subst hsz
  have hD := hD0.self (sz := s.heap.size)
  generalize hAe : va_A (vM cy a σ0) s.heap.size = A at hD ⊢
  have hA : ∀ q : Nat, s.heap.size ≤ q → A q := fun q h => by rw [← hAe]; exact Or.inr h
  have hS : va_S A s.heap s.heap [] := va_S.rf
  have hl := lv_entry ([.ref (a 0), .int (L0 1), .int (L0 2)]) (n := 3) (Nat.le_of_ble_eq_true rfl)
  rw [lg_entry_eq]
  generalize (lg_sl ([.ref (a 0), .int (L0 1), .int (L0 2)]) ++ List.replicate (3 - (lg_sl ([.ref (a 0), .int (L0 1), .int (L0 2)])).length) Slot.unset).toArray = ls at hl ⊢
  have hl : lv_has ls 3 [(0, .ref (a 0)), (1, .int (L0 1)), (2, .int (L0 2))] := hl
  have blk : ∀ k : Nat, (bT p l e (headSpec w_x_tellEntity ({ frames := 1, cells := 0, slots := 0, locals := 24 })).room s m #[.ref (a 0), .int (L0 1), .int (L0 2)] below meth c dC dI cy a A (qV dC dI cy a A below #[.ref (a 0), .int (L0 1), .int (L0 2)] s) 3 (x_tellEntity k 0) (fun L => [(0, .ref (a 0)), (1, .int (L 1)), (2, .int (L 2))]) 0 (fun L => [])) ∧ (bT p l e (headSpec w_x_tellEntity ({ frames := 1, cells := 0, slots := 0, locals := 24 })).room s m #[.ref (a 0), .int (L0 1), .int (L0 2)] below meth c dC dI cy a A (qV dC dI cy a A below #[.ref (a 0), .int (L0 1), .int (L0 2)] s) 3 (x_tellEntity k 1) (fun L => [(0, .ref (a 0)), (1, .int (L 1)), (2, .int (L 2))]) 10 (fun L => [])) ∧ (bT p l e (headSpec w_x_tellEntity ({ frames := 1, cells := 0, slots := 0, locals := 24 })).room s m #[.ref (a 0), .int (L0 1), .int (L0 2)] below meth c dC dI cy a A (qV dC dI cy a A below #[.ref (a 0), .int (L0 1), .int (L0 2)] s) 3 (x_tellEntity k 2) (fun L => [(0, .ref (a 0)), (1, .int (L 1)), (2, .int (L 2))]) 31 (fun L => [])) ∧ (bT p l e (headSpec w_x_tellEntity ({ frames := 1, cells := 0, slots := 0, locals := 24 })).room s m #[.ref (a 0), .int (L0 1), .int (L0 2)] below meth c dC dI cy a A (qV dC dI cy a A below #[.ref (a 0), .int (L0 1), .int (L0 2)] s) 3 (x_tellEntity k 3) (fun L => [(0, .ref (a 0)), (1, .int (L 1)), (2, .int (L 2))]) 49 (fun L => [])) ∧ (bT p l e (headSpec w_x_tellEntity ({ frames := 1, cells := 0, slots := 0, locals := 24 })).room s m #[.ref (a 0), .int (L0 1), .int (L0 2)] below meth c dC dI cy a A (qV dC dI cy a A below #[.ref (a 0), .int (L0 1), .int (L0 2)] s) 3 (x_tellEntity k 4) (fun L => [(0, .ref (a 0)), (1, .int (L 1)), (2, .int (L 2))]) 59 (fun L => [])) := by
    intro k
    induction k with
    | zero => exact ⟨fun L σ r h => (by cases h), fun L σ r h => (by cases h), fun L σ r h => (by cases h), fun L σ r h => (by cases h), fun L σ r h => (by cases h)⟩
    | succ k ih =>
      refine ⟨?_, ?_, ?_, ?_, ?_⟩
      · intro L σ r h H locs ls hP hD hS hl
        rw [x_tellEntity] at h
        refine lv_aload_n hx hb dX12_tellEntity_0 rfl (lv_at hl 0 rfl) ?_
        refine ng_26 hx hb hts in_x_tellEntity hown hK hP (hts _ (List.mem_cons_of_mem _ (List.mem_append_left _ (List.mem_append_left _ (List.mem_of_getElem? (i := 0) rfl))))) dX12_tellEntity_1 ?_
        refine lv_aload_n hx hb dX12_tellEntity_4 rfl (lv_at hl 0 rfl) ?_
        refine ng_25 hx hb hts in_x_tellEntity hown hK hP (hts _ (List.mem_cons_of_mem _ (List.mem_append_left _ (List.mem_append_left _ (List.mem_of_getElem? (i := 1) rfl))))) dX12_tellEntity_5 ?_
        refine lv_iload_n hx hb dX12_tellEntity_8 rfl (lv_at hl 1 rfl) ?_
        obtain ⟨q1, h⟩ := nb_ite1 h
        refine ns_13 hx hb hK hP hD hS q1 dX12_tellEntity_9 (fun H locs hP hD hS => ?_)
        exact ih.2.1 L (σ.1, σ.2.1, updG σ.2.2 13 (upd (σ.2.2 13) ((σ.1 25)).toNatClampNeg ((L 1)))) r h H locs ls hP hD hS (lv_sub hl [0, 1, 2] rfl)
      · intro L σ r h H locs ls hP hD hS hl
        rw [x_tellEntity] at h
        refine lv_aload_n hx hb dX12_tellEntity_10 rfl (lv_at hl 0 rfl) ?_
        refine ng_27 hx hb hts in_x_tellEntity hown hK hP (hts _ (List.mem_cons_of_mem _ (List.mem_append_left _ (List.mem_append_left _ (List.mem_of_getElem? (i := 2) rfl))))) dX12_tellEntity_11 ?_
        refine lv_aload_n hx hb dX12_tellEntity_14 rfl (lv_at hl 0 rfl) ?_
        refine ng_25 hx hb hts in_x_tellEntity hown hK hP (hts _ (List.mem_cons_of_mem _ (List.mem_append_left _ (List.mem_append_left _ (List.mem_of_getElem? (i := 1) rfl))))) dX12_tellEntity_15 ?_
        refine lv_aload_n hx hb dX12_tellEntity_18 rfl (lv_at hl 0 rfl) ?_
        refine lv_aload_n hx hb dX12_tellEntity_19 rfl (lv_at hl 0 rfl) ?_
        refine ng_8 hx hb hts in_x_tellEntity hown hK hP (hts _ (List.mem_cons_of_mem _ (List.mem_append_left _ (List.mem_append_left _ (List.mem_of_getElem? (i := 3) rfl))))) dX12_tellEntity_20 ?_
        refine lv_aload_n hx hb dX12_tellEntity_23 rfl (lv_at hl 0 rfl) ?_
        refine ng_9 hx hb hts in_x_tellEntity hown hK hP (hts _ (List.mem_cons_of_mem _ (List.mem_append_left _ (List.mem_append_left _ (List.mem_of_getElem? (i := 4) rfl))))) dX12_tellEntity_24 ?_
        obtain ⟨r1, hc1, h⟩ := ob_ex h
        refine nc_Vi (As := [.int (σ.1 8), .int (σ.1 9)]) (rest := [.int (σ.1 25), .ref (a 14)]) ⟨hx, hb, hml, hown, hts⟩ (c_x_keep l dC dI cy a k (upd (upd (fun _ => 0) 1 ((σ.1 8))) 2 ((σ.1 9))) σ r1 hc1 H.size) (cwV 2 hts g_x_tellEntity_keep_154 rfl rfl rfl hd_x_keep ⟨Nat.le_of_ble_eq_true rfl, Nat.le_of_ble_eq_true rfl⟩) hK hG hA hP hD hS rfl hl.1 rfl (Nat.le_of_ble_eq_true rfl) dX12_tellEntity_27 ⟨Nat.le_refl _, Nat.le_refl _⟩ (fun H locs hP hD hS => ?_)
        obtain ⟨q2, h⟩ := nb_ite1 h
        refine ns_14 hx hb hK hP hD hS q2 dX12_tellEntity_30 (fun H locs hP hD hS => ?_)
        exact ih.2.2.1 L (r1.2.1, r1.2.2.1, updG r1.2.2.2 14 (upd (r1.2.2.2 14) ((σ.1 25)).toNatClampNeg r1.1)) r h H locs ls hP hD hS (lv_sub hl [0, 1, 2] rfl)
      · intro L σ r h H locs ls hP hD hS hl
        rw [x_tellEntity] at h
        refine lv_aload_n hx hb dX12_tellEntity_31 rfl (lv_at hl 0 rfl) ?_
        refine ng_28 hx hb hts in_x_tellEntity hown hK hP (hts _ (List.mem_cons_of_mem _ (List.mem_append_left _ (List.mem_append_left _ (List.mem_of_getElem? (i := 9) rfl))))) dX12_tellEntity_32 ?_
        refine lv_aload_n hx hb dX12_tellEntity_35 rfl (lv_at hl 0 rfl) ?_
        refine ng_25 hx hb hts in_x_tellEntity hown hK hP (hts _ (List.mem_cons_of_mem _ (List.mem_append_left _ (List.mem_append_left _ (List.mem_of_getElem? (i := 1) rfl))))) dX12_tellEntity_36 ?_
        refine lv_aload_n hx hb dX12_tellEntity_39 rfl (lv_at hl 0 rfl) ?_
        refine ng_9 hx hb hts in_x_tellEntity hown hK hP (hts _ (List.mem_cons_of_mem _ (List.mem_append_left _ (List.mem_append_left _ (List.mem_of_getElem? (i := 4) rfl))))) dX12_tellEntity_40 ?_
        refine lv_aload_n hx hb dX12_tellEntity_43 rfl (lv_at hl 0 rfl) ?_
        refine ng_8 hx hb hts in_x_tellEntity hown hK hP (hts _ (List.mem_cons_of_mem _ (List.mem_append_left _ (List.mem_append_left _ (List.mem_of_getElem? (i := 3) rfl))))) dX12_tellEntity_44 ?_
        refine lv_isub hx hb dX12_tellEntity_47 ?_
        obtain ⟨q1, h⟩ := nb_ite1 h
        refine ns_15 hx hb hK hP hD hS q1 dX12_tellEntity_48 (fun H locs hP hD hS => ?_)
        exact ih.2.2.2.1 L (σ.1, σ.2.1, updG σ.2.2 15 (upd (σ.2.2 15) ((σ.1 25)).toNatClampNeg ((((σ.1 9)) - ((σ.1 8)))))) r h H locs ls hP hD hS (lv_sub hl [0, 1, 2] rfl)
      · intro L σ r h H locs ls hP hD hS hl
        rw [x_tellEntity] at h
        refine lv_aload_n hx hb dX12_tellEntity_49 rfl (lv_at hl 0 rfl) ?_
        refine ng_29 hx hb hts in_x_tellEntity hown hK hP (hts _ (List.mem_cons_of_mem _ (List.mem_append_left _ (List.mem_append_left _ (List.mem_of_getElem? (i := 10) rfl))))) dX12_tellEntity_50 ?_
        refine lv_aload_n hx hb dX12_tellEntity_53 rfl (lv_at hl 0 rfl) ?_
        refine ng_25 hx hb hts in_x_tellEntity hown hK hP (hts _ (List.mem_cons_of_mem _ (List.mem_append_left _ (List.mem_append_left _ (List.mem_of_getElem? (i := 1) rfl))))) dX12_tellEntity_54 ?_
        refine lv_iload_n hx hb dX12_tellEntity_57 rfl (lv_at hl 2 rfl) ?_
        obtain ⟨q1, h⟩ := nb_ite1 h
        refine ns_16 hx hb hK hP hD hS q1 dX12_tellEntity_58 (fun H locs hP hD hS => ?_)
        exact ih.2.2.2.2 L (σ.1, σ.2.1, updG σ.2.2 16 (upd (σ.2.2 16) ((σ.1 25)).toNatClampNeg ((L 2)))) r h H locs ls hP hD hS (lv_sub hl [0, 1, 2] rfl)
      · intro L σ r h H locs ls hP hD hS hl
        rw [x_tellEntity] at h
        refine lv_aload_n hx hb dX12_tellEntity_59 rfl (lv_at hl 0 rfl) ?_
        refine lv_dup hx hb dX12_tellEntity_60 rfl ?_
        refine ng_25 hx hb hts in_x_tellEntity hown hK hP (hts _ (List.mem_cons_of_mem _ (List.mem_append_left _ (List.mem_append_left _ (List.mem_of_getElem? (i := 1) rfl))))) dX12_tellEntity_61 ?_
        refine lv_iconst (v := 1) hx hb dX12_tellEntity_64 (by decide) ?_
        refine lv_iadd hx hb dX12_tellEntity_65 ?_
        refine np_25 hx hb hts in_x_tellEntity hown hK hP hD hS (hts _ (List.mem_cons_of_mem _ (List.mem_append_left _ (List.mem_append_left _ (List.mem_of_getElem? (i := 1) rfl))))) dX12_tellEntity_66 (fun H locs hP hD hS => ?_)
        cases h
        exact W.vret hx hb hr (fun t ht hW => ⟨⟨(), rfl, trivial, by rw [ht]; exact hP, va_K.moved hW.alike hK, hD⟩, hS.F ht⟩) hS.2.2 dX12_tellEntity_69
  exact (blk k0).1 L0 σ0 r0 h0 s.heap [] ls hP hD hS hl
/-! newSlot -/
def x_newSlot : Nat → Nat → (Nat → Int32) → MS → Option (Int32 × MS)
  | 0, _, _, _ => none
  | k + 1, 0, L, σ => if ¬ (((σ.1 37)) < 0 ∨ 43 ≤ ((σ.1 37)).toNatClampNeg) then (if ((σ.2.2 21 ((σ.1 37)).toNatClampNeg)) = 60 then (ob (x_fault k 0 (upd (upd (fun _ => 0) 1 8) 2 ((σ.1 8))) σ) (fun r3 => some (0, r3.2))) else (x_newSlot k 1 L σ)) else none
  | k + 1, 1, L, σ => if ¬ (((σ.1 37)) < 0 ∨ 43 ≤ ((σ.1 37)).toNatClampNeg) then (if ¬ (((((60 * ((σ.1 37)))) + ((σ.2.2 21 ((σ.1 37)).toNatClampNeg)))) < 0 ∨ 2580 ≤ ((((60 * ((σ.1 37)))) + ((σ.2.2 21 ((σ.1 37)).toNatClampNeg)))).toNatClampNeg) then (x_newSlot k 2 L (σ.1, σ.2.1, updG σ.2.2 20 (upd (σ.2.2 20) ((((60 * ((σ.1 37)))) + ((σ.2.2 21 ((σ.1 37)).toNatClampNeg)))).toNatClampNeg (vp_nar .boolean ((L 1)))))) else none) else none
  | k + 1, 2, L, σ => if ¬ (((σ.1 37)) < 0 ∨ 43 ≤ ((σ.1 37)).toNatClampNeg) then (if ¬ (((σ.1 37)) < 0 ∨ 43 ≤ ((σ.1 37)).toNatClampNeg) then (x_newSlot k 3 L (σ.1, σ.2.1, updG σ.2.2 21 (upd (σ.2.2 21) ((σ.1 37)).toNatClampNeg ((((σ.2.2 21 ((σ.1 37)).toNatClampNeg)) + 1))))) else none) else none
  | k + 1, 3, L, σ => if ¬ (((σ.1 37)) < 0 ∨ 43 ≤ ((σ.1 37)).toNatClampNeg) then (some ((((σ.2.2 21 ((σ.1 37)).toNatClampNeg)) - 1), σ)) else none
  | _ + 1, _ + 4, _, _ => none
def o_x_newSlot : List Cond := [.fieldLink RX12 157 "SetHouseModel" "held" "[I", .fieldLink RX12 133 "SetHouseModel" "owner" "I", .fieldLink RX12 32 "SetHouseModel" "tFrom" "I", .methodLink RX12 58 yX12_fault, .instanceMethod yX12_fault, .selects RX12 yX12_fault yX12_fault, .initialized RX12, .fieldLink RX12 160 "SetHouseModel" "counts" "[Z"]
theorem o_x_newSlot_good : o_x_newSlot.all goodWord = true := by decide +kernel
def p_x_newSlot : List Cond := o_x_newSlot ++ ((.code yX12_fault cX12_fault 3 none :: p_x_fault) ++ [])
theorem p_x_newSlot_good : p_x_newSlot.all goodWord = true := nb_all2 o_x_newSlot_good (nb_all2 (nb_allc (by decide +kernel) p_x_fault_good) rfl)
def w_x_newSlot : List Cond := .code yX12_newSlot cX12_newSlot 2 (some .int) :: (p_x_newSlot ++ fM)
theorem w_x_newSlot_good : w_x_newSlot.all goodWord = true := nb_allc (by decide +kernel) (nb_all2 p_x_newSlot_good fM_good)
theorem in_x_newSlot : ∀ w ∈ wsX120, w ∈ w_x_newSlot := fun _ h => List.mem_cons_of_mem _ (List.mem_append_right _ h)
theorem hd_x_newSlot : yX12_newSlot.cls = RX12 ∧ yX12_newSlot.cls ≠ "java/lang/invoke/MethodHandle" ∧ yX12_newSlot.cls ≠ "java/lang/invoke/VarHandle" ∧ (parseMethodDescriptor yX12_newSlot.desc).map (fun d => d.parameters.length) = some 1 := by decide +kernel
theorem gg_x_newSlot_fault : GoodIn w_x_newSlot w_x_fault := goodIn_sub (fun w h => (List.mem_cons.mp h).elim (fun e => (List.mem_cons_of_mem _ (List.mem_append_left _ (List.mem_append_right _ (List.mem_append_left _ (List.mem_cons.mpr (Or.inl e))))))) (fun h => (List.mem_append.mp h).elim (fun h => (List.mem_cons_of_mem _ (List.mem_append_left _ (List.mem_append_right _ (List.mem_append_left _ (List.mem_cons_of_mem _ h)))))) (fun h => List.mem_cons_of_mem _ (List.mem_append_right _ h)))) w_x_fault_good
theorem g_x_newSlot_fault_58 : GoodIn w_x_newSlot (wsV RX12 58 RX12 yX12_fault w_x_fault) := goodIn_app (nb_g4 (List.mem_cons_of_mem _ (List.mem_append_left _ (List.mem_append_left _ (List.mem_of_getElem? (i := 3) rfl)))) (List.mem_cons_of_mem _ (List.mem_append_left _ (List.mem_append_left _ (List.mem_of_getElem? (i := 4) rfl)))) (List.mem_cons_of_mem _ (List.mem_append_left _ (List.mem_append_left _ (List.mem_of_getElem? (i := 5) rfl)))) (List.mem_cons_of_mem _ (List.mem_append_left _ (List.mem_append_left _ (List.mem_of_getElem? (i := 6) rfl)))) (by decide +kernel)) gg_x_newSlot_fault
set_option maxHeartbeats 40000000 in
set_option maxRecDepth 100000 in
theorem c_x_newSlot (l : Launch) (dC : Nat → ClassId) (dI : Nat → Nat → Nat) (cy : Nat → ClassId) (a : Nat → Nat) (k0 : Nat) (L0 : Nat → Int32) (σ0 : MS) (r0 : Int32 × MS) (h0 : x_newSlot k0 0 L0 σ0 = some r0) (sz : Nat) : Met l yX12_newSlot w_x_newSlot ({ frames := 1, cells := 0, slots := 0, locals := 22 }) (va_Pc [.ref (a 0), .int (L0 1)] (nIn (dC, dI) cy sz (vM cy a σ0))) (va_Qi (fun (z : Int32) (_ : Unit) => z = r0.1) (fun _ t => nOut (dC, dI) cy (va_A (vM cy a σ0) sz) (vM cy a r0.2) t) (va_A (vM cy a σ0) sz)) 0 0 (va_A (vM cy a σ0) sz) := by
  refine Met.ofW (cc := cX12_newSlot) (maxL := 2) (ret := (some .int)) (by decide) rfl ?_
  intro p e s m args below meth c s₁ B hml hv
  obtain ⟨rfl, hsz, hP, hK, hD0, hG⟩ := hv
  have hx := B.exec
  have hb := B.bytes
  have hr := B.returns
  have hts := atoms_spec (ws := w_x_newSlot) B.pre
  have hown : s.vm.findClass RX12 = some m.cls := findClass_of_methodNamed B.named
  have hlocks := B.notSynchronized
  subst hsz
  have hD := hD0.self (sz := s.heap.size)
  generalize hAe : va_A (vM cy a σ0) s.heap.size = A at hD ⊢
  have hA : ∀ q : Nat, s.heap.size ≤ q → A q := fun q h => by rw [← hAe]; exact Or.inr h
  have hS : va_S A s.heap s.heap [] := va_S.rf
  have hl := lv_entry ([.ref (a 0), .int (L0 1)]) (n := 2) (Nat.le_of_ble_eq_true rfl)
  rw [lg_entry_eq]
  generalize (lg_sl ([.ref (a 0), .int (L0 1)]) ++ List.replicate (2 - (lg_sl ([.ref (a 0), .int (L0 1)])).length) Slot.unset).toArray = ls at hl ⊢
  have hl : lv_has ls 2 [(0, .ref (a 0)), (1, .int (L0 1))] := hl
  have blk : ∀ k : Nat, (bT p l e (headSpec w_x_newSlot ({ frames := 1, cells := 0, slots := 0, locals := 22 })).room s m #[.ref (a 0), .int (L0 1)] below meth c dC dI cy a A (qI dC dI cy a A below #[.ref (a 0), .int (L0 1)] s) 2 (x_newSlot k 0) (fun L => [(0, .ref (a 0)), (1, .int (L 1))]) 0 (fun L => [])) ∧ (bT p l e (headSpec w_x_newSlot ({ frames := 1, cells := 0, slots := 0, locals := 22 })).room s m #[.ref (a 0), .int (L0 1)] below meth c dC dI cy a A (qI dC dI cy a A below #[.ref (a 0), .int (L0 1)] s) 2 (x_newSlot k 1) (fun L => [(0, .ref (a 0)), (1, .int (L 1))]) 26 (fun L => [])) ∧ (bT p l e (headSpec w_x_newSlot ({ frames := 1, cells := 0, slots := 0, locals := 22 })).room s m #[.ref (a 0), .int (L0 1)] below meth c dC dI cy a A (qI dC dI cy a A below #[.ref (a 0), .int (L0 1)] s) 2 (x_newSlot k 2) (fun L => [(0, .ref (a 0)), (1, .int (L 1))]) 49 (fun L => [])) ∧ (bT p l e (headSpec w_x_newSlot ({ frames := 1, cells := 0, slots := 0, locals := 22 })).room s m #[.ref (a 0), .int (L0 1)] below meth c dC dI cy a A (qI dC dI cy a A below #[.ref (a 0), .int (L0 1)] s) 2 (x_newSlot k 3) (fun L => [(0, .ref (a 0)), (1, .int (L 1))]) 62 (fun L => [])) := by
    intro k
    induction k with
    | zero => exact ⟨fun L σ r h => (by cases h), fun L σ r h => (by cases h), fun L σ r h => (by cases h), fun L σ r h => (by cases h)⟩
    | succ k ih =>
      refine ⟨?_, ?_, ?_, ?_⟩
      · intro L σ r h H locs ls hP hD hS hl
        rw [x_newSlot] at h
        refine lv_aload_n hx hb dX12_newSlot_0 rfl (lv_at hl 0 rfl) ?_
        refine ng_36 hx hb hts in_x_newSlot hown hK hP (hts _ (List.mem_cons_of_mem _ (List.mem_append_left _ (List.mem_append_left _ (List.mem_of_getElem? (i := 0) rfl))))) dX12_newSlot_1 ?_
        refine lv_aload_n hx hb dX12_newSlot_4 rfl (lv_at hl 0 rfl) ?_
        refine ng_37 hx hb hts in_x_newSlot hown hK hP (hts _ (List.mem_cons_of_mem _ (List.mem_append_left _ (List.mem_append_left _ (List.mem_of_getElem? (i := 1) rfl))))) dX12_newSlot_5 ?_
        obtain ⟨q1, h⟩ := nb_ite1 h
        refine nl_21 hx hb hK hP q1 dX12_newSlot_8 ?_
        refine lv_bipush (v := 60) hx hb dX12_newSlot_9 (by decide) ?_
        refine lv_icmp_ne (tgt := 26) hx hb dX12_newSlot_11 (by decide) (fun c2 => ?_) (fun c2 => ?_)
        · rw [if_neg c2] at h
          exact ih.2.1 L σ r h H locs ls hP hD hS (lv_sub hl [0, 1] rfl)
        · rw [if_pos c2] at h
          refine lv_aload_n hx hb dX12_newSlot_14 rfl (lv_at hl 0 rfl) ?_
          refine lv_bipush (v := 8) hx hb dX12_newSlot_15 (by decide) ?_
          refine lv_aload_n hx hb dX12_newSlot_17 rfl (lv_at hl 0 rfl) ?_
          refine ng_8 hx hb hts in_x_newSlot hown hK hP (hts _ (List.mem_cons_of_mem _ (List.mem_append_left _ (List.mem_append_left _ (List.mem_of_getElem? (i := 2) rfl))))) dX12_newSlot_18 ?_
          obtain ⟨r3, hc3, h⟩ := ob_ex h
          refine nc_Vv (As := [.int 8, .int (σ.1 8)]) (rest := []) ⟨hx, hb, hml, hown, hts⟩ (c_x_fault l dC dI cy a k (upd (upd (fun _ => 0) 1 8) 2 ((σ.1 8))) σ r3 hc3 H.size) (cwV 2 hts g_x_newSlot_fault_58 rfl rfl rfl hd_x_fault ⟨Nat.le_of_ble_eq_true rfl, Nat.le_of_ble_eq_true rfl⟩) hK hG hA hP hD hS rfl hl.1 rfl (Nat.le_of_ble_eq_true rfl) dX12_newSlot_21 ⟨Nat.le_refl _, Nat.le_refl _⟩ (fun H locs hP hD hS => ?_)
          refine lv_iconst (v := 0) hx hb dX12_newSlot_24 (by decide) ?_
          cases h
          exact W.iret (v := 0) hx hb hr (fun t ht hW => ⟨⟨0, (), rfl, rfl, by rw [ht]; exact hP, va_K.moved hW.alike hK, hD⟩, hS.F ht⟩) hS.2.2 dX12_newSlot_25
      · intro L σ r h H locs ls hP hD hS hl
        rw [x_newSlot] at h
        refine lv_aload_n hx hb dX12_newSlot_26 rfl (lv_at hl 0 rfl) ?_
        refine ng_35 hx hb hts in_x_newSlot hown hK hP (hts _ (List.mem_cons_of_mem _ (List.mem_append_left _ (List.mem_append_left _ (List.mem_of_getElem? (i := 7) rfl))))) dX12_newSlot_27 ?_
        refine lv_bipush (v := 60) hx hb dX12_newSlot_30 (by decide) ?_
        refine lv_aload_n hx hb dX12_newSlot_32 rfl (lv_at hl 0 rfl) ?_
        refine ng_37 hx hb hts in_x_newSlot hown hK hP (hts _ (List.mem_cons_of_mem _ (List.mem_append_left _ (List.mem_append_left _ (List.mem_of_getElem? (i := 1) rfl))))) dX12_newSlot_33 ?_
        refine lv_imul hx hb dX12_newSlot_36 ?_
        refine lv_aload_n hx hb dX12_newSlot_37 rfl (lv_at hl 0 rfl) ?_
        refine ng_36 hx hb hts in_x_newSlot hown hK hP (hts _ (List.mem_cons_of_mem _ (List.mem_append_left _ (List.mem_append_left _ (List.mem_of_getElem? (i := 0) rfl))))) dX12_newSlot_38 ?_
        refine lv_aload_n hx hb dX12_newSlot_41 rfl (lv_at hl 0 rfl) ?_
        refine ng_37 hx hb hts in_x_newSlot hown hK hP (hts _ (List.mem_cons_of_mem _ (List.mem_append_left _ (List.mem_append_left _ (List.mem_of_getElem? (i := 1) rfl))))) dX12_newSlot_42 ?_
        obtain ⟨q1, h⟩ := nb_ite1 h
        refine nl_21 hx hb hK hP q1 dX12_newSlot_45 ?_
        refine lv_iadd hx hb dX12_newSlot_46 ?_
        refine lv_iload_n hx hb dX12_newSlot_47 rfl (lv_at hl 1 rfl) ?_
        obtain ⟨q2, h⟩ := nb_ite1 h
        refine ns_20 hx hb hK hP hD hS q2 dX12_newSlot_48 (fun H locs hP hD hS => ?_)
        exact ih.2.2.1 L (σ.1, σ.2.1, updG σ.2.2 20 (upd (σ.2.2 20) ((((60 * ((σ.1 37)))) + ((σ.2.2 21 ((σ.1 37)).toNatClampNeg)))).toNatClampNeg (vp_nar .boolean ((L 1))))) r h H locs ls hP hD hS (lv_sub hl [0, 1] rfl)
      · intro L σ r h H locs ls hP hD hS hl
        rw [x_newSlot] at h
        refine lv_aload_n hx hb dX12_newSlot_49 rfl (lv_at hl 0 rfl) ?_
        refine ng_36 hx hb hts in_x_newSlot hown hK hP (hts _ (List.mem_cons_of_mem _ (List.mem_append_left _ (List.mem_append_left _ (List.mem_of_getElem? (i := 0) rfl))))) dX12_newSlot_50 ?_
        refine lv_aload_n hx hb dX12_newSlot_53 rfl (lv_at hl 0 rfl) ?_
        refine ng_37 hx hb hts in_x_newSlot hown hK hP (hts _ (List.mem_cons_of_mem _ (List.mem_append_left _ (List.mem_append_left _ (List.mem_of_getElem? (i := 1) rfl))))) dX12_newSlot_54 ?_
        refine lv_dup2_11 hx hb dX12_newSlot_57 rfl rfl ?_
        obtain ⟨q1, h⟩ := nb_ite1 h
        refine nl_21 hx hb hK hP q1 dX12_newSlot_58 ?_
        refine lv_iconst (v := 1) hx hb dX12_newSlot_59 (by decide) ?_
        refine lv_iadd hx hb dX12_newSlot_60 ?_
        obtain ⟨q2, h⟩ := nb_ite1 h
        refine ns_21 hx hb hK hP hD hS q2 dX12_newSlot_61 (fun H locs hP hD hS => ?_)
        exact ih.2.2.2 L (σ.1, σ.2.1, updG σ.2.2 21 (upd (σ.2.2 21) ((σ.1 37)).toNatClampNeg ((((σ.2.2 21 ((σ.1 37)).toNatClampNeg)) + 1)))) r h H locs ls hP hD hS (lv_sub hl [0, 1] rfl)
      · intro L σ r h H locs ls hP hD hS hl
        rw [x_newSlot] at h
        refine lv_aload_n hx hb dX12_newSlot_62 rfl (lv_at hl 0 rfl) ?_
        refine ng_36 hx hb hts in_x_newSlot hown hK hP (hts _ (List.mem_cons_of_mem _ (List.mem_append_left _ (List.mem_append_left _ (List.mem_of_getElem? (i := 0) rfl))))) dX12_newSlot_63 ?_
        refine lv_aload_n hx hb dX12_newSlot_66 rfl (lv_at hl 0 rfl) ?_
        refine ng_37 hx hb hts in_x_newSlot hown hK hP (hts _ (List.mem_cons_of_mem _ (List.mem_append_left _ (List.mem_append_left _ (List.mem_of_getElem? (i := 1) rfl))))) dX12_newSlot_67 ?_
        obtain ⟨q1, h⟩ := nb_ite1 h
        refine nl_21 hx hb hK hP q1 dX12_newSlot_70 ?_
        refine lv_iconst (v := 1) hx hb dX12_newSlot_71 (by decide) ?_
        refine lv_isub hx hb dX12_newSlot_72 ?_
        cases h
        exact W.iret (v := (((σ.2.2 21 ((σ.1 37)).toNatClampNeg)) - 1)) hx hb hr (fun t ht hW => ⟨⟨(((σ.2.2 21 ((σ.1 37)).toNatClampNeg)) - 1), (), rfl, rfl, by rw [ht]; exact hP, va_K.moved hW.alike hK, hD⟩, hS.F ht⟩) hS.2.2 dX12_newSlot_73
  exact (blk k0).1 L0 σ0 r0 h0 s.heap [] ls hP hD hS hl
/-! see -/
def x_see : Nat → Nat → (Nat → Int32) → MS → Option (Int32 × MS)
  | 0, _, _, _ => none
  | k + 1, 0, L, σ => if ¬ (((σ.1 38)) < 0 ∨ 400 ≤ ((σ.1 38)).toNatClampNeg) then (x_see k 1 L (σ.1, σ.2.1, updG σ.2.2 22 (upd (σ.2.2 22) ((σ.1 38)).toNatClampNeg ((L 1))))) else none
  | k + 1, 1, L, σ => if ¬ (((σ.1 38)) < 0 ∨ 400 ≤ ((σ.1 38)).toNatClampNeg) then (x_see k 2 L (σ.1, σ.2.1, updG σ.2.2 23 (upd (σ.2.2 23) ((σ.1 38)).toNatClampNeg ((L 2))))) else none
  | k + 1, 2, L, σ => if ¬ (((σ.1 38)) < 0 ∨ 400 ≤ ((σ.1 38)).toNatClampNeg) then (x_see k 3 L (σ.1, σ.2.1, updG σ.2.2 24 (upd (σ.2.2 24) ((σ.1 38)).toNatClampNeg ((L 3))))) else none
  | k + 1, 3, L, σ => some (0, (upd σ.1 38 ((((σ.1 38)) + 1)), σ.2.1, σ.2.2))
  | _ + 1, _ + 4, _, _ => none
def o_x_see : List Cond := [.fieldLink RX12 117 "SetHouseModel" "nFrom" "[I", .fieldLink RX12 114 "SetHouseModel" "seenNames" "I", .fieldLink RX12 120 "SetHouseModel" "nSize" "[I", .fieldLink RX12 127 "SetHouseModel" "nSlot" "[I"]
theorem o_x_see_good : o_x_see.all goodWord = true := by decide +kernel
def p_x_see : List Cond := o_x_see ++ []
theorem p_x_see_good : p_x_see.all goodWord = true := nb_all2 o_x_see_good rfl
def w_x_see : List Cond := .code yX12_see cX12_see 4 none :: (p_x_see ++ fM)
theorem w_x_see_good : w_x_see.all goodWord = true := nb_allc (by decide +kernel) (nb_all2 p_x_see_good fM_good)
theorem in_x_see : ∀ w ∈ wsX120, w ∈ w_x_see := fun _ h => List.mem_cons_of_mem _ (List.mem_append_right _ h)
theorem hd_x_see : yX12_see.cls = RX12 ∧ yX12_see.cls ≠ "java/lang/invoke/MethodHandle" ∧ yX12_see.cls ≠ "java/lang/invoke/VarHandle" ∧ (parseMethodDescriptor yX12_see.desc).map (fun d => d.parameters.length) = some 3 := by decide +kernel
set_option maxHeartbeats 40000000 in
set_option maxRecDepth 100000 in
theorem c_x_see (l : Launch) (dC : Nat → ClassId) (dI : Nat → Nat → Nat) (cy : Nat → ClassId) (a : Nat → Nat) (k0 : Nat) (L0 : Nat → Int32) (σ0 : MS) (r0 : Int32 × MS) (h0 : x_see k0 0 L0 σ0 = some r0) (sz : Nat) : Met l yX12_see w_x_see ({ frames := 0, cells := 0, slots := 0, locals := 0 }) (va_Pc [.ref (a 0), .int (L0 1), .int (L0 2), .int (L0 3)] (nIn (dC, dI) cy sz (vM cy a σ0))) (va_Qv (fun _ : Unit => True) (fun _ t => nOut (dC, dI) cy (va_A (vM cy a σ0) sz) (vM cy a r0.2) t) (va_A (vM cy a σ0) sz)) 0 0 (va_A (vM cy a σ0) sz) := by
  refine Met.ofW (cc := cX12_see) (maxL := 4) (ret := none) (by decide) rfl ?_
  intro p e s m args below meth c s₁ B hml hv
  obtain ⟨rfl, hsz, hP, hK, hD0, hG⟩ := hv
  have hx := B.exec
  have hb := B.bytes
  have hr := B.returns
  have hts := atoms_spec (ws := w_x_see) B.pre
  have hown : s.vm.findClass RX12 = some m.cls := findClass_of_methodNamed B.named
  have hlocks := B.notSynchronized
  subst hsz
  have hD := hD0.self (sz := s.heap.size)
  generalize hAe : va_A (vM cy a σ0) s.heap.size = A at hD ⊢
  have hA : ∀ q : Nat, s.heap.size ≤ q → A q := fun q h => by rw [← hAe]; exact Or.inr h
  have hS : va_S A s.heap s.heap [] := va_S.rf
  have hl := lv_entry ([.ref (a 0), .int (L0 1), .int (L0 2), .int (L0 3)]) (n := 4) (Nat.le_of_ble_eq_true rfl)
  rw [lg_entry_eq]
  generalize (lg_sl ([.ref (a 0), .int (L0 1), .int (L0 2), .int (L0 3)]) ++ List.replicate (4 - (lg_sl ([.ref (a 0), .int (L0 1), .int (L0 2), .int (L0 3)])).length) Slot.unset).toArray = ls at hl ⊢
  have hl : lv_has ls 4 [(0, .ref (a 0)), (1, .int (L0 1)), (2, .int (L0 2)), (3, .int (L0 3))] := hl
  have blk : ∀ k : Nat, (bT p l e (headSpec w_x_see ({ frames := 0, cells := 0, slots := 0, locals := 0 })).room s m #[.ref (a 0), .int (L0 1), .int (L0 2), .int (L0 3)] below meth c dC dI cy a A (qV dC dI cy a A below #[.ref (a 0), .int (L0 1), .int (L0 2), .int (L0 3)] s) 4 (x_see k 0) (fun L => [(0, .ref (a 0)), (1, .int (L 1)), (2, .int (L 2)), (3, .int (L 3))]) 0 (fun L => [])) ∧ (bT p l e (headSpec w_x_see ({ frames := 0, cells := 0, slots := 0, locals := 0 })).room s m #[.ref (a 0), .int (L0 1), .int (L0 2), .int (L0 3)] below meth c dC dI cy a A (qV dC dI cy a A below #[.ref (a 0), .int (L0 1), .int (L0 2), .int (L0 3)] s) 4 (x_see k 1) (fun L => [(0, .ref (a 0)), (1, .int (L 1)), (2, .int (L 2)), (3, .int (L 3))]) 10 (fun L => [])) ∧ (bT p l e (headSpec w_x_see ({ frames := 0, cells := 0, slots := 0, locals := 0 })).room s m #[.ref (a 0), .int (L0 1), .int (L0 2), .int (L0 3)] below meth c dC dI cy a A (qV dC dI cy a A below #[.ref (a 0), .int (L0 1), .int (L0 2), .int (L0 3)] s) 4 (x_see k 2) (fun L => [(0, .ref (a 0)), (1, .int (L 1)), (2, .int (L 2)), (3, .int (L 3))]) 20 (fun L => [])) ∧ (bT p l e (headSpec w_x_see ({ frames := 0, cells := 0, slots := 0, locals := 0 })).room s m #[.ref (a 0), .int (L0 1), .int (L0 2), .int (L0 3)] below meth c dC dI cy a A (qV dC dI cy a A below #[.ref (a 0), .int (L0 1), .int (L0 2), .int (L0 3)] s) 4 (x_see k 3) (fun L => [(0, .ref (a 0)), (1, .int (L 1)), (2, .int (L 2)), (3, .int (L 3))]) 30 (fun L => [])) := by
    intro k
    induction k with
    | zero => exact ⟨fun L σ r h => (by cases h), fun L σ r h => (by cases h), fun L σ r h => (by cases h), fun L σ r h => (by cases h)⟩
    | succ k ih =>
      refine ⟨?_, ?_, ?_, ?_⟩
      · intro L σ r h H locs ls hP hD hS hl
        rw [x_see] at h
        refine lv_aload_n hx hb dX12_see_0 rfl (lv_at hl 0 rfl) ?_
        refine ng_39 hx hb hts in_x_see hown hK hP (hts _ (List.mem_cons_of_mem _ (List.mem_append_left _ (List.mem_append_left _ (List.mem_of_getElem? (i := 0) rfl))))) dX12_see_1 ?_
        refine lv_aload_n hx hb dX12_see_4 rfl (lv_at hl 0 rfl) ?_
        refine ng_38 hx hb hts in_x_see hown hK hP (hts _ (List.mem_cons_of_mem _ (List.mem_append_left _ (List.mem_append_left _ (List.mem_of_getElem? (i := 1) rfl))))) dX12_see_5 ?_
        refine lv_iload_n hx hb dX12_see_8 rfl (lv_at hl 1 rfl) ?_
        obtain ⟨q1, h⟩ := nb_ite1 h
        refine ns_22 hx hb hK hP hD hS q1 dX12_see_9 (fun H locs hP hD hS => ?_)
        exact ih.2.1 L (σ.1, σ.2.1, updG σ.2.2 22 (upd (σ.2.2 22) ((σ.1 38)).toNatClampNeg ((L 1)))) r h H locs ls hP hD hS (lv_sub hl [0, 1, 2, 3] rfl)
      · intro L σ r h H locs ls hP hD hS hl
        rw [x_see] at h
        refine lv_aload_n hx hb dX12_see_10 rfl (lv_at hl 0 rfl) ?_
        refine ng_40 hx hb hts in_x_see hown hK hP (hts _ (List.mem_cons_of_mem _ (List.mem_append_left _ (List.mem_append_left _ (List.mem_of_getElem? (i := 2) rfl))))) dX12_see_11 ?_
        refine lv_aload_n hx hb dX12_see_14 rfl (lv_at hl 0 rfl) ?_
        refine ng_38 hx hb hts in_x_see hown hK hP (hts _ (List.mem_cons_of_mem _ (List.mem_append_left _ (List.mem_append_left _ (List.mem_of_getElem? (i := 1) rfl))))) dX12_see_15 ?_
        refine lv_iload_n hx hb dX12_see_18 rfl (lv_at hl 2 rfl) ?_
        obtain ⟨q1, h⟩ := nb_ite1 h
        refine ns_23 hx hb hK hP hD hS q1 dX12_see_19 (fun H locs hP hD hS => ?_)
        exact ih.2.2.1 L (σ.1, σ.2.1, updG σ.2.2 23 (upd (σ.2.2 23) ((σ.1 38)).toNatClampNeg ((L 2)))) r h H locs ls hP hD hS (lv_sub hl [0, 1, 2, 3] rfl)
      · intro L σ r h H locs ls hP hD hS hl
        rw [x_see] at h
        refine lv_aload_n hx hb dX12_see_20 rfl (lv_at hl 0 rfl) ?_
        refine ng_41 hx hb hts in_x_see hown hK hP (hts _ (List.mem_cons_of_mem _ (List.mem_append_left _ (List.mem_append_left _ (List.mem_of_getElem? (i := 3) rfl))))) dX12_see_21 ?_
        refine lv_aload_n hx hb dX12_see_24 rfl (lv_at hl 0 rfl) ?_
        refine ng_38 hx hb hts in_x_see hown hK hP (hts _ (List.mem_cons_of_mem _ (List.mem_append_left _ (List.mem_append_left _ (List.mem_of_getElem? (i := 1) rfl))))) dX12_see_25 ?_
        refine lv_iload_n hx hb dX12_see_28 rfl (lv_at hl 3 rfl) ?_
        obtain ⟨q1, h⟩ := nb_ite1 h
        refine ns_24 hx hb hK hP hD hS q1 dX12_see_29 (fun H locs hP hD hS => ?_)
        exact ih.2.2.2 L (σ.1, σ.2.1, updG σ.2.2 24 (upd (σ.2.2 24) ((σ.1 38)).toNatClampNeg ((L 3)))) r h H locs ls hP hD hS (lv_sub hl [0, 1, 2, 3] rfl)
      · intro L σ r h H locs ls hP hD hS hl
        rw [x_see] at h
        refine lv_aload_n hx hb dX12_see_30 rfl (lv_at hl 0 rfl) ?_
        refine lv_dup hx hb dX12_see_31 rfl ?_
        refine ng_38 hx hb hts in_x_see hown hK hP (hts _ (List.mem_cons_of_mem _ (List.mem_append_left _ (List.mem_append_left _ (List.mem_of_getElem? (i := 1) rfl))))) dX12_see_32 ?_
        refine lv_iconst (v := 1) hx hb dX12_see_35 (by decide) ?_
        refine lv_iadd hx hb dX12_see_36 ?_
        refine np_38 hx hb hts in_x_see hown hK hP hD hS (hts _ (List.mem_cons_of_mem _ (List.mem_append_left _ (List.mem_append_left _ (List.mem_of_getElem? (i := 1) rfl))))) dX12_see_37 (fun H locs hP hD hS => ?_)
        cases h
        exact W.vret hx hb hr (fun t ht hW => ⟨⟨(), rfl, trivial, by rw [ht]; exact hP, va_K.moved hW.alike hK, hD⟩, hS.F ht⟩) hS.2.2 dX12_see_40
  exact (blk k0).1 L0 σ0 r0 h0 s.heap [] ls hP hD hS hl
/-! wantName -/
def x_wantName : Nat → Nat → (Nat → Int32) → MS → Option (Int32 × MS)
  | 0, _, _, _ => none
  | k + 1, 0, L, σ => if ((σ.1 10)) = 0 then (if ((σ.1 6)) = 1 then (x_wantName k 1 L σ) else (ob (x_cannot k 0 (fun _ => 0) σ) (fun r3 => x_wantName k 1 L r3.2))) else (x_wantName k 1 L σ)
  | k + 1, 1, L, σ => some (0, σ)
  | _ + 1, _ + 2, _, _ => none
def o_x_wantName : List Cond := [.fieldLink RX12 11 "SetHouseModel" "bad" "Z", .fieldLink RX12 35 "SetHouseModel" "tKind" "I", .methodLink RX12 68 yX12_cannot, .instanceMethod yX12_cannot, .selects RX12 yX12_cannot yX12_cannot, .initialized RX12]
theorem o_x_wantName_good : o_x_wantName.all goodWord = true := by decide +kernel
def p_x_wantName : List Cond := o_x_wantName ++ ((.code yX12_cannot cX12_cannot 1 none :: p_x_cannot) ++ [])
theorem p_x_wantName_good : p_x_wantName.all goodWord = true := nb_all2 o_x_wantName_good (nb_all2 (nb_allc (by decide +kernel) p_x_cannot_good) rfl)
def w_x_wantName : List Cond := .code yX12_wantName cX12_wantName 1 none :: (p_x_wantName ++ fM)
theorem w_x_wantName_good : w_x_wantName.all goodWord = true := nb_allc (by decide +kernel) (nb_all2 p_x_wantName_good fM_good)
theorem in_x_wantName : ∀ w ∈ wsX120, w ∈ w_x_wantName := fun _ h => List.mem_cons_of_mem _ (List.mem_append_right _ h)
theorem hd_x_wantName : yX12_wantName.cls = RX12 ∧ yX12_wantName.cls ≠ "java/lang/invoke/MethodHandle" ∧ yX12_wantName.cls ≠ "java/lang/invoke/VarHandle" ∧ (parseMethodDescriptor yX12_wantName.desc).map (fun d => d.parameters.length) = some 0 := by decide +kernel
theorem gg_x_wantName_cannot : GoodIn w_x_wantName w_x_cannot := goodIn_sub (fun w h => (List.mem_cons.mp h).elim (fun e => (List.mem_cons_of_mem _ (List.mem_append_left _ (List.mem_append_right _ (List.mem_append_left _ (List.mem_cons.mpr (Or.inl e))))))) (fun h => (List.mem_append.mp h).elim (fun h => (List.mem_cons_of_mem _ (List.mem_append_left _ (List.mem_append_right _ (List.mem_append_left _ (List.mem_cons_of_mem _ h)))))) (fun h => List.mem_cons_of_mem _ (List.mem_append_right _ h)))) w_x_cannot_good
theorem g_x_wantName_cannot_68 : GoodIn w_x_wantName (wsV RX12 68 RX12 yX12_cannot w_x_cannot) := goodIn_app (nb_g4 (List.mem_cons_of_mem _ (List.mem_append_left _ (List.mem_append_left _ (List.mem_of_getElem? (i := 2) rfl)))) (List.mem_cons_of_mem _ (List.mem_append_left _ (List.mem_append_left _ (List.mem_of_getElem? (i := 3) rfl)))) (List.mem_cons_of_mem _ (List.mem_append_left _ (List.mem_append_left _ (List.mem_of_getElem? (i := 4) rfl)))) (List.mem_cons_of_mem _ (List.mem_append_left _ (List.mem_append_left _ (List.mem_of_getElem? (i := 5) rfl)))) (by decide +kernel)) gg_x_wantName_cannot
set_option maxHeartbeats 40000000 in
set_option maxRecDepth 100000 in
theorem c_x_wantName (l : Launch) (dC : Nat → ClassId) (dI : Nat → Nat → Nat) (cy : Nat → ClassId) (a : Nat → Nat) (k0 : Nat) (L0 : Nat → Int32) (σ0 : MS) (r0 : Int32 × MS) (h0 : x_wantName k0 0 L0 σ0 = some r0) (sz : Nat) : Met l yX12_wantName w_x_wantName ({ frames := 2, cells := 0, slots := 0, locals := 42 }) (va_Pc [.ref (a 0)] (nIn (dC, dI) cy sz (vM cy a σ0))) (va_Qv (fun _ : Unit => True) (fun _ t => nOut (dC, dI) cy (va_A (vM cy a σ0) sz) (vM cy a r0.2) t) (va_A (vM cy a σ0) sz)) 0 0 (va_A (vM cy a σ0) sz) := by
  refine Met.ofW (cc := cX12_wantName) (maxL := 1) (ret := none) (by decide) rfl ?_
  intro p e s m args below meth c s₁ B hml hv
  obtain ⟨rfl, hsz, hP, hK, hD0, hG⟩ := hv
  have hx := B.exec
  have hb := B.bytes
  have hr := B.returns
  have hts := atoms_spec (ws := w_x_wantName) B.pre
  have hown : s.vm.findClass RX12 = some m.cls := findClass_of_methodNamed B.named
  have hlocks := B.notSynchronized
  subst hsz
  have hD := hD0.self (sz := s.heap.size)
  generalize hAe : va_A (vM cy a σ0) s.heap.size = A at hD ⊢
  have hA : ∀ q : Nat, s.heap.size ≤ q → A q := fun q h => by rw [← hAe]; exact Or.inr h
  have hS : va_S A s.heap s.heap [] := va_S.rf
  have hl := lv_entry ([.ref (a 0)]) (n := 1) (Nat.le_of_ble_eq_true rfl)
  rw [lg_entry_eq]
  generalize (lg_sl ([.ref (a 0)]) ++ List.replicate (1 - (lg_sl ([.ref (a 0)])).length) Slot.unset).toArray = ls at hl ⊢
  have hl : lv_has ls 1 [(0, .ref (a 0))] := hl
  have blk : ∀ k : Nat, (bT p l e (headSpec w_x_wantName ({ frames := 2, cells := 0, slots := 0, locals := 42 })).room s m #[.ref (a 0)] below meth c dC dI cy a A (qV dC dI cy a A below #[.ref (a 0)] s) 1 (x_wantName k 0) (fun L => [(0, .ref (a 0))]) 0 (fun L => [])) ∧ (bT p l e (headSpec w_x_wantName ({ frames := 2, cells := 0, slots := 0, locals := 42 })).room s m #[.ref (a 0)] below meth c dC dI cy a A (qV dC dI cy a A below #[.ref (a 0)] s) 1 (x_wantName k 1) (fun L => [(0, .ref (a 0))]) 19 (fun L => [])) := by
    intro k
    induction k with
    | zero => exact ⟨fun L σ r h => (by cases h), fun L σ r h => (by cases h)⟩
    | succ k ih =>
      refine ⟨?_, ?_⟩
      · intro L σ r h H locs ls hP hD hS hl
        rw [x_wantName] at h
        refine lv_aload_n hx hb dX12_wantName_0 rfl (lv_at hl 0 rfl) ?_
        refine ng_10 hx hb hts in_x_wantName hown hK hP (hts _ (List.mem_cons_of_mem _ (List.mem_append_left _ (List.mem_append_left _ (List.mem_of_getElem? (i := 0) rfl))))) dX12_wantName_1 ?_
        refine lv_if_ne (tgt := 19) hx hb dX12_wantName_4 (by decide) (fun c1 => ?_) (fun c1 => ?_)
        · rw [if_neg c1] at h
          exact ih.2 L σ r h H locs ls hP hD hS (lv_sub hl [0] rfl)
        · rw [if_pos c1] at h
          refine lv_aload_n hx hb dX12_wantName_7 rfl (lv_at hl 0 rfl) ?_
          refine ng_6 hx hb hts in_x_wantName hown hK hP (hts _ (List.mem_cons_of_mem _ (List.mem_append_left _ (List.mem_append_left _ (List.mem_of_getElem? (i := 1) rfl))))) dX12_wantName_8 ?_
          refine lv_iconst (v := 1) hx hb dX12_wantName_11 (by decide) ?_
          refine lv_icmp_eq (tgt := 19) hx hb dX12_wantName_12 (by decide) (fun c2 => ?_) (fun c2 => ?_)
          · rw [if_pos c2] at h
            exact ih.2 L σ r h H locs ls hP hD hS (lv_sub hl [0] rfl)
          · rw [if_neg c2] at h
            refine lv_aload_n hx hb dX12_wantName_15 rfl (lv_at hl 0 rfl) ?_
            obtain ⟨r3, hc3, h⟩ := ob_ex h
            refine nc_Vv (As := []) (rest := []) ⟨hx, hb, hml, hown, hts⟩ (c_x_cannot l dC dI cy a k (fun _ => 0) σ r3 hc3 H.size) (cwV 0 hts g_x_wantName_cannot_68 rfl rfl rfl hd_x_cannot ⟨Nat.le_of_ble_eq_true rfl, Nat.le_of_ble_eq_true rfl⟩) hK hG hA hP hD hS rfl hl.1 rfl (Nat.le_of_ble_eq_true rfl) dX12_wantName_16 ⟨Nat.le_refl _, Nat.le_refl _⟩ (fun H locs hP hD hS => ?_)
            exact ih.2 L r3.2 r h H locs ls hP hD hS (lv_sub hl [0] rfl)
      · intro L σ r h H locs ls hP hD hS hl
        rw [x_wantName] at h
        cases h
        exact W.vret hx hb hr (fun t ht hW => ⟨⟨(), rfl, trivial, by rw [ht]; exact hP, va_K.moved hW.alike hK, hD⟩, hS.F ht⟩) hS.2.2 dX12_wantName_19
  exact (blk k0).1 L0 σ0 r0 h0 s.heap [] ls hP hD hS hl

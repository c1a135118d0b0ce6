/-! answer -/
def x_answer : Nat → Nat → (Nat → Int32) → MS → Option (Int32 × MS)
  | 0, _, _, _ => none
  | k + 1, 0, L, σ => if ((σ.1 56)) = 0 then (ob (x_size k 0 (upd (fun _ => 0) 1 ((L 1))) σ) (fun r2 => ob (x_worked k 0 (upd (fun _ => 0) 1 r2.1) r2.2) (fun r3 => x_answer k 1 L r3.2))) else (x_answer k 1 L σ)
  | k + 1, 1, L, σ => some ((L 1), σ)
  | _ + 1, _ + 2, _, _ => none
def o_x_answer : List Cond := [.fieldLink RX12 362 "SetHouseModel" "err" "I", .methodLink RX12 432 yX12_size, .instanceMethod yX12_size, .selects RX12 yX12_size yX12_size, .initialized RX12, .methodLink RX12 563 yX12_worked, .instanceMethod yX12_worked, .selects RX12 yX12_worked yX12_worked]
theorem o_x_answer_good : o_x_answer.all goodWord = true := by decide +kernel
def p_x_answer : List Cond := o_x_answer ++ ((.code yX12_size cX12_size 2 (some .int) :: p_x_size) ++ ((.code yX12_worked cX12_worked 2 none :: p_x_worked) ++ []))
theorem p_x_answer_good : p_x_answer.all goodWord = true := nb_all2 o_x_answer_good (nb_all2 (nb_allc (by decide +kernel) p_x_size_good) (nb_all2 (nb_allc (by decide +kernel) p_x_worked_good) rfl))
def w_x_answer : List Cond := .code yX12_answer cX12_answer 2 (some .int) :: (p_x_answer ++ fM)
theorem w_x_answer_good : w_x_answer.all goodWord = true := nb_allc (by decide +kernel) (nb_all2 p_x_answer_good fM_good)
theorem in_x_answer : ∀ w ∈ wsX120, w ∈ w_x_answer := fun _ h => List.mem_cons_of_mem _ (List.mem_append_right _ h)
theorem hd_x_answer : yX12_answer.cls = RX12 ∧ yX12_answer.cls ≠ "java/lang/invoke/MethodHandle" ∧ yX12_answer.cls ≠ "java/lang/invoke/VarHandle" ∧ (parseMethodDescriptor yX12_answer.desc).map (fun d => d.parameters.length) = some 1 := by decide +kernel
theorem gg_x_answer_size : GoodIn w_x_answer w_x_size := goodIn_sub (fun w h => (List.mem_cons.mp h).elim (fun e => (List.mem_cons_of_mem _ (List.mem_append_left _ (List.mem_append_right _ (List.mem_append_left _ (List.mem_cons.mpr (Or.inl e))))))) (fun h => (List.mem_append.mp h).elim (fun h => (List.mem_cons_of_mem _ (List.mem_append_left _ (List.mem_append_right _ (List.mem_append_left _ (List.mem_cons_of_mem _ h)))))) (fun h => List.mem_cons_of_mem _ (List.mem_append_right _ h)))) w_x_size_good
theorem g_x_answer_size_432 : GoodIn w_x_answer (wsV RX12 432 RX12 yX12_size w_x_size) := goodIn_app (nb_g4 (List.mem_cons_of_mem _ (List.mem_append_left _ (List.mem_append_left _ (List.mem_of_getElem? (i := 1) rfl)))) (List.mem_cons_of_mem _ (List.mem_append_left _ (List.mem_append_left _ (List.mem_of_getElem? (i := 2) rfl)))) (List.mem_cons_of_mem _ (List.mem_append_left _ (List.mem_append_left _ (List.mem_of_getElem? (i := 3) rfl)))) (List.mem_cons_of_mem _ (List.mem_append_left _ (List.mem_append_left _ (List.mem_of_getElem? (i := 4) rfl)))) (by decide +kernel)) gg_x_answer_size
theorem gg_x_answer_worked : GoodIn w_x_answer w_x_worked := goodIn_sub (fun w h => (List.mem_cons.mp h).elim (fun e => (List.mem_cons_of_mem _ (List.mem_append_left _ (List.mem_append_right _ (List.mem_append_right _ (List.mem_append_left _ (List.mem_cons.mpr (Or.inl e)))))))) (fun h => (List.mem_append.mp h).elim (fun h => (List.mem_cons_of_mem _ (List.mem_append_left _ (List.mem_append_right _ (List.mem_append_right _ (List.mem_append_left _ (List.mem_cons_of_mem _ h))))))) (fun h => List.mem_cons_of_mem _ (List.mem_append_right _ h)))) w_x_worked_good
theorem g_x_answer_worked_563 : GoodIn w_x_answer (wsV RX12 563 RX12 yX12_worked w_x_worked) := goodIn_app (nb_g4 (List.mem_cons_of_mem _ (List.mem_append_left _ (List.mem_append_left _ (List.mem_of_getElem? (i := 5) rfl)))) (List.mem_cons_of_mem _ (List.mem_append_left _ (List.mem_append_left _ (List.mem_of_getElem? (i := 6) rfl)))) (List.mem_cons_of_mem _ (List.mem_append_left _ (List.mem_append_left _ (List.mem_of_getElem? (i := 7) rfl)))) (List.mem_cons_of_mem _ (List.mem_append_left _ (List.mem_append_left _ (List.mem_of_getElem? (i := 4) rfl)))) (by decide +kernel)) gg_x_answer_worked
set_option maxHeartbeats 40000000 in
set_option maxRecDepth 100000 in
theorem c_x_answer (l : Launch) (dC : Nat → ClassId) (dI : Nat → Nat → Nat) (cy : Nat → ClassId) (a : Nat → Nat) (k0 : Nat) (L0 : Nat → Int32) (σ0 : MS) (r0 : Int32 × MS) (h0 : x_answer k0 0 L0 σ0 = some r0) (sz : Nat) : Met l yX12_answer w_x_answer ({ frames := 2, cells := 0, slots := 0, locals := 42 }) (va_Pc [.ref (a 0), .int (L0 1)] (nIn (dC, dI) cy sz (vM cy a σ0))) (va_Qi (fun (z : Int32) (_ : Unit) => z = r0.1) (fun _ t => nOut (dC, dI) cy (va_A (vM cy a σ0) sz) (vM cy a r0.2) t) (va_A (vM cy a σ0) sz)) 0 0 (va_A (vM cy a σ0) sz) := by
  refine Met.ofW (cc := cX12_answer) (maxL := 2) (ret := (some .int)) (by decide) rfl ?_
  intro p e s m args below meth c s₁ B hml hv
  obtain ⟨rfl, hsz, hP, hK, hD0, hG⟩ := hv
  have hx := B.exec
  have hb := B.bytes
  have hr := B.returns
  have hts := atoms_spec (ws := w_x_answer) B.pre
  have hown : s.vm.findClass RX12 = some m.cls := findClass_of_methodNamed B.named
  have hlocks := B.notSynchronized
  subst hsz
  have hD := hD0.self (sz := s.heap.size)
  generalize hAe : va_A (vM cy a σ0) s.heap.size = A at hD ⊢
  have hA : ∀ q : Nat, s.heap.size ≤ q → A q := fun q h => by rw [← hAe]; exact Or.inr h
  have hS : va_S A s.heap s.heap [] := va_S.rf
  have hl := lv_entry ([.ref (a 0), .int (L0 1)]) (n := 2) (Nat.le_of_ble_eq_true rfl)
  rw [lg_entry_eq]
  generalize (lg_sl ([.ref (a 0), .int (L0 1)]) ++ List.replicate (2 - (lg_sl ([.ref (a 0), .int (L0 1)])).length) Slot.unset).toArray = ls at hl ⊢
  have hl : lv_has ls 2 [(0, .ref (a 0)), (1, .int (L0 1))] := hl
  have blk : ∀ k : Nat, (bT p l e (headSpec w_x_answer ({ frames := 2, cells := 0, slots := 0, locals := 42 })).room s m #[.ref (a 0), .int (L0 1)] below meth c dC dI cy a A (qI dC dI cy a A below #[.ref (a 0), .int (L0 1)] s) 2 (x_answer k 0) (fun L => [(0, .ref (a 0)), (1, .int (L 1))]) 0 (fun L => [])) ∧ (bT p l e (headSpec w_x_answer ({ frames := 2, cells := 0, slots := 0, locals := 42 })).room s m #[.ref (a 0), .int (L0 1)] below meth c dC dI cy a A (qI dC dI cy a A below #[.ref (a 0), .int (L0 1)] s) 2 (x_answer k 1) (fun L => [(0, .ref (a 0)), (1, .int (L 1))]) 16 (fun L => [])) := by
    intro k
    induction k with
    | zero => exact ⟨fun L σ r h => (by cases h), fun L σ r h => (by cases h)⟩
    | succ k ih =>
      refine ⟨?_, ?_⟩
      · intro L σ r h H locs ls hP hD hS hl
        rw [x_answer] at h
        refine lv_aload_n hx hb dX12_answer_0 rfl (lv_at hl 0 rfl) ?_
        refine ng_56 hx hb hts in_x_answer hown hK hP (hts _ (List.mem_cons_of_mem _ (List.mem_append_left _ (List.mem_append_left _ (List.mem_of_getElem? (i := 0) rfl))))) dX12_answer_1 ?_
        refine lv_if_ne (tgt := 16) hx hb dX12_answer_4 (by decide) (fun c1 => ?_) (fun c1 => ?_)
        · rw [if_neg c1] at h
          exact ih.2 L σ r h H locs ls hP hD hS (lv_sub hl [0, 1] rfl)
        · rw [if_pos c1] at h
          refine lv_aload_n hx hb dX12_answer_7 rfl (lv_at hl 0 rfl) ?_
          refine lv_aload_n hx hb dX12_answer_8 rfl (lv_at hl 0 rfl) ?_
          refine lv_iload_n hx hb dX12_answer_9 rfl (lv_at hl 1 rfl) ?_
          obtain ⟨r2, hc2, h⟩ := ob_ex h
          refine nc_Vi (As := [.int (L 1)]) (rest := [.ref (a 0)]) ⟨hx, hb, hml, hown, hts⟩ (c_x_size l dC dI cy a k (upd (fun _ => 0) 1 ((L 1))) σ r2 hc2 H.size) (cwV 1 hts g_x_answer_size_432 rfl rfl rfl hd_x_size ⟨Nat.le_of_ble_eq_true rfl, Nat.le_of_ble_eq_true rfl⟩) hK hG hA hP hD hS rfl hl.1 rfl (Nat.le_of_ble_eq_true rfl) dX12_answer_10 ⟨Nat.le_refl _, Nat.le_refl _⟩ (fun H locs hP hD hS => ?_)
          obtain ⟨r3, hc3, h⟩ := ob_ex h
          refine nc_Vv (As := [.int r2.1]) (rest := []) ⟨hx, hb, hml, hown, hts⟩ (c_x_worked l dC dI cy a k (upd (fun _ => 0) 1 r2.1) r2.2 r3 hc3 H.size) (cwV 1 hts g_x_answer_worked_563 rfl rfl rfl hd_x_worked ⟨Nat.le_of_ble_eq_true rfl, Nat.le_of_ble_eq_true rfl⟩) hK hG hA hP hD hS rfl hl.1 rfl (Nat.le_of_ble_eq_true rfl) dX12_answer_13 ⟨Nat.le_refl _, Nat.le_refl _⟩ (fun H locs hP hD hS => ?_)
          exact ih.2 L r3.2 r h H locs ls hP hD hS (lv_sub hl [0, 1] rfl)
      · intro L σ r h H locs ls hP hD hS hl
        rw [x_answer] at h
        refine lv_iload_n hx hb dX12_answer_16 rfl (lv_at hl 1 rfl) ?_
        cases h
        exact W.iret (v := (L 1)) hx hb hr (fun t ht hW => ⟨⟨(L 1), (), rfl, rfl, by rw [ht]; exact hP, va_K.moved hW.alike hK, hD⟩, hS.F ht⟩) hS.2.2 dX12_answer_17
  exact (blk k0).1 L0 σ0 r0 h0 s.heap [] ls hP hD hS hl
/-! truth -/
def x_truth : Nat → Nat → (Nat → Int32) → MS → Option (Int32 × MS)
  | 0, _, _, _ => none
  | k + 1, 0, L, σ => if ((L 1)) = 0 then (x_truth k 1 L σ) else (x_truth k 2 (upd L 100 2) σ)
  | k + 1, 1, L, σ => x_truth k 2 (upd L 100 1) σ
  | k + 1, 2, L, σ => some ((L 100), σ)
  | _ + 1, _ + 3, _, _ => none
def o_x_truth : List Cond := []
theorem o_x_truth_good : o_x_truth.all goodWord = true := by decide +kernel
def p_x_truth : List Cond := o_x_truth ++ []
theorem p_x_truth_good : p_x_truth.all goodWord = true := nb_all2 o_x_truth_good rfl
def w_x_truth : List Cond := .code yX12_truth cX12_truth 2 (some .int) :: (p_x_truth ++ fM)
theorem w_x_truth_good : w_x_truth.all goodWord = true := nb_allc (by decide +kernel) (nb_all2 p_x_truth_good fM_good)
theorem in_x_truth : ∀ w ∈ wsX120, w ∈ w_x_truth := fun _ h => List.mem_cons_of_mem _ (List.mem_append_right _ h)
theorem hd_x_truth : yX12_truth.cls = RX12 ∧ yX12_truth.cls ≠ "java/lang/invoke/MethodHandle" ∧ yX12_truth.cls ≠ "java/lang/invoke/VarHandle" ∧ (parseMethodDescriptor yX12_truth.desc).map (fun d => d.parameters.length) = some 1 := by decide +kernel
set_option maxHeartbeats 40000000 in
set_option maxRecDepth 100000 in
theorem c_x_truth (l : Launch) (dC : Nat → ClassId) (dI : Nat → Nat → Nat) (cy : Nat → ClassId) (a : Nat → Nat) (k0 : Nat) (L0 : Nat → Int32) (σ0 : MS) (r0 : Int32 × MS) (h0 : x_truth k0 0 L0 σ0 = some r0) (sz : Nat) : Met l yX12_truth w_x_truth ({ frames := 0, cells := 0, slots := 0, locals := 0 }) (va_Pc [.ref (a 0), .int (L0 1)] (nIn (dC, dI) cy sz (vM cy a σ0))) (va_Qi (fun (z : Int32) (_ : Unit) => z = r0.1) (fun _ t => nOut (dC, dI) cy (va_A (vM cy a σ0) sz) (vM cy a r0.2) t) (va_A (vM cy a σ0) sz)) 0 0 (va_A (vM cy a σ0) sz) := by
  refine Met.ofW (cc := cX12_truth) (maxL := 2) (ret := (some .int)) (by decide) rfl ?_
  intro p e s m args below meth c s₁ B hml hv
  obtain ⟨rfl, hsz, hP, hK, hD0, hG⟩ := hv
  have hx := B.exec
  have hb := B.bytes
  have hr := B.returns
  have hts := atoms_spec (ws := w_x_truth) B.pre
  have hown : s.vm.findClass RX12 = some m.cls := findClass_of_methodNamed B.named
  have hlocks := B.notSynchronized
  subst hsz
  have hD := hD0.self (sz := s.heap.size)
  generalize hAe : va_A (vM cy a σ0) s.heap.size = A at hD ⊢
  have hA : ∀ q : Nat, s.heap.size ≤ q → A q := fun q h => by rw [← hAe]; exact Or.inr h
  have hS : va_S A s.heap s.heap [] := va_S.rf
  have hl := lv_entry ([.ref (a 0), .int (L0 1)]) (n := 2) (Nat.le_of_ble_eq_true rfl)
  rw [lg_entry_eq]
  generalize (lg_sl ([.ref (a 0), .int (L0 1)]) ++ List.replicate (2 - (lg_sl ([.ref (a 0), .int (L0 1)])).length) Slot.unset).toArray = ls at hl ⊢
  have hl : lv_has ls 2 [(0, .ref (a 0)), (1, .int (L0 1))] := hl
  have blk : ∀ k : Nat, (bT p l e (headSpec w_x_truth ({ frames := 0, cells := 0, slots := 0, locals := 0 })).room s m #[.ref (a 0), .int (L0 1)] below meth c dC dI cy a A (qI dC dI cy a A below #[.ref (a 0), .int (L0 1)] s) 2 (x_truth k 0) (fun L => [(0, .ref (a 0)), (1, .int (L 1))]) 0 (fun L => [])) ∧ (bT p l e (headSpec w_x_truth ({ frames := 0, cells := 0, slots := 0, locals := 0 })).room s m #[.ref (a 0), .int (L0 1)] below meth c dC dI cy a A (qI dC dI cy a A below #[.ref (a 0), .int (L0 1)] s) 2 (x_truth k 1) (fun L => [(0, .ref (a 0)), (1, .int (L 1))]) 8 (fun L => [])) ∧ (bT p l e (headSpec w_x_truth ({ frames := 0, cells := 0, slots := 0, locals := 0 })).room s m #[.ref (a 0), .int (L0 1)] below meth c dC dI cy a A (qI dC dI cy a A below #[.ref (a 0), .int (L0 1)] s) 2 (x_truth k 2) (fun L => [(0, .ref (a 0)), (1, .int (L 1))]) 9 (fun L => [.int (L 100)])) := by
    intro k
    induction k with
    | zero => exact ⟨fun L σ r h => (by cases h), fun L σ r h => (by cases h), fun L σ r h => (by cases h)⟩
    | succ k ih =>
      refine ⟨?_, ?_, ?_⟩
      · intro L σ r h H locs ls hP hD hS hl
        rw [x_truth] at h
        refine lv_iload_n hx hb dX12_truth_0 rfl (lv_at hl 1 rfl) ?_
        refine lv_if_eq (tgt := 8) hx hb dX12_truth_1 (by decide) (fun c1 => ?_) (fun c1 => ?_)
        · rw [if_pos c1] at h
          exact ih.2.1 L σ r h H locs ls hP hD hS (lv_sub hl [0, 1] rfl)
        · rw [if_neg c1] at h
          refine lv_iconst (v := 2) hx hb dX12_truth_4 (by decide) ?_
          refine lv_goto (tgt := 9) hx hb dX12_truth_5 (by decide) ?_
          exact ih.2.2 (upd L 100 2) σ r h H locs ls hP hD hS (lv_sub hl [0, 1] rfl)
      · intro L σ r h H locs ls hP hD hS hl
        rw [x_truth] at h
        refine lv_iconst (v := 1) hx hb dX12_truth_8 (by decide) ?_
        exact ih.2.2 (upd L 100 1) σ r h H locs ls hP hD hS (lv_sub hl [0, 1] rfl)
      · intro L σ r h H locs ls hP hD hS hl
        rw [x_truth] at h
        cases h
        exact W.iret (v := (L 100)) hx hb hr (fun t ht hW => ⟨⟨(L 100), (), rfl, rfl, by rw [ht]; exact hP, va_K.moved hW.alike hK, hD⟩, hS.F ht⟩) hS.2.2 dX12_truth_9
  exact (blk k0).1 L0 σ0 r0 h0 s.heap [] ls hP hD hS hl
/-! wrongKind -/
def x_wrongKind : Nat → Nat → (Nat → Int32) → MS → Option (Int32 × MS)
  | 0, _, _, _ => none
  | k + 1, 0, L, σ => ob (x_fail k 0 (upd (fun _ => 0) 1 1) σ) (fun r1 => some (0, r1.2))
  | _ + 1, _ + 1, _, _ => none
def o_x_wrongKind : List Cond := [.methodLink RX12 369 yX12_fail, .instanceMethod yX12_fail, .selects RX12 yX12_fail yX12_fail, .initialized RX12]
theorem o_x_wrongKind_good : o_x_wrongKind.all goodWord = true := by decide +kernel
def p_x_wrongKind : List Cond := o_x_wrongKind ++ ((.code yX12_fail cX12_fail 2 none :: p_x_fail) ++ [])
theorem p_x_wrongKind_good : p_x_wrongKind.all goodWord = true := nb_all2 o_x_wrongKind_good (nb_all2 (nb_allc (by decide +kernel) p_x_fail_good) rfl)
def w_x_wrongKind : List Cond := .code yX12_wrongKind cX12_wrongKind 1 (some .int) :: (p_x_wrongKind ++ fM)
theorem w_x_wrongKind_good : w_x_wrongKind.all goodWord = true := nb_allc (by decide +kernel) (nb_all2 p_x_wrongKind_good fM_good)
theorem in_x_wrongKind : ∀ w ∈ wsX120, w ∈ w_x_wrongKind := fun _ h => List.mem_cons_of_mem _ (List.mem_append_right _ h)
theorem hd_x_wrongKind : yX12_wrongKind.cls = RX12 ∧ yX12_wrongKind.cls ≠ "java/lang/invoke/MethodHandle" ∧ yX12_wrongKind.cls ≠ "java/lang/invoke/VarHandle" ∧ (parseMethodDescriptor yX12_wrongKind.desc).map (fun d => d.parameters.length) = some 0 := by decide +kernel
theorem gg_x_wrongKind_fail : GoodIn w_x_wrongKind w_x_fail := goodIn_sub (fun w h => (List.mem_cons.mp h).elim (fun e => (List.mem_cons_of_mem _ (List.mem_append_left _ (List.mem_append_right _ (List.mem_append_left _ (List.mem_cons.mpr (Or.inl e))))))) (fun h => (List.mem_append.mp h).elim (fun h => (List.mem_cons_of_mem _ (List.mem_append_left _ (List.mem_append_right _ (List.mem_append_left _ (List.mem_cons_of_mem _ h)))))) (fun h => List.mem_cons_of_mem _ (List.mem_append_right _ h)))) w_x_fail_good
theorem g_x_wrongKind_fail_369 : GoodIn w_x_wrongKind (wsV RX12 369 RX12 yX12_fail w_x_fail) := goodIn_app (nb_g4 (List.mem_cons_of_mem _ (List.mem_append_left _ (List.mem_append_left _ (List.mem_of_getElem? (i := 0) rfl)))) (List.mem_cons_of_mem _ (List.mem_append_left _ (List.mem_append_left _ (List.mem_of_getElem? (i := 1) rfl)))) (List.mem_cons_of_mem _ (List.mem_append_left _ (List.mem_append_left _ (List.mem_of_getElem? (i := 2) rfl)))) (List.mem_cons_of_mem _ (List.mem_append_left _ (List.mem_append_left _ (List.mem_of_getElem? (i := 3) rfl)))) (by decide +kernel)) gg_x_wrongKind_fail
set_option maxHeartbeats 40000000 in
set_option maxRecDepth 100000 in
theorem c_x_wrongKind (l : Launch) (dC : Nat → ClassId) (dI : Nat → Nat → Nat) (cy : Nat → ClassId) (a : Nat → Nat) (k0 : Nat) (L0 : Nat → Int32) (σ0 : MS) (r0 : Int32 × MS) (h0 : x_wrongKind k0 0 L0 σ0 = some r0) (sz : Nat) : Met l yX12_wrongKind w_x_wrongKind ({ frames := 1, cells := 0, slots := 0, locals := 21 }) (va_Pc [.ref (a 0)] (nIn (dC, dI) cy sz (vM cy a σ0))) (va_Qi (fun (z : Int32) (_ : Unit) => z = r0.1) (fun _ t => nOut (dC, dI) cy (va_A (vM cy a σ0) sz) (vM cy a r0.2) t) (va_A (vM cy a σ0) sz)) 0 0 (va_A (vM cy a σ0) sz) := by
  refine Met.ofW (cc := cX12_wrongKind) (maxL := 1) (ret := (some .int)) (by decide) rfl ?_
  intro p e s m args below meth c s₁ B hml hv
  obtain ⟨rfl, hsz, hP, hK, hD0, hG⟩ := hv
  have hx := B.exec
  have hb := B.bytes
  have hr := B.returns
  have hts := atoms_spec (ws := w_x_wrongKind) B.pre
  have hown : s.vm.findClass RX12 = some m.cls := findClass_of_methodNamed B.named
  have hlocks := B.notSynchronized
  subst hsz
  have hD := hD0.self (sz := s.heap.size)
  generalize hAe : va_A (vM cy a σ0) s.heap.size = A at hD ⊢
  have hA : ∀ q : Nat, s.heap.size ≤ q → A q := fun q h => by rw [← hAe]; exact Or.inr h
  have hS : va_S A s.heap s.heap [] := va_S.rf
  have hl := lv_entry ([.ref (a 0)]) (n := 1) (Nat.le_of_ble_eq_true rfl)
  rw [lg_entry_eq]
  generalize (lg_sl ([.ref (a 0)]) ++ List.replicate (1 - (lg_sl ([.ref (a 0)])).length) Slot.unset).toArray = ls at hl ⊢
  have hl : lv_has ls 1 [(0, .ref (a 0))] := hl
  have blk : ∀ k : Nat, (bT p l e (headSpec w_x_wrongKind ({ frames := 1, cells := 0, slots := 0, locals := 21 })).room s m #[.ref (a 0)] below meth c dC dI cy a A (qI dC dI cy a A below #[.ref (a 0)] s) 1 (x_wrongKind k 0) (fun L => [(0, .ref (a 0))]) 0 (fun L => [])) := by
    intro k
    induction k with
    | zero => exact fun L σ r h => (by cases h)
    | succ k ih =>
      skip
      · intro L σ r h H locs ls hP hD hS hl
        rw [x_wrongKind] at h
        refine lv_aload_n hx hb dX12_wrongKind_0 rfl (lv_at hl 0 rfl) ?_
        refine lv_iconst (v := 1) hx hb dX12_wrongKind_1 (by decide) ?_
        obtain ⟨r1, hc1, h⟩ := ob_ex h
        refine nc_Vv (As := [.int 1]) (rest := []) ⟨hx, hb, hml, hown, hts⟩ (c_x_fail l dC dI cy a k (upd (fun _ => 0) 1 1) σ r1 hc1 H.size) (cwV 1 hts g_x_wrongKind_fail_369 rfl rfl rfl hd_x_fail ⟨Nat.le_of_ble_eq_true rfl, Nat.le_of_ble_eq_true rfl⟩) hK hG hA hP hD hS rfl hl.1 rfl (Nat.le_of_ble_eq_true rfl) dX12_wrongKind_2 ⟨Nat.le_refl _, Nat.le_refl _⟩ (fun H locs hP hD hS => ?_)
        refine lv_iconst (v := 0) hx hb dX12_wrongKind_5 (by decide) ?_
        cases h
        exact W.iret (v := 0) hx hb hr (fun t ht hW => ⟨⟨0, (), rfl, rfl, by rw [ht]; exact hP, va_K.moved hW.alike hK, hD⟩, hS.F ht⟩) hS.2.2 dX12_wrongKind_6
  exact (blk k0) L0 σ0 r0 h0 s.heap [] ls hP hD hS hl
/-! range -/
def x_range : Nat → Nat → (Nat → Int32) → MS → Option (Int32 × MS)
  | 0, _, _, _ => none
  | k + 1, 0, L, σ => ob (x_pop k 0 (fun _ => 0) σ) (fun r1 => if ((L 2)) = 0 then (x_range k 1 (upd L 3 r1.1) r1.2) else (ob (x_pop k 0 (fun _ => 0) r1.2) (fun r3 => x_range k 2 (upd (upd L 3 r1.1) 100 r3.1) r3.2)))
  | k + 1, 1, L, σ => x_range k 2 (upd L 100 0) σ
  | k + 1, 2, L, σ => ob (x_pop k 0 (fun _ => 0) σ) (fun r1 => ob (x_kind k 0 (upd (fun _ => 0) 1 r1.1) r1.2) (fun r2 => if r2.1 = 2 then (ob (x_kind k 0 (upd (fun _ => 0) 1 ((L 3))) r2.2) (fun r4 => if r4.1 = 2 then (if ((L 2)) = 0 then (x_range k 4 (upd (upd L 4 ((L 100))) 5 r1.1) r4.2) else (ob (x_kind k 0 (upd (fun _ => 0) 1 ((L 100))) r4.2) (fun r7 => if r7.1 = 2 then (x_range k 4 (upd (upd L 4 ((L 100))) 5 r1.1) r7.2) else (x_range k 3 (upd (upd L 4 ((L 100))) 5 r1.1) r7.2)))) else (x_range k 3 (upd (upd L 4 ((L 100))) 5 r1.1) r4.2))) else (x_range k 3 (upd (upd L 4 ((L 100))) 5 r1.1) r2.2)))
  | k + 1, 3, L, σ => ob (x_wrongKind k 0 (fun _ => 0) σ) (fun r1 => some (r1.1, r1.2))
  | k + 1, 4, L, σ => if ((L 2)) = 0 then (x_range k 5 L σ) else (ob (x_add k 0 (upd (upd (upd (fun _ => 0) 1 ((L 4))) 2 ((L 5))) 3 ((-1))) σ) (fun r2 => x_range k 6 (upd L 100 r2.1) r2.2))
  | k + 1, 5, L, σ => ob (x_small k 0 (upd (fun _ => 0) 1 1) σ) (fun r1 => x_range k 6 (upd L 100 r1.1) r1.2)
  | k + 1, 6, L, σ => if ((σ.1 56)) ≤ 0 then (x_range k 7 (upd L 6 ((L 100))) σ) else (x_range k 8 (upd (upd L 6 ((L 100))) 100 1) σ)
  | k + 1, 7, L, σ => x_range k 8 (upd L 100 0) σ
  | k + 1, 8, L, σ => x_range k 9 (upd L 7 ((L 100))) (upd σ.1 56 0, σ.2.1, σ.2.2)
  | k + 1, 9, L, σ => if ((L 7)) = 0 then (x_range k 11 L σ) else (ob (x_compareWholes k 0 (upd (upd (fun _ => 0) 1 ((L 4))) 2 ((L 5))) σ) (fun r2 => if r2.1 ≤ 0 then (x_range k 10 L r2.2) else (x_range k 12 (upd L 100 1) r2.2)))
  | k + 1, 10, L, σ => x_range k 12 (upd L 100 ((-1))) σ
  | k + 1, 11, L, σ => ob (x_signOf k 0 (upd (fun _ => 0) 1 ((L 6))) σ) (fun r1 => x_range k 12 (upd L 100 r1.1) r1.2)
  | k + 1, 12, L, σ => if ((L 100)) = 0 then (x_range k 13 (upd (upd (upd L 8 ((L 100))) 9 ((σ.1 59))) 10 ((L 5))) σ) else (x_range k 14 (upd (upd (upd (upd L 8 ((L 100))) 9 ((σ.1 59))) 10 ((L 5))) 100 1) σ)
  | k + 1, 13, L, σ => x_range k 14 (upd L 100 0) σ
  | k + 1, 14, L, σ => x_range k 15 (upd L 11 ((L 100))) σ
  | k + 1, 15, L, σ => if ((σ.1 56)) = 0 then (if ((L 11)) = 0 then (x_range k 24 L σ) else (if ((L 8)) ≤ 0 then (x_range k 16 L σ) else (ob (x_compareWholes k 0 (upd (upd (fun _ => 0) 1 ((L 10))) 2 ((L 3))) σ) (fun r4 => if 0 < r4.1 then (x_range k 24 L r4.2) else (x_range k 17 L r4.2))))) else (x_range k 24 L σ)
  | k + 1, 16, L, σ => ob (x_compareWholes k 0 (upd (upd (fun _ => 0) 1 ((L 10))) 2 ((L 3))) σ) (fun r1 => if r1.1 < 0 then (x_range k 24 L r1.2) else (x_range k 17 L r1.2))
  | k + 1, 17, L, σ => ob (x_push k 0 (upd (fun _ => 0) 1 ((L 10))) σ) (fun r1 => if ((((r1.2.1 59)) - ((L 9)))) ≤ 1000 then (x_range k 18 L r1.2) else (ob (x_fail k 0 (upd (fun _ => 0) 1 5) r1.2) (fun r3 => x_range k 15 L r3.2)))
  | k + 1, 18, L, σ => if ((L 7)) = 0 then (x_range k 21 L σ) else (if ((L 10)) = ((L 4)) then (x_range k 19 L σ) else (x_range k 20 (upd L 100 1) σ))
  | k + 1, 19, L, σ => x_range k 20 (upd L 100 0) σ
  | k + 1, 20, L, σ => x_range k 15 (upd (upd L 11 ((L 100))) 10 ((L 4))) σ
  | k + 1, 21, L, σ => ob (x_add k 0 (upd (upd (upd (fun _ => 0) 1 ((L 10))) 2 ((L 6))) 3 1) σ) (fun r1 => if ((r1.2.1 56)) = 0 then (x_range k 23 (upd (upd L 10 r1.1) 100 1) r1.2) else (x_range k 22 (upd L 10 r1.1) r1.2))
  | k + 1, 22, L, σ => x_range k 23 (upd L 100 0) σ
  | k + 1, 23, L, σ => x_range k 15 (upd L 11 ((L 100))) (upd σ.1 56 0, σ.2.1, σ.2.2)
  | k + 1, 24, L, σ => if ((σ.1 56)) ≤ 0 then (x_range k 25 L σ) else (some (0, σ))
  | k + 1, 25, L, σ => if ((L 1)) = 0 then (x_range k 26 L σ) else (ob (x_setOf k 0 (upd (fun _ => 0) 1 ((L 9))) σ) (fun r2 => x_range k 27 (upd L 100 r2.1) r2.2))
  | k + 1, 26, L, σ => ob (x_tupleOf k 0 (upd (fun _ => 0) 1 ((L 9))) σ) (fun r1 => x_range k 27 (upd L 100 r1.1) r1.2)
  | k + 1, 27, L, σ => some ((L 100), σ)
  | _ + 1, _ + 28, _, _ => none
def o_x_range : List Cond := [.methodLink RX12 572 yX12_pop, .instanceMethod yX12_pop, .selects RX12 yX12_pop yX12_pop, .initialized RX12, .methodLink RX12 545 yX12_kind, .instanceMethod yX12_kind, .selects RX12 yX12_kind yX12_kind, .methodLink RX12 666 yX12_wrongKind, .instanceMethod yX12_wrongKind, .selects RX12 yX12_wrongKind yX12_wrongKind, .methodLink RX12 728 yX12_add, .instanceMethod yX12_add, .selects RX12 yX12_add yX12_add, .methodLink RX12 518 yX12_small, .instanceMethod yX12_small, .selects RX12 yX12_small yX12_small, .fieldLink RX12 362 "SetHouseModel" "err" "I", .methodLink RX12 460 yX12_compareWholes, .instanceMethod yX12_compareWholes, .selects RX12 yX12_compareWholes yX12_compareWholes, .methodLink RX12 463 yX12_signOf, .instanceMethod yX12_signOf, .selects RX12 yX12_signOf yX12_signOf, .fieldLink RX12 385 "SetHouseModel" "top" "I", .methodLink RX12 594 yX12_push, .instanceMethod yX12_push, .selects RX12 yX12_push yX12_push, .methodLink RX12 369 yX12_fail, .instanceMethod yX12_fail, .selects RX12 yX12_fail yX12_fail, .methodLink RX12 678 yX12_setOf, .instanceMethod yX12_setOf, .selects RX12 yX12_setOf yX12_setOf, .methodLink RX12 675 yX12_tupleOf, .instanceMethod yX12_tupleOf, .selects RX12 yX12_tupleOf yX12_tupleOf]
theorem o_x_range_good : o_x_range.all goodWord = true := by decide +kernel
def p_x_range : List Cond := o_x_range ++ ((.code yX12_pop cX12_pop 1 (some .int) :: p_x_pop) ++ ((.code yX12_kind cX12_kind 2 (some .int) :: p_x_kind) ++ ((.code yX12_wrongKind cX12_wrongKind 1 (some .int) :: p_x_wrongKind) ++ ((.code yX12_add cX12_add 12 (some .int) :: p_x_add) ++ ((.code yX12_small cX12_small 3 (some .int) :: p_x_small) ++ ((.code yX12_compareWholes cX12_compareWholes 7 (some .int) :: p_x_compareWholes) ++ ((.code yX12_signOf cX12_signOf 2 (some .int) :: p_x_signOf) ++ ((.code yX12_push cX12_push 2 none :: p_x_push) ++ ((.code yX12_fail cX12_fail 2 none :: p_x_fail) ++ ((.code yX12_setOf cX12_setOf 5 (some .int) :: p_x_setOf) ++ ((.code yX12_tupleOf cX12_tupleOf 5 (some .int) :: p_x_tupleOf) ++ [])))))))))))
theorem p_x_range_good : p_x_range.all goodWord = true := nb_all2 o_x_range_good (nb_all2 (nb_allc (by decide +kernel) p_x_pop_good) (nb_all2 (nb_allc (by decide +kernel) p_x_kind_good) (nb_all2 (nb_allc (by decide +kernel) p_x_wrongKind_good) (nb_all2 (nb_allc (by decide +kernel) p_x_add_good) (nb_all2 (nb_allc (by decide +kernel) p_x_small_good) (nb_all2 (nb_allc (by decide +kernel) p_x_compareWholes_good) (nb_all2 (nb_allc (by decide +kernel) p_x_signOf_good) (nb_all2 (nb_allc (by decide +kernel) p_x_push_good) (nb_all2 (nb_allc (by decide +kernel) p_x_fail_good) (nb_all2 (nb_allc (by decide +kernel) p_x_setOf_good) (nb_all2 (nb_allc (by decide +kernel) p_x_tupleOf_good) rfl)))))))))))
def w_x_range : List Cond := .code yX12_range cX12_range 12 (some .int) :: (p_x_range ++ fM)
theorem w_x_range_good : w_x_range.all goodWord = true := nb_allc (by decide +kernel) (nb_all2 p_x_range_good fM_good)
theorem in_x_range : ∀ w ∈ wsX120, w ∈ w_x_range := fun _ h => List.mem_cons_of_mem _ (List.mem_append_right _ h)
theorem hd_x_range : yX12_range.cls = RX12 ∧ yX12_range.cls ≠ "java/lang/invoke/MethodHandle" ∧ yX12_range.cls ≠ "java/lang/invoke/VarHandle" ∧ (parseMethodDescriptor yX12_range.desc).map (fun d => d.parameters.length) = some 2 := by decide +kernel
theorem gg_x_range_add : GoodIn w_x_range w_x_add := goodIn_sub (fun w h => (List.mem_cons.mp h).elim (fun e => (List.mem_cons_of_mem _ (List.mem_append_left _ (List.mem_append_right _ (List.mem_append_right _ (List.mem_append_right _ (List.mem_append_right _ (List.mem_append_left _ (List.mem_cons.mpr (Or.inl e)))))))))) (fun h => (List.mem_append.mp h).elim (fun h => (List.mem_cons_of_mem _ (List.mem_append_left _ (List.mem_append_right _ (List.mem_append_right _ (List.mem_append_right _ (List.mem_append_right _ (List.mem_append_left _ (List.mem_cons_of_mem _ h))))))))) (fun h => List.mem_cons_of_mem _ (List.mem_append_right _ h)))) w_x_add_good
theorem g_x_range_add_728 : GoodIn w_x_range (wsV RX12 728 RX12 yX12_add w_x_add) := goodIn_app (nb_g4 (List.mem_cons_of_mem _ (List.mem_append_left _ (List.mem_append_left _ (List.mem_of_getElem? (i := 10) rfl)))) (List.mem_cons_of_mem _ (List.mem_append_left _ (List.mem_append_left _ (List.mem_of_getElem? (i := 11) rfl)))) (List.mem_cons_of_mem _ (List.mem_append_left _ (List.mem_append_left _ (List.mem_of_getElem? (i := 12) rfl)))) (List.mem_cons_of_mem _ (List.mem_append_left _ (List.mem_append_left _ (List.mem_of_getElem? (i := 3) rfl)))) (by decide +kernel)) gg_x_range_add
theorem gg_x_range_compareWholes : GoodIn w_x_range w_x_compareWholes := goodIn_sub (fun w h => (List.mem_cons.mp h).elim (fun e => (List.mem_cons_of_mem _ (List.mem_append_left _ (List.mem_append_right _ (List.mem_append_right _ (List.mem_append_right _ (List.mem_append_right _ (List.mem_append_right _ (List.mem_append_right _ (List.mem_append_left _ (List.mem_cons.mpr (Or.inl e)))))))))))) (fun h => (List.mem_append.mp h).elim (fun h => (List.mem_cons_of_mem _ (List.mem_append_left _ (List.mem_append_right _ (List.mem_append_right _ (List.mem_append_right _ (List.mem_append_right _ (List.mem_append_right _ (List.mem_append_right _ (List.mem_append_left _ (List.mem_cons_of_mem _ h))))))))))) (fun h => List.mem_cons_of_mem _ (List.mem_append_right _ h)))) w_x_compareWholes_good
theorem g_x_range_compareWholes_460 : GoodIn w_x_range (wsV RX12 460 RX12 yX12_compareWholes w_x_compareWholes) := goodIn_app (nb_g4 (List.mem_cons_of_mem _ (List.mem_append_left _ (List.mem_append_left _ (List.mem_of_getElem? (i := 17) rfl)))) (List.mem_cons_of_mem _ (List.mem_append_left _ (List.mem_append_left _ (List.mem_of_getElem? (i := 18) rfl)))) (List.mem_cons_of_mem _ (List.mem_append_left _ (List.mem_append_left _ (List.mem_of_getElem? (i := 19) rfl)))) (List.mem_cons_of_mem _ (List.mem_append_left _ (List.mem_append_left _ (List.mem_of_getElem? (i := 3) rfl)))) (by decide +kernel)) gg_x_range_compareWholes
theorem gg_x_range_fail : GoodIn w_x_range w_x_fail := goodIn_sub (fun w h => (List.mem_cons.mp h).elim (fun e => (List.mem_cons_of_mem _ (List.mem_append_left _ (List.mem_append_right _ (List.mem_append_right _ (List.mem_append_right _ (List.mem_append_right _ (List.mem_append_right _ (List.mem_append_right _ (List.mem_append_right _ (List.mem_append_right _ (List.mem_append_right _ (List.mem_append_left _ (List.mem_cons.mpr (Or.inl e))))))))))))))) (fun h => (List.mem_append.mp h).elim (fun h => (List.mem_cons_of_mem _ (List.mem_append_left _ (List.mem_append_right _ (List.mem_append_right _ (List.mem_append_right _ (List.mem_append_right _ (List.mem_append_right _ (List.mem_append_right _ (List.mem_append_right _ (List.mem_append_right _ (List.mem_append_right _ (List.mem_append_left _ (List.mem_cons_of_mem _ h)))))))))))))) (fun h => List.mem_cons_of_mem _ (List.mem_append_right _ h)))) w_x_fail_good
theorem g_x_range_fail_369 : GoodIn w_x_range (wsV RX12 369 RX12 yX12_fail w_x_fail) := goodIn_app (nb_g4 (List.mem_cons_of_mem _ (List.mem_append_left _ (List.mem_append_left _ (List.mem_of_getElem? (i := 27) rfl)))) (List.mem_cons_of_mem _ (List.mem_append_left _ (List.mem_append_left _ (List.mem_of_getElem? (i := 28) rfl)))) (List.mem_cons_of_mem _ (List.mem_append_left _ (List.mem_append_left _ (List.mem_of_getElem? (i := 29) rfl)))) (List.mem_cons_of_mem _ (List.mem_append_left _ (List.mem_append_left _ (List.mem_of_getElem? (i := 3) rfl)))) (by decide +kernel)) gg_x_range_fail
theorem gg_x_range_kind : GoodIn w_x_range w_x_kind := goodIn_sub (fun w h => (List.mem_cons.mp h).elim (fun e => (List.mem_cons_of_mem _ (List.mem_append_left _ (List.mem_append_right _ (List.mem_append_right _ (List.mem_append_left _ (List.mem_cons.mpr (Or.inl e)))))))) (fun h => (List.mem_append.mp h).elim (fun h => (List.mem_cons_of_mem _ (List.mem_append_left _ (List.mem_append_right _ (List.mem_append_right _ (List.mem_append_left _ (List.mem_cons_of_mem _ h))))))) (fun h => List.mem_cons_of_mem _ (List.mem_append_right _ h)))) w_x_kind_good
theorem g_x_range_kind_545 : GoodIn w_x_range (wsV RX12 545 RX12 yX12_kind w_x_kind) := goodIn_app (nb_g4 (List.mem_cons_of_mem _ (List.mem_append_left _ (List.mem_append_left _ (List.mem_of_getElem? (i := 4) rfl)))) (List.mem_cons_of_mem _ (List.mem_append_left _ (List.mem_append_left _ (List.mem_of_getElem? (i := 5) rfl)))) (List.mem_cons_of_mem _ (List.mem_append_left _ (List.mem_append_left _ (List.mem_of_getElem? (i := 6) rfl)))) (List.mem_cons_of_mem _ (List.mem_append_left _ (List.mem_append_left _ (List.mem_of_getElem? (i := 3) rfl)))) (by decide +kernel)) gg_x_range_kind
theorem gg_x_range_pop : GoodIn w_x_range w_x_pop := goodIn_sub (fun w h => (List.mem_cons.mp h).elim (fun e => (List.mem_cons_of_mem _ (List.mem_append_left _ (List.mem_append_right _ (List.mem_append_left _ (List.mem_cons.mpr (Or.inl e))))))) (fun h => (List.mem_append.mp h).elim (fun h => (List.mem_cons_of_mem _ (List.mem_append_left _ (List.mem_append_right _ (List.mem_append_left _ (List.mem_cons_of_mem _ h)))))) (fun h => List.mem_cons_of_mem _ (List.mem_append_right _ h)))) w_x_pop_good
theorem g_x_range_pop_572 : GoodIn w_x_range (wsV RX12 572 RX12 yX12_pop w_x_pop) := goodIn_app (nb_g4 (List.mem_cons_of_mem _ (List.mem_append_left _ (List.mem_append_left _ (List.mem_of_getElem? (i := 0) rfl)))) (List.mem_cons_of_mem _ (List.mem_append_left _ (List.mem_append_left _ (List.mem_of_getElem? (i := 1) rfl)))) (List.mem_cons_of_mem _ (List.mem_append_left _ (List.mem_append_left _ (List.mem_of_getElem? (i := 2) rfl)))) (List.mem_cons_of_mem _ (List.mem_append_left _ (List.mem_append_left _ (List.mem_of_getElem? (i := 3) rfl)))) (by decide +kernel)) gg_x_range_pop
theorem gg_x_range_push : GoodIn w_x_range w_x_push := goodIn_sub (fun w h => (List.mem_cons.mp h).elim (fun e => (List.mem_cons_of_mem _ (List.mem_append_left _ (List.mem_append_right _ (List.mem_append_right _ (List.mem_append_right _ (List.mem_append_right _ (List.mem_append_right _ (List.mem_append_right _ (List.mem_append_right _ (List.mem_append_right _ (List.mem_append_left _ (List.mem_cons.mpr (Or.inl e)))))))))))))) (fun h => (List.mem_append.mp h).elim (fun h => (List.mem_cons_of_mem _ (List.mem_append_left _ (List.mem_append_right _ (List.mem_append_right _ (List.mem_append_right _ (List.mem_append_right _ (List.mem_append_right _ (List.mem_append_right _ (List.mem_append_right _ (List.mem_append_right _ (List.mem_append_left _ (List.mem_cons_of_mem _ h))))))))))))) (fun h => List.mem_cons_of_mem _ (List.mem_append_right _ h)))) w_x_push_good
theorem g_x_range_push_594 : GoodIn w_x_range (wsV RX12 594 RX12 yX12_push w_x_push) := goodIn_app (nb_g4 (List.mem_cons_of_mem _ (List.mem_append_left _ (List.mem_append_left _ (List.mem_of_getElem? (i := 24) rfl)))) (List.mem_cons_of_mem _ (List.mem_append_left _ (List.mem_append_left _ (List.mem_of_getElem? (i := 25) rfl)))) (List.mem_cons_of_mem _ (List.mem_append_left _ (List.mem_append_left _ (List.mem_of_getElem? (i := 26) rfl)))) (List.mem_cons_of_mem _ (List.mem_append_left _ (List.mem_append_left _ (List.mem_of_getElem? (i := 3) rfl)))) (by decide +kernel)) gg_x_range_push
theorem gg_x_range_setOf : GoodIn w_x_range w_x_setOf := goodIn_sub (fun w h => (List.mem_cons.mp h).elim (fun e => (List.mem_cons_of_mem _ (List.mem_append_left _ (List.mem_append_right _ (List.mem_append_right _ (List.mem_append_right _ (List.mem_append_right _ (List.mem_append_right _ (List.mem_append_right _ (List.mem_append_right _ (List.mem_append_right _ (List.mem_append_right _ (List.mem_append_right _ (List.mem_append_left _ (List.mem_cons.mpr (Or.inl e)))))))))))))))) (fun h => (List.mem_append.mp h).elim (fun h => (List.mem_cons_of_mem _ (List.mem_append_left _ (List.mem_append_right _ (List.mem_append_right _ (List.mem_append_right _ (List.mem_append_right _ (List.mem_append_right _ (List.mem_append_right _ (List.mem_append_right _ (List.mem_append_right _ (List.mem_append_right _ (List.mem_append_right _ (List.mem_append_left _ (List.mem_cons_of_mem _ h))))))))))))))) (fun h => List.mem_cons_of_mem _ (List.mem_append_right _ h)))) w_x_setOf_good
theorem g_x_range_setOf_678 : GoodIn w_x_range (wsV RX12 678 RX12 yX12_setOf w_x_setOf) := goodIn_app (nb_g4 (List.mem_cons_of_mem _ (List.mem_append_left _ (List.mem_append_left _ (List.mem_of_getElem? (i := 30) rfl)))) (List.mem_cons_of_mem _ (List.mem_append_left _ (List.mem_append_left _ (List.mem_of_getElem? (i := 31) rfl)))) (List.mem_cons_of_mem _ (List.mem_append_left _ (List.mem_append_left _ (List.mem_of_getElem? (i := 32) rfl)))) (List.mem_cons_of_mem _ (List.mem_append_left _ (List.mem_append_left _ (List.mem_of_getElem? (i := 3) rfl)))) (by decide +kernel)) gg_x_range_setOf
theorem gg_x_range_signOf : GoodIn w_x_range w_x_signOf := goodIn_sub (fun w h => (List.mem_cons.mp h).elim (fun e => (List.mem_cons_of_mem _ (List.mem_append_left _ (List.mem_append_right _ (List.mem_append_right _ (List.mem_append_right _ (List.mem_append_right _ (List.mem_append_right _ (List.mem_append_right _ (List.mem_append_right _ (List.mem_append_left _ (List.mem_cons.mpr (Or.inl e))))))))))))) (fun h => (List.mem_append.mp h).elim (fun h => (List.mem_cons_of_mem _ (List.mem_append_left _ (List.mem_append_right _ (List.mem_append_right _ (List.mem_append_right _ (List.mem_append_right _ (List.mem_append_right _ (List.mem_append_right _ (List.mem_append_right _ (List.mem_append_left _ (List.mem_cons_of_mem _ h)))))))))))) (fun h => List.mem_cons_of_mem _ (List.mem_append_right _ h)))) w_x_signOf_good
theorem g_x_range_signOf_463 : GoodIn w_x_range (wsV RX12 463 RX12 yX12_signOf w_x_signOf) := goodIn_app (nb_g4 (List.mem_cons_of_mem _ (List.mem_append_left _ (List.mem_append_left _ (List.mem_of_getElem? (i := 20) rfl)))) (List.mem_cons_of_mem _ (List.mem_append_left _ (List.mem_append_left _ (List.mem_of_getElem? (i := 21) rfl)))) (List.mem_cons_of_mem _ (List.mem_append_left _ (List.mem_append_left _ (List.mem_of_getElem? (i := 22) rfl)))) (List.mem_cons_of_mem _ (List.mem_append_left _ (List.mem_append_left _ (List.mem_of_getElem? (i := 3) rfl)))) (by decide +kernel)) gg_x_range_signOf
theorem gg_x_range_small : GoodIn w_x_range w_x_small := goodIn_sub (fun w h => (List.mem_cons.mp h).elim (fun e => (List.mem_cons_of_mem _ (List.mem_append_left _ (List.mem_append_right _ (List.mem_append_right _ (List.mem_append_right _ (List.mem_append_right _ (List.mem_append_right _ (List.mem_append_left _ (List.mem_cons.mpr (Or.inl e))))))))))) (fun h => (List.mem_append.mp h).elim (fun h => (List.mem_cons_of_mem _ (List.mem_append_left _ (List.mem_append_right _ (List.mem_append_right _ (List.mem_append_right _ (List.mem_append_right _ (List.mem_append_right _ (List.mem_append_left _ (List.mem_cons_of_mem _ h)))))))))) (fun h => List.mem_cons_of_mem _ (List.mem_append_right _ h)))) w_x_small_good
theorem g_x_range_small_518 : GoodIn w_x_range (wsV RX12 518 RX12 yX12_small w_x_small) := goodIn_app (nb_g4 (List.mem_cons_of_mem _ (List.mem_append_left _ (List.mem_append_left _ (List.mem_of_getElem? (i := 13) rfl)))) (List.mem_cons_of_mem _ (List.mem_append_left _ (List.mem_append_left _ (List.mem_of_getElem? (i := 14) rfl)))) (List.mem_cons_of_mem _ (List.mem_append_left _ (List.mem_append_left _ (List.mem_of_getElem? (i := 15) rfl)))) (List.mem_cons_of_mem _ (List.mem_append_left _ (List.mem_append_left _ (List.mem_of_getElem? (i := 3) rfl)))) (by decide +kernel)) gg_x_range_small
theorem gg_x_range_tupleOf : GoodIn w_x_range w_x_tupleOf := goodIn_sub (fun w h => (List.mem_cons.mp h).elim (fun e => (List.mem_cons_of_mem _ (List.mem_append_left _ (List.mem_append_right _ (List.mem_append_right _ (List.mem_append_right _ (List.mem_append_right _ (List.mem_append_right _ (List.mem_append_right _ (List.mem_append_right _ (List.mem_append_right _ (List.mem_append_right _ (List.mem_append_right _ (List.mem_append_right _ (List.mem_append_left _ (List.mem_cons.mpr (Or.inl e))))))))))))))))) (fun h => (List.mem_append.mp h).elim (fun h => (List.mem_cons_of_mem _ (List.mem_append_left _ (List.mem_append_right _ (List.mem_append_right _ (List.mem_append_right _ (List.mem_append_right _ (List.mem_append_right _ (List.mem_append_right _ (List.mem_append_right _ (List.mem_append_right _ (List.mem_append_right _ (List.mem_append_right _ (List.mem_append_right _ (List.mem_append_left _ (List.mem_cons_of_mem _ h)))))))))))))))) (fun h => List.mem_cons_of_mem _ (List.mem_append_right _ h)))) w_x_tupleOf_good
theorem g_x_range_tupleOf_675 : GoodIn w_x_range (wsV RX12 675 RX12 yX12_tupleOf w_x_tupleOf) := goodIn_app (nb_g4 (List.mem_cons_of_mem _ (List.mem_append_left _ (List.mem_append_left _ (List.mem_of_getElem? (i := 33) rfl)))) (List.mem_cons_of_mem _ (List.mem_append_left _ (List.mem_append_left _ (List.mem_of_getElem? (i := 34) rfl)))) (List.mem_cons_of_mem _ (List.mem_append_left _ (List.mem_append_left _ (List.mem_of_getElem? (i := 35) rfl)))) (List.mem_cons_of_mem _ (List.mem_append_left _ (List.mem_append_left _ (List.mem_of_getElem? (i := 3) rfl)))) (by decide +kernel)) gg_x_range_tupleOf
theorem gg_x_range_wrongKind : GoodIn w_x_range w_x_wrongKind := goodIn_sub (fun w h => (List.mem_cons.mp h).elim (fun e => (List.mem_cons_of_mem _ (List.mem_append_left _ (List.mem_append_right _ (List.mem_append_right _ (List.mem_append_right _ (List.mem_append_left _ (List.mem_cons.mpr (Or.inl e))))))))) (fun h => (List.mem_append.mp h).elim (fun h => (List.mem_cons_of_mem _ (List.mem_append_left _ (List.mem_append_right _ (List.mem_append_right _ (List.mem_append_right _ (List.mem_append_left _ (List.mem_cons_of_mem _ h)))))))) (fun h => List.mem_cons_of_mem _ (List.mem_append_right _ h)))) w_x_wrongKind_good
theorem g_x_range_wrongKind_666 : GoodIn w_x_range (wsV RX12 666 RX12 yX12_wrongKind w_x_wrongKind) := goodIn_app (nb_g4 (List.mem_cons_of_mem _ (List.mem_append_left _ (List.mem_append_left _ (List.mem_of_getElem? (i := 7) rfl)))) (List.mem_cons_of_mem _ (List.mem_append_left _ (List.mem_append_left _ (List.mem_of_getElem? (i := 8) rfl)))) (List.mem_cons_of_mem _ (List.mem_append_left _ (List.mem_append_left _ (List.mem_of_getElem? (i := 9) rfl)))) (List.mem_cons_of_mem _ (List.mem_append_left _ (List.mem_append_left _ (List.mem_of_getElem? (i := 3) rfl)))) (by decide +kernel)) gg_x_range_wrongKind
set_option maxHeartbeats 40000000 in
set_option maxRecDepth 100000 in
theorem c_x_range (l : Launch) (dC : Nat → ClassId) (dI : Nat → Nat → Nat) (cy : Nat → ClassId) (a : Nat → Nat) (k0 : Nat) (L0 : Nat → Int32) (σ0 : MS) (r0 : Int32 × MS) (h0 : x_range k0 0 L0 σ0 = some r0) (sz : Nat) : Met l yX12_range w_x_range ({ frames := 46, cells := 0, slots := 0, locals := 1271 }) (va_Pc [.ref (a 0), .int (L0 1), .int (L0 2)] (nIn (dC, dI) cy sz (vM cy a σ0))) (va_Qi (fun (z : Int32) (_ : Unit) => z = r0.1) (fun _ t => nOut (dC, dI) cy (va_A (vM cy a σ0) sz) (vM cy a r0.2) t) (va_A (vM cy a σ0) sz)) 0 0 (va_A (vM cy a σ0) sz) := by
  refine Met.ofW (cc := cX12_range) (maxL := 12) (ret := (some .int)) (by decide) rfl ?_
  intro p e s m args below meth c s₁ B hml hv
  obtain ⟨rfl, hsz, hP, hK, hD0, hG⟩ := hv
  have hx := B.exec
  have hb := B.bytes
  have hr := B.returns
  have hts := atoms_spec (ws := w_x_range) B.pre
  have hown : s.vm.findClass RX12 = some m.cls := findClass_of_methodNamed B.named
  have hlocks := B.notSynchronized
  subst hsz
  have hD := hD0.self (sz := s.heap.size)
  generalize hAe : va_A (vM cy a σ0) s.heap.size = A at hD ⊢
  have hA : ∀ q : Nat, s.heap.size ≤ q → A q := fun q h => by rw [← hAe]; exact Or.inr h
  have hS : va_S A s.heap s.heap [] := va_S.rf
  have hl := lv_entry ([.ref (a 0), .int (L0 1), .int (L0 2)]) (n := 12) (Nat.le_of_ble_eq_true rfl)
  rw [lg_entry_eq]
  generalize (lg_sl ([.ref (a 0), .int (L0 1), .int (L0 2)]) ++ List.replicate (12 - (lg_sl ([.ref (a 0), .int (L0 1), .int (L0 2)])).length) Slot.unset).toArray = ls at hl ⊢
  have hl : lv_has ls 12 [(0, .ref (a 0)), (1, .int (L0 1)), (2, .int (L0 2))] := hl
  have blk : ∀ k : Nat, (bT p l e (headSpec w_x_range ({ frames := 46, cells := 0, slots := 0, locals := 1271 })).room s m #[.ref (a 0), .int (L0 1), .int (L0 2)] below meth c dC dI cy a A (qI dC dI cy a A below #[.ref (a 0), .int (L0 1), .int (L0 2)] s) 12 (x_range k 0) (fun L => [(0, .ref (a 0)), (1, .int (L 1)), (2, .int (L 2))]) 0 (fun L => [])) ∧ (bT p l e (headSpec w_x_range ({ frames := 46, cells := 0, slots := 0, locals := 1271 })).room s m #[.ref (a 0), .int (L0 1), .int (L0 2)] below meth c dC dI cy a A (qI dC dI cy a A below #[.ref (a 0), .int (L0 1), .int (L0 2)] s) 12 (x_range k 1) (fun L => [(0, .ref (a 0)), (1, .int (L 1)), (2, .int (L 2)), (3, .int (L 3))]) 16 (fun L => [])) ∧ (bT p l e (headSpec w_x_range ({ frames := 46, cells := 0, slots := 0, locals := 1271 })).room s m #[.ref (a 0), .int (L0 1), .int (L0 2)] below meth c dC dI cy a A (qI dC dI cy a A below #[.ref (a 0), .int (L0 1), .int (L0 2)] s) 12 (x_range k 2) (fun L => [(0, .ref (a 0)), (1, .int (L 1)), (2, .int (L 2)), (3, .int (L 3))]) 17 (fun L => [.int (L 100)])) ∧ (bT p l e (headSpec w_x_range ({ frames := 46, cells := 0, slots := 0, locals := 1271 })).room s m #[.ref (a 0), .int (L0 1), .int (L0 2)] below meth c dC dI cy a A (qI dC dI cy a A below #[.ref (a 0), .int (L0 1), .int (L0 2)] s) 12 (x_range k 3) (fun L => [(0, .ref (a 0)), (1, .int (L 1)), (2, .int (L 2)), (3, .int (L 3)), (4, .int (L 4)), (5, .int (L 5))]) 58 (fun L => [])) ∧ (bT p l e (headSpec w_x_range ({ frames := 46, cells := 0, slots := 0, locals := 1271 })).room s m #[.ref (a 0), .int (L0 1), .int (L0 2)] below meth c dC dI cy a A (qI dC dI cy a A below #[.ref (a 0), .int (L0 1), .int (L0 2)] s) 12 (x_range k 4) (fun L => [(0, .ref (a 0)), (1, .int (L 1)), (2, .int (L 2)), (3, .int (L 3)), (4, .int (L 4)), (5, .int (L 5))]) 63 (fun L => [])) ∧ (bT p l e (headSpec w_x_range ({ frames := 46, cells := 0, slots := 0, locals := 1271 })).room s m #[.ref (a 0), .int (L0 1), .int (L0 2)] below meth c dC dI cy a A (qI dC dI cy a A below #[.ref (a 0), .int (L0 1), .int (L0 2)] s) 12 (x_range k 5) (fun L => [(0, .ref (a 0)), (1, .int (L 1)), (2, .int (L 2)), (3, .int (L 3)), (4, .int (L 4)), (5, .int (L 5))]) 79 (fun L => [])) ∧ (bT p l e (headSpec w_x_range ({ frames := 46, cells := 0, slots := 0, locals := 1271 })).room s m #[.ref (a 0), .int (L0 1), .int (L0 2)] below meth c dC dI cy a A (qI dC dI cy a A below #[.ref (a 0), .int (L0 1), .int (L0 2)] s) 12 (x_range k 6) (fun L => [(0, .ref (a 0)), (1, .int (L 1)), (2, .int (L 2)), (3, .int (L 3)), (4, .int (L 4)), (5, .int (L 5))]) 84 (fun L => [.int (L 100)])) ∧ (bT p l e (headSpec w_x_range ({ frames := 46, cells := 0, slots := 0, locals := 1271 })).room s m #[.ref (a 0), .int (L0 1), .int (L0 2)] below meth c dC dI cy a A (qI dC dI cy a A below #[.ref (a 0), .int (L0 1), .int (L0 2)] s) 12 (x_range k 7) (fun L => [(0, .ref (a 0)), (1, .int (L 1)), (2, .int (L 2)), (3, .int (L 3)), (4, .int (L 4)), (5, .int (L 5)), (6, .int (L 6))]) 97 (fun L => [])) ∧ (bT p l e (headSpec w_x_range ({ frames := 46, cells := 0, slots := 0, locals := 1271 })).room s m #[.ref (a 0), .int (L0 1), .int (L0 2)] below meth c dC dI cy a A (qI dC dI cy a A below #[.ref (a 0), .int (L0 1), .int (L0 2)] s) 12 (x_range k 8) (fun L => [(0, .ref (a 0)), (1, .int (L 1)), (2, .int (L 2)), (3, .int (L 3)), (4, .int (L 4)), (5, .int (L 5)), (6, .int (L 6))]) 98 (fun L => [.int (L 100)])) ∧ (bT p l e (headSpec w_x_range ({ frames := 46, cells := 0, slots := 0, locals := 1271 })).room s m #[.ref (a 0), .int (L0 1), .int (L0 2)] below meth c dC dI cy a A (qI dC dI cy a A below #[.ref (a 0), .int (L0 1), .int (L0 2)] s) 12 (x_range k 9) (fun L => [(0, .ref (a 0)), (1, .int (L 1)), (2, .int (L 2)), (3, .int (L 3)), (4, .int (L 4)), (5, .int (L 5)), (6, .int (L 6)), (7, .int (L 7))]) 105 (fun L => [])) ∧ (bT p l e (headSpec w_x_range ({ frames := 46, cells := 0, slots := 0, locals := 1271 })).room s m #[.ref (a 0), .int (L0 1), .int (L0 2)] below meth c dC dI cy a A (qI dC dI cy a A below #[.ref (a 0), .int (L0 1), .int (L0 2)] s) 12 (x_range k 10) (fun L => [(0, .ref (a 0)), (1, .int (L 1)), (2, .int (L 2)), (3, .int (L 3)), (4, .int (L 4)), (5, .int (L 5)), (6, .int (L 6)), (7, .int (L 7))]) 125 (fun L => [])) ∧ (bT p l e (headSpec w_x_range ({ frames := 46, cells := 0, slots := 0, locals := 1271 })).room s m #[.ref (a 0), .int (L0 1), .int (L0 2)] below meth c dC dI cy a A (qI dC dI cy a A below #[.ref (a 0), .int (L0 1), .int (L0 2)] s) 12 (x_range k 11) (fun L => [(0, .ref (a 0)), (1, .int (L 1)), (2, .int (L 2)), (3, .int (L 3)), (4, .int (L 4)), (5, .int (L 5)), (6, .int (L 6)), (7, .int (L 7))]) 129 (fun L => [])) ∧ (bT p l e (headSpec w_x_range ({ frames := 46, cells := 0, slots := 0, locals := 1271 })).room s m #[.ref (a 0), .int (L0 1), .int (L0 2)] below meth c dC dI cy a A (qI dC dI cy a A below #[.ref (a 0), .int (L0 1), .int (L0 2)] s) 12 (x_range k 12) (fun L => [(0, .ref (a 0)), (1, .int (L 1)), (2, .int (L 2)), (3, .int (L 3)), (4, .int (L 4)), (5, .int (L 5)), (6, .int (L 6)), (7, .int (L 7))]) 135 (fun L => [.int (L 100)])) ∧ (bT p l e (headSpec w_x_range ({ frames := 46, cells := 0, slots := 0, locals := 1271 })).room s m #[.ref (a 0), .int (L0 1), .int (L0 2)] below meth c dC dI cy a A (qI dC dI cy a A below #[.ref (a 0), .int (L0 1), .int (L0 2)] s) 12 (x_range k 13) (fun L => [(0, .ref (a 0)), (1, .int (L 1)), (2, .int (L 2)), (3, .int (L 3)), (4, .int (L 4)), (5, .int (L 5)), (6, .int (L 6)), (7, .int (L 7)), (8, .int (L 8)), (9, .int (L 9)), (10, .int (L 10))]) 156 (fun L => [])) ∧ (bT p l e (headSpec w_x_range ({ frames := 46, cells := 0, slots := 0, locals := 1271 })).room s m #[.ref (a 0), .int (L0 1), .int (L0 2)] below meth c dC dI cy a A (qI dC dI cy a A below #[.ref (a 0), .int (L0 1), .int (L0 2)] s) 12 (x_range k 14) (fun L => [(0, .ref (a 0)), (1, .int (L 1)), (2, .int (L 2)), (3, .int (L 3)), (4, .int (L 4)), (5, .int (L 5)), (6, .int (L 6)), (7, .int (L 7)), (8, .int (L 8)), (9, .int (L 9)), (10, .int (L 10))]) 157 (fun L => [.int (L 100)])) ∧ (bT p l e (headSpec w_x_range ({ frames := 46, cells := 0, slots := 0, locals := 1271 })).room s m #[.ref (a 0), .int (L0 1), .int (L0 2)] below meth c dC dI cy a A (qI dC dI cy a A below #[.ref (a 0), .int (L0 1), .int (L0 2)] s) 12 (x_range k 15) (fun L => [(0, .ref (a 0)), (1, .int (L 1)), (2, .int (L 2)), (3, .int (L 3)), (4, .int (L 4)), (5, .int (L 5)), (6, .int (L 6)), (7, .int (L 7)), (8, .int (L 8)), (9, .int (L 9)), (10, .int (L 10)), (11, .int (L 11))]) 159 (fun L => [])) ∧ (bT p l e (headSpec w_x_range ({ frames := 46, cells := 0, slots := 0, locals := 1271 })).room s m #[.ref (a 0), .int (L0 1), .int (L0 2)] below meth c dC dI cy a A (qI dC dI cy a A below #[.ref (a 0), .int (L0 1), .int (L0 2)] s) 12 (x_range k 16) (fun L => [(0, .ref (a 0)), (1, .int (L 1)), (2, .int (L 2)), (3, .int (L 3)), (4, .int (L 4)), (5, .int (L 5)), (6, .int (L 6)), (7, .int (L 7)), (8, .int (L 8)), (9, .int (L 9)), (10, .int (L 10)), (11, .int (L 11))]) 189 (fun L => [])) ∧ (bT p l e (headSpec w_x_range ({ frames := 46, cells := 0, slots := 0, locals := 1271 })).room s m #[.ref (a 0), .int (L0 1), .int (L0 2)] below meth c dC dI cy a A (qI dC dI cy a A below #[.ref (a 0), .int (L0 1), .int (L0 2)] s) 12 (x_range k 17) (fun L => [(0, .ref (a 0)), (1, .int (L 1)), (2, .int (L 2)), (3, .int (L 3)), (4, .int (L 4)), (5, .int (L 5)), (6, .int (L 6)), (7, .int (L 7)), (8, .int (L 8)), (9, .int (L 9)), (10, .int (L 10)), (11, .int (L 11))]) 199 (fun L => [])) ∧ (bT p l e (headSpec w_x_range ({ frames := 46, cells := 0, slots := 0, locals := 1271 })).room s m #[.ref (a 0), .int (L0 1), .int (L0 2)] below meth c dC dI cy a A (qI dC dI cy a A below #[.ref (a 0), .int (L0 1), .int (L0 2)] s) 12 (x_range k 18) (fun L => [(0, .ref (a 0)), (1, .int (L 1)), (2, .int (L 2)), (3, .int (L 3)), (4, .int (L 4)), (5, .int (L 5)), (6, .int (L 6)), (7, .int (L 7)), (8, .int (L 8)), (9, .int (L 9)), (10, .int (L 10)), (11, .int (L 11))]) 226 (fun L => [])) ∧ (bT p l e (headSpec w_x_range ({ frames := 46, cells := 0, slots := 0, locals := 1271 })).room s m #[.ref (a 0), .int (L0 1), .int (L0 2)] below meth c dC dI cy a A (qI dC dI cy a A below #[.ref (a 0), .int (L0 1), .int (L0 2)] s) 12 (x_range k 19) (fun L => [(0, .ref (a 0)), (1, .int (L 1)), (2, .int (L 2)), (3, .int (L 3)), (4, .int (L 4)), (5, .int (L 5)), (6, .int (L 6)), (7, .int (L 7)), (8, .int (L 8)), (9, .int (L 9)), (10, .int (L 10)), (11, .int (L 11))]) 242 (fun L => [])) ∧ (bT p l e (headSpec w_x_range ({ frames := 46, cells := 0, slots := 0, locals := 1271 })).room s m #[.ref (a 0), .int (L0 1), .int (L0 2)] below meth c dC dI cy a A (qI dC dI cy a A below #[.ref (a 0), .int (L0 1), .int (L0 2)] s) 12 (x_range k 20) (fun L => [(0, .ref (a 0)), (1, .int (L 1)), (2, .int (L 2)), (3, .int (L 3)), (4, .int (L 4)), (5, .int (L 5)), (6, .int (L 6)), (7, .int (L 7)), (8, .int (L 8)), (9, .int (L 9)), (10, .int (L 10)), (11, .int (L 11))]) 243 (fun L => [.int (L 100)])) ∧ (bT p l e (headSpec w_x_range ({ frames := 46, cells := 0, slots := 0, locals := 1271 })).room s m #[.ref (a 0), .int (L0 1), .int (L0 2)] below meth c dC dI cy a A (qI dC dI cy a A below #[.ref (a 0), .int (L0 1), .int (L0 2)] s) 12 (x_range k 21) (fun L => [(0, .ref (a 0)), (1, .int (L 1)), (2, .int (L 2)), (3, .int (L 3)), (4, .int (L 4)), (5, .int (L 5)), (6, .int (L 6)), (7, .int (L 7)), (8, .int (L 8)), (9, .int (L 9)), (10, .int (L 10)), (11, .int (L 11))]) 252 (fun L => [])) ∧ (bT p l e (headSpec w_x_range ({ frames := 46, cells := 0, slots := 0, locals := 1271 })).room s m #[.ref (a 0), .int (L0 1), .int (L0 2)] below meth c dC dI cy a A (qI dC dI cy a A below #[.ref (a 0), .int (L0 1), .int (L0 2)] s) 12 (x_range k 22) (fun L => [(0, .ref (a 0)), (1, .int (L 1)), (2, .int (L 2)), (3, .int (L 3)), (4, .int (L 4)), (5, .int (L 5)), (6, .int (L 6)), (7, .int (L 7)), (8, .int (L 8)), (9, .int (L 9)), (10, .int (L 10)), (11, .int (L 11))]) 274 (fun L => [])) ∧ (bT p l e (headSpec w_x_range ({ frames := 46, cells := 0, slots := 0, locals := 1271 })).room s m #[.ref (a 0), .int (L0 1), .int (L0 2)] below meth c dC dI cy a A (qI dC dI cy a A below #[.ref (a 0), .int (L0 1), .int (L0 2)] s) 12 (x_range k 23) (fun L => [(0, .ref (a 0)), (1, .int (L 1)), (2, .int (L 2)), (3, .int (L 3)), (4, .int (L 4)), (5, .int (L 5)), (6, .int (L 6)), (7, .int (L 7)), (8, .int (L 8)), (9, .int (L 9)), (10, .int (L 10)), (11, .int (L 11))]) 275 (fun L => [.int (L 100)])) ∧ (bT p l e (headSpec w_x_range ({ frames := 46, cells := 0, slots := 0, locals := 1271 })).room s m #[.ref (a 0), .int (L0 1), .int (L0 2)] below meth c dC dI cy a A (qI dC dI cy a A below #[.ref (a 0), .int (L0 1), .int (L0 2)] s) 12 (x_range k 24) (fun L => [(0, .ref (a 0)), (1, .int (L 1)), (2, .int (L 2)), (3, .int (L 3)), (4, .int (L 4)), (5, .int (L 5)), (6, .int (L 6)), (7, .int (L 7)), (8, .int (L 8)), (9, .int (L 9)), (10, .int (L 10)), (11, .int (L 11))]) 285 (fun L => [])) ∧ (bT p l e (headSpec w_x_range ({ frames := 46, cells := 0, slots := 0, locals := 1271 })).room s m #[.ref (a 0), .int (L0 1), .int (L0 2)] below meth c dC dI cy a A (qI dC dI cy a A below #[.ref (a 0), .int (L0 1), .int (L0 2)] s) 12 (x_range k 25) (fun L => [(0, .ref (a 0)), (1, .int (L 1)), (2, .int (L 2)), (3, .int (L 3)), (4, .int (L 4)), (5, .int (L 5)), (6, .int (L 6)), (7, .int (L 7)), (8, .int (L 8)), (9, .int (L 9)), (10, .int (L 10)), (11, .int (L 11))]) 294 (fun L => [])) ∧ (bT p l e (headSpec w_x_range ({ frames := 46, cells := 0, slots := 0, locals := 1271 })).room s m #[.ref (a 0), .int (L0 1), .int (L0 2)] below meth c dC dI cy a A (qI dC dI cy a A below #[.ref (a 0), .int (L0 1), .int (L0 2)] s) 12 (x_range k 26) (fun L => [(0, .ref (a 0)), (1, .int (L 1)), (2, .int (L 2)), (3, .int (L 3)), (4, .int (L 4)), (5, .int (L 5)), (6, .int (L 6)), (7, .int (L 7)), (8, .int (L 8)), (9, .int (L 9)), (10, .int (L 10)), (11, .int (L 11))]) 307 (fun L => [])) ∧ (bT p l e (headSpec w_x_range ({ frames := 46, cells := 0, slots := 0, locals := 1271 })).room s m #[.ref (a 0), .int (L0 1), .int (L0 2)] below meth c dC dI cy a A (qI dC dI cy a A below #[.ref (a 0), .int (L0 1), .int (L0 2)] s) 12 (x_range k 27) (fun L => [(0, .ref (a 0)), (1, .int (L 1)), (2, .int (L 2)), (3, .int (L 3)), (4, .int (L 4)), (5, .int (L 5)), (6, .int (L 6)), (7, .int (L 7)), (8, .int (L 8)), (9, .int (L 9)), (10, .int (L 10)), (11, .int (L 11))]) 313 (fun L => [.int (L 100)])) := by
    intro k
    induction k with
    | zero => exact ⟨fun L σ r h => (by cases h), fun L σ r h => (by cases h), fun L σ r h => (by cases h), fun L σ r h => (by cases h), fun L σ r h => (by cases h), fun L σ r h => (by cases h), fun L σ r h => (by cases h), fun L σ r h => (by cases h), fun L σ r h => (by cases h), fun L σ r h => (by cases h), fun L σ r h => (by cases h), fun L σ r h => (by cases h), fun L σ r h => (by cases h), fun L σ r h => (by cases h), fun L σ r h => (by cases h), fun L σ r h => (by cases h), fun L σ r h => (by cases h), fun L σ r h => (by cases h), fun L σ r h => (by cases h), fun L σ r h => (by cases h), fun L σ r h => (by cases h), fun L σ r h => (by cases h), fun L σ r h => (by cases h), fun L σ r h => (by cases h), fun L σ r h => (by cases h), fun L σ r h => (by cases h), fun L σ r h => (by cases h), fun L σ r h => (by cases h)⟩
    | succ k ih =>
      refine ⟨?_, ?_, ?_, ?_, ?_, ?_, ?_, ?_, ?_, ?_, ?_, ?_, ?_, ?_, ?_, ?_, ?_, ?_, ?_, ?_, ?_, ?_, ?_, ?_, ?_, ?_, ?_, ?_⟩
      · intro L σ r h H locs ls hP hD hS hl
        rw [x_range] at h
        refine lv_aload_n hx hb dX12_range_0 rfl (lv_at hl 0 rfl) ?_
        obtain ⟨r1, hc1, h⟩ := ob_ex h
        refine nc_Vi (As := []) (rest := []) ⟨hx, hb, hml, hown, hts⟩ (c_x_pop l dC dI cy a k (fun _ => 0) σ r1 hc1 H.size) (cwV 0 hts g_x_range_pop_572 rfl rfl rfl hd_x_pop ⟨Nat.le_of_ble_eq_true rfl, Nat.le_of_ble_eq_true rfl⟩) hK hG hA hP hD hS rfl hl.1 rfl (Nat.le_of_ble_eq_true rfl) dX12_range_1 ⟨Nat.le_refl _, Nat.le_refl _⟩ (fun H locs hP hD hS => ?_)
        refine lv_istore_n (lv' := [(3, .int r1.1), (0, .ref (a 0)), (1, .int (L 1)), (2, .int (L 2))]) hx hb dX12_range_4 rfl hl (by decide) rfl (fun ls hl => ?_)
        refine lv_iload_n hx hb dX12_range_5 rfl (lv_at hl 3 rfl) ?_
        refine lv_if_eq (tgt := 16) hx hb dX12_range_6 (by decide) (fun c2 => ?_) (fun c2 => ?_)
        · rw [if_pos c2] at h
          exact ih.2.1 (upd L 3 r1.1) r1.2 r h H locs ls hP hD hS (lv_sub hl [1, 2, 3, 0] rfl)
        · rw [if_neg c2] at h
          refine lv_aload_n hx hb dX12_range_9 rfl (lv_at hl 1 rfl) ?_
          obtain ⟨r3, hc3, h⟩ := ob_ex h
          refine nc_Vi (As := []) (rest := []) ⟨hx, hb, hml, hown, hts⟩ (c_x_pop l dC dI cy a k (fun _ => 0) r1.2 r3 hc3 H.size) (cwV 0 hts g_x_range_pop_572 rfl rfl rfl hd_x_pop ⟨Nat.le_of_ble_eq_true rfl, Nat.le_of_ble_eq_true rfl⟩) hK hG hA hP hD hS rfl hl.1 rfl (Nat.le_of_ble_eq_true rfl) dX12_range_10 ⟨Nat.le_refl _, Nat.le_refl _⟩ (fun H locs hP hD hS => ?_)
          refine lv_goto (tgt := 17) hx hb dX12_range_13 (by decide) ?_
          exact ih.2.2.1 (upd (upd L 3 r1.1) 100 r3.1) r3.2 r h H locs ls hP hD hS (lv_sub hl [1, 2, 3, 0] rfl)
      · intro L σ r h H locs ls hP hD hS hl
        rw [x_range] at h
        refine lv_iconst (v := 0) hx hb dX12_range_16 (by decide) ?_
        exact ih.2.2.1 (upd L 100 0) σ r h H locs ls hP hD hS (lv_sub hl [0, 1, 2, 3] rfl)
      · intro L σ r h H locs ls hP hD hS hl
        rw [x_range] at h
        refine lv_istore (lv' := [(4, .int (L 100)), (0, .ref (a 0)), (1, .int (L 1)), (2, .int (L 2)), (3, .int (L 3))]) hx hb dX12_range_17 hl (by decide) rfl (fun ls hl => ?_)
        refine lv_aload_n hx hb dX12_range_19 rfl (lv_at hl 1 rfl) ?_
        obtain ⟨r1, hc1, h⟩ := ob_ex h
        refine nc_Vi (As := []) (rest := []) ⟨hx, hb, hml, hown, hts⟩ (c_x_pop l dC dI cy a k (fun _ => 0) σ r1 hc1 H.size) (cwV 0 hts g_x_range_pop_572 rfl rfl rfl hd_x_pop ⟨Nat.le_of_ble_eq_true rfl, Nat.le_of_ble_eq_true rfl⟩) hK hG hA hP hD hS rfl hl.1 rfl (Nat.le_of_ble_eq_true rfl) dX12_range_20 ⟨Nat.le_refl _, Nat.le_refl _⟩ (fun H locs hP hD hS => ?_)
        refine lv_istore (lv' := [(5, .int r1.1), (4, .int (L 100)), (0, .ref (a 0)), (1, .int (L 1)), (2, .int (L 2)), (3, .int (L 3))]) hx hb dX12_range_23 hl (by decide) rfl (fun ls hl => ?_)
        refine lv_aload_n hx hb dX12_range_25 rfl (lv_at hl 2 rfl) ?_
        refine lv_iload hx hb dX12_range_26 (lv_at hl 0 rfl) ?_
        obtain ⟨r2, hc2, h⟩ := ob_ex h
        refine nc_Vi (As := [.int r1.1]) (rest := []) ⟨hx, hb, hml, hown, hts⟩ (c_x_kind l dC dI cy a k (upd (fun _ => 0) 1 r1.1) r1.2 r2 hc2 H.size) (cwV 1 hts g_x_range_kind_545 rfl rfl rfl hd_x_kind ⟨Nat.le_of_ble_eq_true rfl, Nat.le_of_ble_eq_true rfl⟩) hK hG hA hP hD hS rfl hl.1 rfl (Nat.le_of_ble_eq_true rfl) dX12_range_28 ⟨Nat.le_refl _, Nat.le_refl _⟩ (fun H locs hP hD hS => ?_)
        refine lv_iconst (v := 2) hx hb dX12_range_31 (by decide) ?_
        refine lv_icmp_ne (tgt := 58) hx hb dX12_range_32 (by decide) (fun c3 => ?_) (fun c3 => ?_)
        · rw [if_neg c3] at h
          exact ih.2.2.2.1 (upd (upd L 4 ((L 100))) 5 r1.1) r2.2 r h H locs ls hP hD hS (lv_sub hl [2, 3, 4, 5, 1, 0] rfl)
        · rw [if_pos c3] at h
          refine lv_aload_n hx hb dX12_range_35 rfl (lv_at hl 2 rfl) ?_
          refine lv_iload_n hx hb dX12_range_36 rfl (lv_at hl 5 rfl) ?_
          obtain ⟨r4, hc4, h⟩ := ob_ex h
          refine nc_Vi (As := [.int (L 3)]) (rest := []) ⟨hx, hb, hml, hown, hts⟩ (c_x_kind l dC dI cy a k (upd (fun _ => 0) 1 ((L 3))) r2.2 r4 hc4 H.size) (cwV 1 hts g_x_range_kind_545 rfl rfl rfl hd_x_kind ⟨Nat.le_of_ble_eq_true rfl, Nat.le_of_ble_eq_true rfl⟩) hK hG hA hP hD hS rfl hl.1 rfl (Nat.le_of_ble_eq_true rfl) dX12_range_37 ⟨Nat.le_refl _, Nat.le_refl _⟩ (fun H locs hP hD hS => ?_)
          refine lv_iconst (v := 2) hx hb dX12_range_40 (by decide) ?_
          refine lv_icmp_ne (tgt := 58) hx hb dX12_range_41 (by decide) (fun c5 => ?_) (fun c5 => ?_)
          · rw [if_neg c5] at h
            exact ih.2.2.2.1 (upd (upd L 4 ((L 100))) 5 r1.1) r4.2 r h H locs ls hP hD hS (lv_sub hl [2, 3, 4, 5, 1, 0] rfl)
          · rw [if_pos c5] at h
            refine lv_iload_n hx hb dX12_range_44 rfl (lv_at hl 4 rfl) ?_
            refine lv_if_eq (tgt := 63) hx hb dX12_range_45 (by decide) (fun c6 => ?_) (fun c6 => ?_)
            · rw [if_pos c6] at h
              exact ih.2.2.2.2.1 (upd (upd L 4 ((L 100))) 5 r1.1) r4.2 r h H locs ls hP hD hS (lv_sub hl [2, 3, 4, 5, 1, 0] rfl)
            · rw [if_neg c6] at h
              refine lv_aload_n hx hb dX12_range_48 rfl (lv_at hl 2 rfl) ?_
              refine lv_iload hx hb dX12_range_49 (lv_at hl 1 rfl) ?_
              obtain ⟨r7, hc7, h⟩ := ob_ex h
              refine nc_Vi (As := [.int (L 100)]) (rest := []) ⟨hx, hb, hml, hown, hts⟩ (c_x_kind l dC dI cy a k (upd (fun _ => 0) 1 ((L 100))) r4.2 r7 hc7 H.size) (cwV 1 hts g_x_range_kind_545 rfl rfl rfl hd_x_kind ⟨Nat.le_of_ble_eq_true rfl, Nat.le_of_ble_eq_true rfl⟩) hK hG hA hP hD hS rfl hl.1 rfl (Nat.le_of_ble_eq_true rfl) dX12_range_51 ⟨Nat.le_refl _, Nat.le_refl _⟩ (fun H locs hP hD hS => ?_)
              refine lv_iconst (v := 2) hx hb dX12_range_54 (by decide) ?_
              refine lv_icmp_eq (tgt := 63) hx hb dX12_range_55 (by decide) (fun c8 => ?_) (fun c8 => ?_)
              · rw [if_pos c8] at h
                exact ih.2.2.2.2.1 (upd (upd L 4 ((L 100))) 5 r1.1) r7.2 r h H locs ls hP hD hS (lv_sub hl [2, 3, 4, 5, 1, 0] rfl)
              · rw [if_neg c8] at h
                exact ih.2.2.2.1 (upd (upd L 4 ((L 100))) 5 r1.1) r7.2 r h H locs ls hP hD hS (lv_sub hl [2, 3, 4, 5, 1, 0] rfl)
      · intro L σ r h H locs ls hP hD hS hl
        rw [x_range] at h
        refine lv_aload_n hx hb dX12_range_58 rfl (lv_at hl 0 rfl) ?_
        obtain ⟨r1, hc1, h⟩ := ob_ex h
        refine nc_Vi (As := []) (rest := []) ⟨hx, hb, hml, hown, hts⟩ (c_x_wrongKind l dC dI cy a k (fun _ => 0) σ r1 hc1 H.size) (cwV 0 hts g_x_range_wrongKind_666 rfl rfl rfl hd_x_wrongKind ⟨Nat.le_of_ble_eq_true rfl, Nat.le_of_ble_eq_true rfl⟩) hK hG hA hP hD hS rfl hl.1 rfl (Nat.le_of_ble_eq_true rfl) dX12_range_59 ⟨Nat.le_refl _, Nat.le_refl _⟩ (fun H locs hP hD hS => ?_)
        cases h
        exact W.iret (v := r1.1) hx hb hr (fun t ht hW => ⟨⟨r1.1, (), rfl, rfl, by rw [ht]; exact hP, va_K.moved hW.alike hK, hD⟩, hS.F ht⟩) hS.2.2 dX12_range_62
      · intro L σ r h H locs ls hP hD hS hl
        rw [x_range] at h
        refine lv_iload_n hx hb dX12_range_63 rfl (lv_at hl 2 rfl) ?_
        refine lv_if_eq (tgt := 79) hx hb dX12_range_64 (by decide) (fun c1 => ?_) (fun c1 => ?_)
        · rw [if_pos c1] at h
          exact ih.2.2.2.2.2.1 L σ r h H locs ls hP hD hS (lv_sub hl [0, 1, 2, 3, 4, 5] rfl)
        · rw [if_neg c1] at h
          refine lv_aload_n hx hb dX12_range_67 rfl (lv_at hl 0 rfl) ?_
          refine lv_iload hx hb dX12_range_68 (lv_at hl 4 rfl) ?_
          refine lv_iload hx hb dX12_range_70 (lv_at hl 5 rfl) ?_
          refine lv_iconst (v := (-1)) hx hb dX12_range_72 (by decide) ?_
          obtain ⟨r2, hc2, h⟩ := ob_ex h
          refine nc_Vi (As := [.int (L 4), .int (L 5), .int (-1)]) (rest := []) ⟨hx, hb, hml, hown, hts⟩ (c_x_add l dC dI cy a k (upd (upd (upd (fun _ => 0) 1 ((L 4))) 2 ((L 5))) 3 ((-1))) σ r2 hc2 H.size) (cwV 3 hts g_x_range_add_728 rfl rfl rfl hd_x_add ⟨Nat.le_of_ble_eq_true rfl, Nat.le_of_ble_eq_true rfl⟩) hK hG hA hP hD hS rfl hl.1 rfl (Nat.le_of_ble_eq_true rfl) dX12_range_73 ⟨Nat.le_refl _, Nat.le_refl _⟩ (fun H locs hP hD hS => ?_)
          refine lv_goto (tgt := 84) hx hb dX12_range_76 (by decide) ?_
          exact ih.2.2.2.2.2.2.1 (upd L 100 r2.1) r2.2 r h H locs ls hP hD hS (lv_sub hl [0, 1, 2, 3, 4, 5] rfl)
      · intro L σ r h H locs ls hP hD hS hl
        rw [x_range] at h
        refine lv_aload_n hx hb dX12_range_79 rfl (lv_at hl 0 rfl) ?_
        refine lv_iconst (v := 1) hx hb dX12_range_80 (by decide) ?_
        obtain ⟨r1, hc1, h⟩ := ob_ex h
        refine nc_Vi (As := [.int 1]) (rest := []) ⟨hx, hb, hml, hown, hts⟩ (c_x_small l dC dI cy a k (upd (fun _ => 0) 1 1) σ r1 hc1 H.size) (cwV 1 hts g_x_range_small_518 rfl rfl rfl hd_x_small ⟨Nat.le_of_ble_eq_true rfl, Nat.le_of_ble_eq_true rfl⟩) hK hG hA hP hD hS rfl hl.1 rfl (Nat.le_of_ble_eq_true rfl) dX12_range_81 ⟨Nat.le_refl _, Nat.le_refl _⟩ (fun H locs hP hD hS => ?_)
        exact ih.2.2.2.2.2.2.1 (upd L 100 r1.1) r1.2 r h H locs ls hP hD hS (lv_sub hl [0, 1, 2, 3, 4, 5] rfl)
      · intro L σ r h H locs ls hP hD hS hl
        rw [x_range] at h
        refine lv_istore (lv' := [(6, .int (L 100)), (0, .ref (a 0)), (1, .int (L 1)), (2, .int (L 2)), (3, .int (L 3)), (4, .int (L 4)), (5, .int (L 5))]) hx hb dX12_range_84 hl (by decide) rfl (fun ls hl => ?_)
        refine lv_aload_n hx hb dX12_range_86 rfl (lv_at hl 1 rfl) ?_
        refine ng_56 hx hb hts in_x_range hown hK hP (hts _ (List.mem_cons_of_mem _ (List.mem_append_left _ (List.mem_append_left _ (List.mem_of_getElem? (i := 16) rfl))))) dX12_range_87 ?_
        refine lv_if_le (tgt := 97) hx hb dX12_range_90 (by decide) (fun c1 => ?_) (fun c1 => ?_)
        · rw [if_pos c1] at h
          exact ih.2.2.2.2.2.2.2.1 (upd L 6 ((L 100))) σ r h H locs ls hP hD hS (lv_sub hl [1, 2, 3, 4, 5, 6, 0] rfl)
        · rw [if_neg c1] at h
          refine lv_iconst (v := 1) hx hb dX12_range_93 (by decide) ?_
          refine lv_goto (tgt := 98) hx hb dX12_range_94 (by decide) ?_
          exact ih.2.2.2.2.2.2.2.2.1 (upd (upd L 6 ((L 100))) 100 1) σ r h H locs ls hP hD hS (lv_sub hl [1, 2, 3, 4, 5, 6, 0] rfl)
      · intro L σ r h H locs ls hP hD hS hl
        rw [x_range] at h
        refine lv_iconst (v := 0) hx hb dX12_range_97 (by decide) ?_
        exact ih.2.2.2.2.2.2.2.2.1 (upd L 100 0) σ r h H locs ls hP hD hS (lv_sub hl [0, 1, 2, 3, 4, 5, 6] rfl)
      · intro L σ r h H locs ls hP hD hS hl
        rw [x_range] at h
        refine lv_istore (lv' := [(7, .int (L 100)), (0, .ref (a 0)), (1, .int (L 1)), (2, .int (L 2)), (3, .int (L 3)), (4, .int (L 4)), (5, .int (L 5)), (6, .int (L 6))]) hx hb dX12_range_98 hl (by decide) rfl (fun ls hl => ?_)
        refine lv_aload_n hx hb dX12_range_100 rfl (lv_at hl 1 rfl) ?_
        refine lv_iconst (v := 0) hx hb dX12_range_101 (by decide) ?_
        refine np_56 hx hb hts in_x_range hown hK hP hD hS (hts _ (List.mem_cons_of_mem _ (List.mem_append_left _ (List.mem_append_left _ (List.mem_of_getElem? (i := 16) rfl))))) dX12_range_102 (fun H locs hP hD hS => ?_)
        exact ih.2.2.2.2.2.2.2.2.2.1 (upd L 7 ((L 100))) (upd σ.1 56 0, σ.2.1, σ.2.2) r h H locs ls hP hD hS (lv_sub hl [1, 2, 3, 4, 5, 6, 7, 0] rfl)
      · intro L σ r h H locs ls hP hD hS hl
        rw [x_range] at h
        refine lv_iload hx hb dX12_range_105 (lv_at hl 7 rfl) ?_
        refine lv_if_eq (tgt := 129) hx hb dX12_range_107 (by decide) (fun c1 => ?_) (fun c1 => ?_)
        · rw [if_pos c1] at h
          exact ih.2.2.2.2.2.2.2.2.2.2.2.1 L σ r h H locs ls hP hD hS (lv_sub hl [0, 1, 2, 3, 4, 5, 6, 7] rfl)
        · rw [if_neg c1] at h
          refine lv_aload_n hx hb dX12_range_110 rfl (lv_at hl 0 rfl) ?_
          refine lv_iload hx hb dX12_range_111 (lv_at hl 4 rfl) ?_
          refine lv_iload hx hb dX12_range_113 (lv_at hl 5 rfl) ?_
          obtain ⟨r2, hc2, h⟩ := ob_ex h
          refine nc_Vi (As := [.int (L 4), .int (L 5)]) (rest := []) ⟨hx, hb, hml, hown, hts⟩ (c_x_compareWholes l dC dI cy a k (upd (upd (fun _ => 0) 1 ((L 4))) 2 ((L 5))) σ r2 hc2 H.size) (cwV 2 hts g_x_range_compareWholes_460 rfl rfl rfl hd_x_compareWholes ⟨Nat.le_of_ble_eq_true rfl, Nat.le_of_ble_eq_true rfl⟩) hK hG hA hP hD hS rfl hl.1 rfl (Nat.le_of_ble_eq_true rfl) dX12_range_115 ⟨Nat.le_refl _, Nat.le_refl _⟩ (fun H locs hP hD hS => ?_)
          refine lv_if_le (tgt := 125) hx hb dX12_range_118 (by decide) (fun c3 => ?_) (fun c3 => ?_)
          · rw [if_pos c3] at h
            exact ih.2.2.2.2.2.2.2.2.2.2.1 L r2.2 r h H locs ls hP hD hS (lv_sub hl [0, 1, 2, 3, 4, 5, 6, 7] rfl)
          · rw [if_neg c3] at h
            refine lv_iconst (v := 1) hx hb dX12_range_121 (by decide) ?_
            refine lv_goto (tgt := 135) hx hb dX12_range_122 (by decide) ?_
            exact ih.2.2.2.2.2.2.2.2.2.2.2.2.1 (upd L 100 1) r2.2 r h H locs ls hP hD hS (lv_sub hl [0, 1, 2, 3, 4, 5, 6, 7] rfl)
      · intro L σ r h H locs ls hP hD hS hl
        rw [x_range] at h
        refine lv_iconst (v := (-1)) hx hb dX12_range_125 (by decide) ?_
        refine lv_goto (tgt := 135) hx hb dX12_range_126 (by decide) ?_
        exact ih.2.2.2.2.2.2.2.2.2.2.2.2.1 (upd L 100 ((-1))) σ r h H locs ls hP hD hS (lv_sub hl [0, 1, 2, 3, 4, 5, 6, 7] rfl)
      · intro L σ r h H locs ls hP hD hS hl
        rw [x_range] at h
        refine lv_aload_n hx hb dX12_range_129 rfl (lv_at hl 0 rfl) ?_
        refine lv_iload hx hb dX12_range_130 (lv_at hl 6 rfl) ?_
        obtain ⟨r1, hc1, h⟩ := ob_ex h
        refine nc_Vi (As := [.int (L 6)]) (rest := []) ⟨hx, hb, hml, hown, hts⟩ (c_x_signOf l dC dI cy a k (upd (fun _ => 0) 1 ((L 6))) σ r1 hc1 H.size) (cwV 1 hts g_x_range_signOf_463 rfl rfl rfl hd_x_signOf ⟨Nat.le_of_ble_eq_true rfl, Nat.le_of_ble_eq_true rfl⟩) hK hG hA hP hD hS rfl hl.1 rfl (Nat.le_of_ble_eq_true rfl) dX12_range_132 ⟨Nat.le_refl _, Nat.le_refl _⟩ (fun H locs hP hD hS => ?_)
        exact ih.2.2.2.2.2.2.2.2.2.2.2.2.1 (upd L 100 r1.1) r1.2 r h H locs ls hP hD hS (lv_sub hl [0, 1, 2, 3, 4, 5, 6, 7] rfl)
      · intro L σ r h H locs ls hP hD hS hl
        rw [x_range] at h
        refine lv_istore (lv' := [(8, .int (L 100)), (0, .ref (a 0)), (1, .int (L 1)), (2, .int (L 2)), (3, .int (L 3)), (4, .int (L 4)), (5, .int (L 5)), (6, .int (L 6)), (7, .int (L 7))]) hx hb dX12_range_135 hl (by decide) rfl (fun ls hl => ?_)
        refine lv_aload_n hx hb dX12_range_137 rfl (lv_at hl 1 rfl) ?_
        refine ng_59 hx hb hts in_x_range hown hK hP (hts _ (List.mem_cons_of_mem _ (List.mem_append_left _ (List.mem_append_left _ (List.mem_of_getElem? (i := 23) rfl))))) dX12_range_138 ?_
        refine lv_istore (lv' := [(9, .int (σ.1 59)), (8, .int (L 100)), (0, .ref (a 0)), (1, .int (L 1)), (2, .int (L 2)), (3, .int (L 3)), (4, .int (L 4)), (5, .int (L 5)), (6, .int (L 6)), (7, .int (L 7))]) hx hb dX12_range_141 hl (by decide) rfl (fun ls hl => ?_)
        refine lv_iload hx hb dX12_range_143 (lv_at hl 7 rfl) ?_
        refine lv_istore (lv' := [(10, .int (L 5)), (9, .int (σ.1 59)), (8, .int (L 100)), (0, .ref (a 0)), (1, .int (L 1)), (2, .int (L 2)), (3, .int (L 3)), (4, .int (L 4)), (5, .int (L 5)), (6, .int (L 6)), (7, .int (L 7))]) hx hb dX12_range_145 hl (by decide) rfl (fun ls hl => ?_)
        refine lv_iload hx hb dX12_range_147 (lv_at hl 2 rfl) ?_
        refine lv_if_eq (tgt := 156) hx hb dX12_range_149 (by decide) (fun c1 => ?_) (fun c1 => ?_)
        · rw [if_pos c1] at h
          exact ih.2.2.2.2.2.2.2.2.2.2.2.2.2.1 (upd (upd (upd L 8 ((L 100))) 9 ((σ.1 59))) 10 ((L 5))) σ r h H locs ls hP hD hS (lv_sub hl [3, 4, 5, 6, 7, 8, 9, 10, 2, 1, 0] rfl)
        · rw [if_neg c1] at h
          refine lv_iconst (v := 1) hx hb dX12_range_152 (by decide) ?_
          refine lv_goto (tgt := 157) hx hb dX12_range_153 (by decide) ?_
          exact ih.2.2.2.2.2.2.2.2.2.2.2.2.2.2.1 (upd (upd (upd (upd L 8 ((L 100))) 9 ((σ.1 59))) 10 ((L 5))) 100 1) σ r h H locs ls hP hD hS (lv_sub hl [3, 4, 5, 6, 7, 8, 9, 10, 2, 1, 0] rfl)
      · intro L σ r h H locs ls hP hD hS hl
        rw [x_range] at h
        refine lv_iconst (v := 0) hx hb dX12_range_156 (by decide) ?_
        exact ih.2.2.2.2.2.2.2.2.2.2.2.2.2.2.1 (upd L 100 0) σ r h H locs ls hP hD hS (lv_sub hl [0, 1, 2, 3, 4, 5, 6, 7, 8, 9, 10] rfl)
      · intro L σ r h H locs ls hP hD hS hl
        rw [x_range] at h
        refine lv_istore (lv' := [(11, .int (L 100)), (0, .ref (a 0)), (1, .int (L 1)), (2, .int (L 2)), (3, .int (L 3)), (4, .int (L 4)), (5, .int (L 5)), (6, .int (L 6)), (7, .int (L 7)), (8, .int (L 8)), (9, .int (L 9)), (10, .int (L 10))]) hx hb dX12_range_157 hl (by decide) rfl (fun ls hl => ?_)
        exact ih.2.2.2.2.2.2.2.2.2.2.2.2.2.2.2.1 (upd L 11 ((L 100))) σ r h H locs ls hP hD hS (lv_sub hl [1, 2, 3, 4, 5, 6, 7, 8, 9, 10, 11, 0] rfl)
      · intro L σ r h H locs ls hP hD hS hl
        rw [x_range] at h
        refine lv_aload_n hx hb dX12_range_159 rfl (lv_at hl 0 rfl) ?_
        refine ng_56 hx hb hts in_x_range hown hK hP (hts _ (List.mem_cons_of_mem _ (List.mem_append_left _ (List.mem_append_left _ (List.mem_of_getElem? (i := 16) rfl))))) dX12_range_160 ?_
        refine lv_if_ne (tgt := 285) hx hb dX12_range_163 (by decide) (fun c1 => ?_) (fun c1 => ?_)
        · rw [if_neg c1] at h
          exact ih.2.2.2.2.2.2.2.2.2.2.2.2.2.2.2.2.2.2.2.2.2.2.2.2.1 L σ r h H locs ls hP hD hS (lv_sub hl [0, 1, 2, 3, 4, 5, 6, 7, 8, 9, 10, 11] rfl)
        · rw [if_pos c1] at h
          refine lv_iload hx hb dX12_range_166 (lv_at hl 11 rfl) ?_
          refine lv_if_eq (tgt := 285) hx hb dX12_range_168 (by decide) (fun c2 => ?_) (fun c2 => ?_)
          · rw [if_pos c2] at h
            exact ih.2.2.2.2.2.2.2.2.2.2.2.2.2.2.2.2.2.2.2.2.2.2.2.2.1 L σ r h H locs ls hP hD hS (lv_sub hl [0, 1, 2, 3, 4, 5, 6, 7, 8, 9, 10, 11] rfl)
          · rw [if_neg c2] at h
            refine lv_iload hx hb dX12_range_171 (lv_at hl 8 rfl) ?_
            refine lv_if_le (tgt := 189) hx hb dX12_range_173 (by decide) (fun c3 => ?_) (fun c3 => ?_)
            · rw [if_pos c3] at h
              exact ih.2.2.2.2.2.2.2.2.2.2.2.2.2.2.2.2.1 L σ r h H locs ls hP hD hS (lv_sub hl [0, 1, 2, 3, 4, 5, 6, 7, 8, 9, 10, 11] rfl)
            · rw [if_neg c3] at h
              refine lv_aload_n hx hb dX12_range_176 rfl (lv_at hl 0 rfl) ?_
              refine lv_iload hx hb dX12_range_177 (lv_at hl 10 rfl) ?_
              refine lv_iload_n hx hb dX12_range_179 rfl (lv_at hl 3 rfl) ?_
              obtain ⟨r4, hc4, h⟩ := ob_ex h
              refine nc_Vi (As := [.int (L 10), .int (L 3)]) (rest := []) ⟨hx, hb, hml, hown, hts⟩ (c_x_compareWholes l dC dI cy a k (upd (upd (fun _ => 0) 1 ((L 10))) 2 ((L 3))) σ r4 hc4 H.size) (cwV 2 hts g_x_range_compareWholes_460 rfl rfl rfl hd_x_compareWholes ⟨Nat.le_of_ble_eq_true rfl, Nat.le_of_ble_eq_true rfl⟩) hK hG hA hP hD hS rfl hl.1 rfl (Nat.le_of_ble_eq_true rfl) dX12_range_180 ⟨Nat.le_refl _, Nat.le_refl _⟩ (fun H locs hP hD hS => ?_)
              refine lv_if_gt (tgt := 285) hx hb dX12_range_183 (by decide) (fun c5 => ?_) (fun c5 => ?_)
              · rw [if_pos c5] at h
                exact ih.2.2.2.2.2.2.2.2.2.2.2.2.2.2.2.2.2.2.2.2.2.2.2.2.1 L r4.2 r h H locs ls hP hD hS (lv_sub hl [0, 1, 2, 3, 4, 5, 6, 7, 8, 9, 10, 11] rfl)
              · rw [if_neg c5] at h
                refine lv_goto (tgt := 199) hx hb dX12_range_186 (by decide) ?_
                exact ih.2.2.2.2.2.2.2.2.2.2.2.2.2.2.2.2.2.1 L r4.2 r h H locs ls hP hD hS (lv_sub hl [0, 1, 2, 3, 4, 5, 6, 7, 8, 9, 10, 11] rfl)
      · intro L σ r h H locs ls hP hD hS hl
        rw [x_range] at h
        refine lv_aload_n hx hb dX12_range_189 rfl (lv_at hl 0 rfl) ?_
        refine lv_iload hx hb dX12_range_190 (lv_at hl 10 rfl) ?_
        refine lv_iload_n hx hb dX12_range_192 rfl (lv_at hl 3 rfl) ?_
        obtain ⟨r1, hc1, h⟩ := ob_ex h
        refine nc_Vi (As := [.int (L 10), .int (L 3)]) (rest := []) ⟨hx, hb, hml, hown, hts⟩ (c_x_compareWholes l dC dI cy a k (upd (upd (fun _ => 0) 1 ((L 10))) 2 ((L 3))) σ r1 hc1 H.size) (cwV 2 hts g_x_range_compareWholes_460 rfl rfl rfl hd_x_compareWholes ⟨Nat.le_of_ble_eq_true rfl, Nat.le_of_ble_eq_true rfl⟩) hK hG hA hP hD hS rfl hl.1 rfl (Nat.le_of_ble_eq_true rfl) dX12_range_193 ⟨Nat.le_refl _, Nat.le_refl _⟩ (fun H locs hP hD hS => ?_)
        refine lv_if_lt (tgt := 285) hx hb dX12_range_196 (by decide) (fun c2 => ?_) (fun c2 => ?_)
        · rw [if_pos c2] at h
          exact ih.2.2.2.2.2.2.2.2.2.2.2.2.2.2.2.2.2.2.2.2.2.2.2.2.1 L r1.2 r h H locs ls hP hD hS (lv_sub hl [0, 1, 2, 3, 4, 5, 6, 7, 8, 9, 10, 11] rfl)
        · rw [if_neg c2] at h
          exact ih.2.2.2.2.2.2.2.2.2.2.2.2.2.2.2.2.2.1 L r1.2 r h H locs ls hP hD hS (lv_sub hl [0, 1, 2, 3, 4, 5, 6, 7, 8, 9, 10, 11] rfl)
      · intro L σ r h H locs ls hP hD hS hl
        rw [x_range] at h
        refine lv_aload_n hx hb dX12_range_199 rfl (lv_at hl 0 rfl) ?_
        refine lv_iload hx hb dX12_range_200 (lv_at hl 10 rfl) ?_
        obtain ⟨r1, hc1, h⟩ := ob_ex h
        refine nc_Vv (As := [.int (L 10)]) (rest := []) ⟨hx, hb, hml, hown, hts⟩ (c_x_push l dC dI cy a k (upd (fun _ => 0) 1 ((L 10))) σ r1 hc1 H.size) (cwV 1 hts g_x_range_push_594 rfl rfl rfl hd_x_push ⟨Nat.le_of_ble_eq_true rfl, Nat.le_of_ble_eq_true rfl⟩) hK hG hA hP hD hS rfl hl.1 rfl (Nat.le_of_ble_eq_true rfl) dX12_range_202 ⟨Nat.le_refl _, Nat.le_refl _⟩ (fun H locs hP hD hS => ?_)
        refine lv_aload_n hx hb dX12_range_205 rfl (lv_at hl 0 rfl) ?_
        refine ng_59 hx hb hts in_x_range hown hK hP (hts _ (List.mem_cons_of_mem _ (List.mem_append_left _ (List.mem_append_left _ (List.mem_of_getElem? (i := 23) rfl))))) dX12_range_206 ?_
        refine lv_iload hx hb dX12_range_209 (lv_at hl 9 rfl) ?_
        refine lv_isub hx hb dX12_range_211 ?_
        refine lv_sipush (v := 1000) hx hb dX12_range_212 (by decide) ?_
        refine lv_icmp_le (tgt := 226) hx hb dX12_range_215 (by decide) (fun c2 => ?_) (fun c2 => ?_)
        · rw [if_pos c2] at h
          exact ih.2.2.2.2.2.2.2.2.2.2.2.2.2.2.2.2.2.2.1 L r1.2 r h H locs ls hP hD hS (lv_sub hl [0, 1, 2, 3, 4, 5, 6, 7, 8, 9, 10, 11] rfl)
        · rw [if_neg c2] at h
          refine lv_aload_n hx hb dX12_range_218 rfl (lv_at hl 0 rfl) ?_
          refine lv_iconst (v := 5) hx hb dX12_range_219 (by decide) ?_
          obtain ⟨r3, hc3, h⟩ := ob_ex h
          refine nc_Vv (As := [.int 5]) (rest := []) ⟨hx, hb, hml, hown, hts⟩ (c_x_fail l dC dI cy a k (upd (fun _ => 0) 1 5) r1.2 r3 hc3 H.size) (cwV 1 hts g_x_range_fail_369 rfl rfl rfl hd_x_fail ⟨Nat.le_of_ble_eq_true rfl, Nat.le_of_ble_eq_true rfl⟩) hK hG hA hP hD hS rfl hl.1 rfl (Nat.le_of_ble_eq_true rfl) dX12_range_220 ⟨Nat.le_refl _, Nat.le_refl _⟩ (fun H locs hP hD hS => ?_)
          refine lv_goto (tgt := 159) hx hb dX12_range_223 (by decide) ?_
          exact ih.2.2.2.2.2.2.2.2.2.2.2.2.2.2.2.1 L r3.2 r h H locs ls hP hD hS (lv_sub hl [0, 1, 2, 3, 4, 5, 6, 7, 8, 9, 10, 11] rfl)
      · intro L σ r h H locs ls hP hD hS hl
        rw [x_range] at h
        refine lv_iload hx hb dX12_range_226 (lv_at hl 7 rfl) ?_
        refine lv_if_eq (tgt := 252) hx hb dX12_range_228 (by decide) (fun c1 => ?_) (fun c1 => ?_)
        · rw [if_pos c1] at h
          exact ih.2.2.2.2.2.2.2.2.2.2.2.2.2.2.2.2.2.2.2.2.2.1 L σ r h H locs ls hP hD hS (lv_sub hl [0, 1, 2, 3, 4, 5, 6, 7, 8, 9, 10, 11] rfl)
        · rw [if_neg c1] at h
          refine lv_iload hx hb dX12_range_231 (lv_at hl 10 rfl) ?_
          refine lv_iload hx hb dX12_range_233 (lv_at hl 4 rfl) ?_
          refine lv_icmp_eq (tgt := 242) hx hb dX12_range_235 (by decide) (fun c2 => ?_) (fun c2 => ?_)
          · rw [if_pos c2] at h
            exact ih.2.2.2.2.2.2.2.2.2.2.2.2.2.2.2.2.2.2.2.1 L σ r h H locs ls hP hD hS (lv_sub hl [0, 1, 2, 3, 4, 5, 6, 7, 8, 9, 10, 11] rfl)
          · rw [if_neg c2] at h
            refine lv_iconst (v := 1) hx hb dX12_range_238 (by decide) ?_
            refine lv_goto (tgt := 243) hx hb dX12_range_239 (by decide) ?_
            exact ih.2.2.2.2.2.2.2.2.2.2.2.2.2.2.2.2.2.2.2.2.1 (upd L 100 1) σ r h H locs ls hP hD hS (lv_sub hl [0, 1, 2, 3, 4, 5, 6, 7, 8, 9, 10, 11] rfl)
      · intro L σ r h H locs ls hP hD hS hl
        rw [x_range] at h
        refine lv_iconst (v := 0) hx hb dX12_range_242 (by decide) ?_
        exact ih.2.2.2.2.2.2.2.2.2.2.2.2.2.2.2.2.2.2.2.2.1 (upd L 100 0) σ r h H locs ls hP hD hS (lv_sub hl [0, 1, 2, 3, 4, 5, 6, 7, 8, 9, 10, 11] rfl)
      · intro L σ r h H locs ls hP hD hS hl
        rw [x_range] at h
        refine lv_istore (lv' := [(11, .int (L 100)), (0, .ref (a 0)), (1, .int (L 1)), (2, .int (L 2)), (3, .int (L 3)), (4, .int (L 4)), (5, .int (L 5)), (6, .int (L 6)), (7, .int (L 7)), (8, .int (L 8)), (9, .int (L 9)), (10, .int (L 10))]) hx hb dX12_range_243 hl (by decide) rfl (fun ls hl => ?_)
        refine lv_iload hx hb dX12_range_245 (lv_at hl 5 rfl) ?_
        refine lv_istore (lv' := [(10, .int (L 4)), (11, .int (L 100)), (0, .ref (a 0)), (1, .int (L 1)), (2, .int (L 2)), (3, .int (L 3)), (4, .int (L 4)), (5, .int (L 5)), (6, .int (L 6)), (7, .int (L 7)), (8, .int (L 8)), (9, .int (L 9))]) hx hb dX12_range_247 hl (by decide) rfl (fun ls hl => ?_)
        refine lv_goto (tgt := 159) hx hb dX12_range_249 (by decide) ?_
        exact ih.2.2.2.2.2.2.2.2.2.2.2.2.2.2.2.1 (upd (upd L 11 ((L 100))) 10 ((L 4))) σ r h H locs ls hP hD hS (lv_sub hl [2, 3, 4, 5, 6, 7, 8, 9, 10, 11, 0, 1] rfl)
      · intro L σ r h H locs ls hP hD hS hl
        rw [x_range] at h
        refine lv_aload_n hx hb dX12_range_252 rfl (lv_at hl 0 rfl) ?_
        refine lv_iload hx hb dX12_range_253 (lv_at hl 10 rfl) ?_
        refine lv_iload hx hb dX12_range_255 (lv_at hl 6 rfl) ?_
        refine lv_iconst (v := 1) hx hb dX12_range_257 (by decide) ?_
        obtain ⟨r1, hc1, h⟩ := ob_ex h
        refine nc_Vi (As := [.int (L 10), .int (L 6), .int 1]) (rest := []) ⟨hx, hb, hml, hown, hts⟩ (c_x_add l dC dI cy a k (upd (upd (upd (fun _ => 0) 1 ((L 10))) 2 ((L 6))) 3 1) σ r1 hc1 H.size) (cwV 3 hts g_x_range_add_728 rfl rfl rfl hd_x_add ⟨Nat.le_of_ble_eq_true rfl, Nat.le_of_ble_eq_true rfl⟩) hK hG hA hP hD hS rfl hl.1 rfl (Nat.le_of_ble_eq_true rfl) dX12_range_258 ⟨Nat.le_refl _, Nat.le_refl _⟩ (fun H locs hP hD hS => ?_)
        refine lv_istore (lv' := [(10, .int r1.1), (0, .ref (a 0)), (1, .int (L 1)), (2, .int (L 2)), (3, .int (L 3)), (4, .int (L 4)), (5, .int (L 5)), (6, .int (L 6)), (7, .int (L 7)), (8, .int (L 8)), (9, .int (L 9)), (11, .int (L 11))]) hx hb dX12_range_261 hl (by decide) rfl (fun ls hl => ?_)
        refine lv_aload_n hx hb dX12_range_263 rfl (lv_at hl 1 rfl) ?_
        refine ng_56 hx hb hts in_x_range hown hK hP (hts _ (List.mem_cons_of_mem _ (List.mem_append_left _ (List.mem_append_left _ (List.mem_of_getElem? (i := 16) rfl))))) dX12_range_264 ?_
        refine lv_if_ne (tgt := 274) hx hb dX12_range_267 (by decide) (fun c2 => ?_) (fun c2 => ?_)
        · rw [if_neg c2] at h
          exact ih.2.2.2.2.2.2.2.2.2.2.2.2.2.2.2.2.2.2.2.2.2.2.1 (upd L 10 r1.1) r1.2 r h H locs ls hP hD hS (lv_sub hl [1, 2, 3, 4, 5, 6, 7, 8, 9, 10, 0, 11] rfl)
        · rw [if_pos c2] at h
          refine lv_iconst (v := 1) hx hb dX12_range_270 (by decide) ?_
          refine lv_goto (tgt := 275) hx hb dX12_range_271 (by decide) ?_
          exact ih.2.2.2.2.2.2.2.2.2.2.2.2.2.2.2.2.2.2.2.2.2.2.2.1 (upd (upd L 10 r1.1) 100 1) r1.2 r h H locs ls hP hD hS (lv_sub hl [1, 2, 3, 4, 5, 6, 7, 8, 9, 10, 0, 11] rfl)
      · intro L σ r h H locs ls hP hD hS hl
        rw [x_range] at h
        refine lv_iconst (v := 0) hx hb dX12_range_274 (by decide) ?_
        exact ih.2.2.2.2.2.2.2.2.2.2.2.2.2.2.2.2.2.2.2.2.2.2.2.1 (upd L 100 0) σ r h H locs ls hP hD hS (lv_sub hl [0, 1, 2, 3, 4, 5, 6, 7, 8, 9, 10, 11] rfl)
      · intro L σ r h H locs ls hP hD hS hl
        rw [x_range] at h
        refine lv_istore (lv' := [(11, .int (L 100)), (0, .ref (a 0)), (1, .int (L 1)), (2, .int (L 2)), (3, .int (L 3)), (4, .int (L 4)), (5, .int (L 5)), (6, .int (L 6)), (7, .int (L 7)), (8, .int (L 8)), (9, .int (L 9)), (10, .int (L 10))]) hx hb dX12_range_275 hl (by decide) rfl (fun ls hl => ?_)
        refine lv_aload_n hx hb dX12_range_277 rfl (lv_at hl 1 rfl) ?_
        refine lv_iconst (v := 0) hx hb dX12_range_278 (by decide) ?_
        refine np_56 hx hb hts in_x_range hown hK hP hD hS (hts _ (List.mem_cons_of_mem _ (List.mem_append_left _ (List.mem_append_left _ (List.mem_of_getElem? (i := 16) rfl))))) dX12_range_279 (fun H locs hP hD hS => ?_)
        refine lv_goto (tgt := 159) hx hb dX12_range_282 (by decide) ?_
        exact ih.2.2.2.2.2.2.2.2.2.2.2.2.2.2.2.1 (upd L 11 ((L 100))) (upd σ.1 56 0, σ.2.1, σ.2.2) r h H locs ls hP hD hS (lv_sub hl [1, 2, 3, 4, 5, 6, 7, 8, 9, 10, 11, 0] rfl)
      · intro L σ r h H locs ls hP hD hS hl
        rw [x_range] at h
        refine lv_aload_n hx hb dX12_range_285 rfl (lv_at hl 0 rfl) ?_
        refine ng_56 hx hb hts in_x_range hown hK hP (hts _ (List.mem_cons_of_mem _ (List.mem_append_left _ (List.mem_append_left _ (List.mem_of_getElem? (i := 16) rfl))))) dX12_range_286 ?_
        refine lv_if_le (tgt := 294) hx hb dX12_range_289 (by decide) (fun c1 => ?_) (fun c1 => ?_)
        · rw [if_pos c1] at h
          exact ih.2.2.2.2.2.2.2.2.2.2.2.2.2.2.2.2.2.2.2.2.2.2.2.2.2.1 L σ r h H locs ls hP hD hS (lv_sub hl [0, 1, 2, 3, 4, 5, 6, 7, 8, 9, 10, 11] rfl)
        · rw [if_neg c1] at h
          refine lv_iconst (v := 0) hx hb dX12_range_292 (by decide) ?_
          cases h
          exact W.iret (v := 0) hx hb hr (fun t ht hW => ⟨⟨0, (), rfl, rfl, by rw [ht]; exact hP, va_K.moved hW.alike hK, hD⟩, hS.F ht⟩) hS.2.2 dX12_range_293
      · intro L σ r h H locs ls hP hD hS hl
        rw [x_range] at h
        refine lv_iload_n hx hb dX12_range_294 rfl (lv_at hl 1 rfl) ?_
        refine lv_if_eq (tgt := 307) hx hb dX12_range_295 (by decide) (fun c1 => ?_) (fun c1 => ?_)
        · rw [if_pos c1] at h
          exact ih.2.2.2.2.2.2.2.2.2.2.2.2.2.2.2.2.2.2.2.2.2.2.2.2.2.2.1 L σ r h H locs ls hP hD hS (lv_sub hl [0, 1, 2, 3, 4, 5, 6, 7, 8, 9, 10, 11] rfl)
        · rw [if_neg c1] at h
          refine lv_aload_n hx hb dX12_range_298 rfl (lv_at hl 0 rfl) ?_
          refine lv_iload hx hb dX12_range_299 (lv_at hl 9 rfl) ?_
          obtain ⟨r2, hc2, h⟩ := ob_ex h
          refine nc_Vi (As := [.int (L 9)]) (rest := []) ⟨hx, hb, hml, hown, hts⟩ (c_x_setOf l dC dI cy a k (upd (fun _ => 0) 1 ((L 9))) σ r2 hc2 H.size) (cwV 1 hts g_x_range_setOf_678 rfl rfl rfl hd_x_setOf ⟨Nat.le_of_ble_eq_true rfl, Nat.le_of_ble_eq_true rfl⟩) hK hG hA hP hD hS rfl hl.1 rfl (Nat.le_of_ble_eq_true rfl) dX12_range_301 ⟨Nat.le_refl _, Nat.le_refl _⟩ (fun H locs hP hD hS => ?_)
          refine lv_goto (tgt := 313) hx hb dX12_range_304 (by decide) ?_
          exact ih.2.2.2.2.2.2.2.2.2.2.2.2.2.2.2.2.2.2.2.2.2.2.2.2.2.2.2 (upd L 100 r2.1) r2.2 r h H locs ls hP hD hS (lv_sub hl [0, 1, 2, 3, 4, 5, 6, 7, 8, 9, 10, 11] rfl)
      · intro L σ r h H locs ls hP hD hS hl
        rw [x_range] at h
        refine lv_aload_n hx hb dX12_range_307 rfl (lv_at hl 0 rfl) ?_
        refine lv_iload hx hb dX12_range_308 (lv_at hl 9 rfl) ?_
        obtain ⟨r1, hc1, h⟩ := ob_ex h
        refine nc_Vi (As := [.int (L 9)]) (rest := []) ⟨hx, hb, hml, hown, hts⟩ (c_x_tupleOf l dC dI cy a k (upd (fun _ => 0) 1 ((L 9))) σ r1 hc1 H.size) (cwV 1 hts g_x_range_tupleOf_675 rfl rfl rfl hd_x_tupleOf ⟨Nat.le_of_ble_eq_true rfl, Nat.le_of_ble_eq_true rfl⟩) hK hG hA hP hD hS rfl hl.1 rfl (Nat.le_of_ble_eq_true rfl) dX12_range_310 ⟨Nat.le_refl _, Nat.le_refl _⟩ (fun H locs hP hD hS => ?_)
        exact ih.2.2.2.2.2.2.2.2.2.2.2.2.2.2.2.2.2.2.2.2.2.2.2.2.2.2.2 (upd L 100 r1.1) r1.2 r h H locs ls hP hD hS (lv_sub hl [0, 1, 2, 3, 4, 5, 6, 7, 8, 9, 10, 11] rfl)
      · intro L σ r h H locs ls hP hD hS hl
        rw [x_range] at h
        cases h
        exact W.iret (v := (L 100)) hx hb hr (fun t ht hW => ⟨⟨(L 100), (), rfl, rfl, by rw [ht]; exact hP, va_K.moved hW.alike hK, hD⟩, hS.F ht⟩) hS.2.2 dX12_range_313
  exact (blk k0).1 L0 σ0 r0 h0 s.heap [] ls hP hD hS hl
/-! bindOne -/
def x_bindOne : Nat → Nat → (Nat → Int32) → MS → Option (Int32 × MS)
  | 0, _, _, _ => none
  | k + 1, 0, L, σ => if ¬ (((L 1)) < 0 ∨ 70000 ≤ ((L 1)).toNatClampNeg) then (if ((σ.2.2 5 ((L 1)).toNatClampNeg)) = 0 then (if ¬ (((L 1)) < 0 ∨ 70000 ≤ ((L 1)).toNatClampNeg) then (if ¬ (((4 + ((σ.2.2 6 ((L 1)).toNatClampNeg)))) < 0 ∨ 11514 ≤ ((4 + ((σ.2.2 6 ((L 1)).toNatClampNeg)))).toNatClampNeg) then (x_bindOne k 3 L (σ.1, σ.2.1, updG σ.2.2 30 (upd (σ.2.2 30) ((4 + ((σ.2.2 6 ((L 1)).toNatClampNeg)))).toNatClampNeg ((L 2))))) else none) else none) else (x_bindOne k 1 L σ)) else none
  | k + 1, 1, L, σ => if ((σ.1 69)) = 0 then (x_bindOne k 2 L σ) else (if ¬ (((L 1)) < 0 ∨ 70000 ≤ ((L 1)).toNatClampNeg) then (if ¬ (((((σ.1 68)) + ((σ.2.2 6 ((L 1)).toNatClampNeg)))) < 0 ∨ 1380 ≤ ((((σ.1 68)) + ((σ.2.2 6 ((L 1)).toNatClampNeg)))).toNatClampNeg) then (x_bindOne k 3 L (σ.1, σ.2.1, updG σ.2.2 33 (upd (σ.2.2 33) ((((σ.1 68)) + ((σ.2.2 6 ((L 1)).toNatClampNeg)))).toNatClampNeg ((L 2))))) else none) else none)
  | k + 1, 2, L, σ => if ¬ ((1 : Int32) < 0 ∨ 11514 ≤ (1 : Int32).toNatClampNeg) then (if ¬ (((L 1)) < 0 ∨ 70000 ≤ ((L 1)).toNatClampNeg) then (if ¬ (((((214 + ((60 * ((((σ.2.2 30 (1 : Int32).toNatClampNeg)) - 1)))))) + ((σ.2.2 6 ((L 1)).toNatClampNeg)))) < 0 ∨ 11514 ≤ ((((214 + ((60 * ((((σ.2.2 30 (1 : Int32).toNatClampNeg)) - 1)))))) + ((σ.2.2 6 ((L 1)).toNatClampNeg)))).toNatClampNeg) then (x_bindOne k 3 L (σ.1, σ.2.1, updG σ.2.2 30 (upd (σ.2.2 30) ((((214 + ((60 * ((((σ.2.2 30 (1 : Int32).toNatClampNeg)) - 1)))))) + ((σ.2.2 6 ((L 1)).toNatClampNeg)))).toNatClampNeg ((L 2))))) else none) else none) else none
  | k + 1, 3, L, σ => some (0, σ)
  | _ + 1, _ + 4, _, _ => none
def o_x_bindOne : List Cond := [.fieldLink RX12 86 "SetHouseModel" "x1" "[I", .fieldLink RX12 395 "SetHouseModel" "st" "[I", .fieldLink RX12 89 "SetHouseModel" "x2" "[I", .fieldLink RX12 557 "SetHouseModel" "inFrames" "Z", .fieldLink RX12 408 "SetHouseModel" "frames" "[I", .fieldLink RX12 560 "SetHouseModel" "localBase" "I"]
theorem o_x_bindOne_good : o_x_bindOne.all goodWord = true := by decide +kernel
def p_x_bindOne : List Cond := o_x_bindOne ++ []
theorem p_x_bindOne_good : p_x_bindOne.all goodWord = true := nb_all2 o_x_bindOne_good rfl
def w_x_bindOne : List Cond := .code yX12_bindOne cX12_bindOne 3 none :: (p_x_bindOne ++ fM)
theorem w_x_bindOne_good : w_x_bindOne.all goodWord = true := nb_allc (by decide +kernel) (nb_all2 p_x_bindOne_good fM_good)
theorem in_x_bindOne : ∀ w ∈ wsX120, w ∈ w_x_bindOne := fun _ h => List.mem_cons_of_mem _ (List.mem_append_right _ h)
theorem hd_x_bindOne : yX12_bindOne.cls = RX12 ∧ yX12_bindOne.cls ≠ "java/lang/invoke/MethodHandle" ∧ yX12_bindOne.cls ≠ "java/lang/invoke/VarHandle" ∧ (parseMethodDescriptor yX12_bindOne.desc).map (fun d => d.parameters.length) = some 2 := by decide +kernel
set_option maxHeartbeats 40000000 in
set_option maxRecDepth 100000 in
theorem c_x_bindOne (l : Launch) (dC : Nat → ClassId) (dI : Nat → Nat → Nat) (cy : Nat → ClassId) (a : Nat → Nat) (k0 : Nat) (L0 : Nat → Int32) (σ0 : MS) (r0 : Int32 × MS) (h0 : x_bindOne k0 0 L0 σ0 = some r0) (sz : Nat) : Met l yX12_bindOne w_x_bindOne ({ frames := 0, cells := 0, slots := 0, locals := 0 }) (va_Pc [.ref (a 0), .int (L0 1), .int (L0 2)] (nIn (dC, dI) cy sz (vM cy a σ0))) (va_Qv (fun _ : Unit => True) (fun _ t => nOut (dC, dI) cy (va_A (vM cy a σ0) sz) (vM cy a r0.2) t) (va_A (vM cy a σ0) sz)) 0 0 (va_A (vM cy a σ0) sz) := by
  refine Met.ofW (cc := cX12_bindOne) (maxL := 3) (ret := none) (by decide) rfl ?_
  intro p e s m args below meth c s₁ B hml hv
  obtain ⟨rfl, hsz, hP, hK, hD0, hG⟩ := hv
  have hx := B.exec
  have hb := B.bytes
  have hr := B.returns
  have hts := atoms_spec (ws := w_x_bindOne) B.pre
  have hown : s.vm.findClass RX12 = some m.cls := findClass_of_methodNamed B.named
  have hlocks := B.notSynchronized
  subst hsz
  have hD := hD0.self (sz := s.heap.size)
  generalize hAe : va_A (vM cy a σ0) s.heap.size = A at hD ⊢
  have hA : ∀ q : Nat, s.heap.size ≤ q → A q := fun q h => by rw [← hAe]; exact Or.inr h
  have hS : va_S A s.heap s.heap [] := va_S.rf
  have hl := lv_entry ([.ref (a 0), .int (L0 1), .int (L0 2)]) (n := 3) (Nat.le_of_ble_eq_true rfl)
  rw [lg_entry_eq]
  generalize (lg_sl ([.ref (a 0), .int (L0 1), .int (L0 2)]) ++ List.replicate (3 - (lg_sl ([.ref (a 0), .int (L0 1), .int (L0 2)])).length) Slot.unset).toArray = ls at hl ⊢
  have hl : lv_has ls 3 [(0, .ref (a 0)), (1, .int (L0 1)), (2, .int (L0 2))] := hl
  have blk : ∀ k : Nat, (bT p l e (headSpec w_x_bindOne ({ frames := 0, cells := 0, slots := 0, locals := 0 })).room s m #[.ref (a 0), .int (L0 1), .int (L0 2)] below meth c dC dI cy a A (qV dC dI cy a A below #[.ref (a 0), .int (L0 1), .int (L0 2)] s) 3 (x_bindOne k 0) (fun L => [(0, .ref (a 0)), (1, .int (L 1)), (2, .int (L 2))]) 0 (fun L => [])) ∧ (bT p l e (headSpec w_x_bindOne ({ frames := 0, cells := 0, slots := 0, locals := 0 })).room s m #[.ref (a 0), .int (L0 1), .int (L0 2)] below meth c dC dI cy a A (qV dC dI cy a A below #[.ref (a 0), .int (L0 1), .int (L0 2)] s) 3 (x_bindOne k 1) (fun L => [(0, .ref (a 0)), (1, .int (L 1)), (2, .int (L 2))]) 26 (fun L => [])) ∧ (bT p l e (headSpec w_x_bindOne ({ frames := 0, cells := 0, slots := 0, locals := 0 })).room s m #[.ref (a 0), .int (L0 1), .int (L0 2)] below meth c dC dI cy a A (qV dC dI cy a A below #[.ref (a 0), .int (L0 1), .int (L0 2)] s) 3 (x_bindOne k 2) (fun L => [(0, .ref (a 0)), (1, .int (L 1)), (2, .int (L 2))]) 53 (fun L => [])) ∧ (bT p l e (headSpec w_x_bindOne ({ frames := 0, cells := 0, slots := 0, locals := 0 })).room s m #[.ref (a 0), .int (L0 1), .int (L0 2)] below meth c dC dI cy a A (qV dC dI cy a A below #[.ref (a 0), .int (L0 1), .int (L0 2)] s) 3 (x_bindOne k 3) (fun L => [(0, .ref (a 0)), (1, .int (L 1)), (2, .int (L 2))]) 81 (fun L => [])) := by
    intro k
    induction k with
    | zero => exact ⟨fun L σ r h => (by cases h), fun L σ r h => (by cases h), fun L σ r h => (by cases h), fun L σ r h => (by cases h)⟩
    | succ k ih =>
      refine ⟨?_, ?_, ?_, ?_⟩
      · intro L σ r h H locs ls hP hD hS hl
        rw [x_bindOne] at h
        refine lv_aload_n hx hb dX12_bindOne_0 rfl (lv_at hl 0 rfl) ?_
        refine ng_15 hx hb hts in_x_bindOne hown hK hP (hts _ (List.mem_cons_of_mem _ (List.mem_append_left _ (List.mem_append_left _ (List.mem_of_getElem? (i := 0) rfl))))) dX12_bindOne_1 ?_
        refine lv_iload_n hx hb dX12_bindOne_4 rfl (lv_at hl 1 rfl) ?_
        obtain ⟨q1, h⟩ := nb_ite1 h
        refine nl_5 hx hb hK hP q1 dX12_bindOne_5 ?_
        refine lv_if_ne (tgt := 26) hx hb dX12_bindOne_6 (by decide) (fun c2 => ?_) (fun c2 => ?_)
        · rw [if_neg c2] at h
          exact ih.2.1 L σ r h H locs ls hP hD hS (lv_sub hl [0, 1, 2] rfl)
        · rw [if_pos c2] at h
          refine lv_aload_n hx hb dX12_bindOne_9 rfl (lv_at hl 0 rfl) ?_
          refine ng_60 hx hb hts in_x_bindOne hown hK hP (hts _ (List.mem_cons_of_mem _ (List.mem_append_left _ (List.mem_append_left _ (List.mem_of_getElem? (i := 1) rfl))))) dX12_bindOne_10 ?_
          refine lv_iconst (v := 4) hx hb dX12_bindOne_13 (by decide) ?_
          refine lv_aload_n hx hb dX12_bindOne_14 rfl (lv_at hl 0 rfl) ?_
          refine ng_16 hx hb hts in_x_bindOne hown hK hP (hts _ (List.mem_cons_of_mem _ (List.mem_append_left _ (List.mem_append_left _ (List.mem_of_getElem? (i := 2) rfl))))) dX12_bindOne_15 ?_
          refine lv_iload_n hx hb dX12_bindOne_18 rfl (lv_at hl 1 rfl) ?_
          obtain ⟨q3, h⟩ := nb_ite1 h
          refine nl_6 hx hb hK hP q3 dX12_bindOne_19 ?_
          refine lv_iadd hx hb dX12_bindOne_20 ?_
          refine lv_iload_n hx hb dX12_bindOne_21 rfl (lv_at hl 2 rfl) ?_
          obtain ⟨q4, h⟩ := nb_ite1 h
          refine ns_30 hx hb hK hP hD hS q4 dX12_bindOne_22 (fun H locs hP hD hS => ?_)
          refine lv_goto (tgt := 81) hx hb dX12_bindOne_23 (by decide) ?_
          exact ih.2.2.2 L (σ.1, σ.2.1, updG σ.2.2 30 (upd (σ.2.2 30) ((4 + ((σ.2.2 6 ((L 1)).toNatClampNeg)))).toNatClampNeg ((L 2)))) r h H locs ls hP hD hS (lv_sub hl [0, 1, 2] rfl)
      · intro L σ r h H locs ls hP hD hS hl
        rw [x_bindOne] at h
        refine lv_aload_n hx hb dX12_bindOne_26 rfl (lv_at hl 0 rfl) ?_
        refine ng_69 hx hb hts in_x_bindOne hown hK hP (hts _ (List.mem_cons_of_mem _ (List.mem_append_left _ (List.mem_append_left _ (List.mem_of_getElem? (i := 3) rfl))))) dX12_bindOne_27 ?_
        refine lv_if_eq (tgt := 53) hx hb dX12_bindOne_30 (by decide) (fun c1 => ?_) (fun c1 => ?_)
        · rw [if_pos c1] at h
          exact ih.2.2.1 L σ r h H locs ls hP hD hS (lv_sub hl [0, 1, 2] rfl)
        · rw [if_neg c1] at h
          refine lv_aload_n hx hb dX12_bindOne_33 rfl (lv_at hl 0 rfl) ?_
          refine ng_66 hx hb hts in_x_bindOne hown hK hP (hts _ (List.mem_cons_of_mem _ (List.mem_append_left _ (List.mem_append_left _ (List.mem_of_getElem? (i := 4) rfl))))) dX12_bindOne_34 ?_
          refine lv_aload_n hx hb dX12_bindOne_37 rfl (lv_at hl 0 rfl) ?_
          refine ng_68 hx hb hts in_x_bindOne hown hK hP (hts _ (List.mem_cons_of_mem _ (List.mem_append_left _ (List.mem_append_left _ (List.mem_of_getElem? (i := 5) rfl))))) dX12_bindOne_38 ?_
          refine lv_aload_n hx hb dX12_bindOne_41 rfl (lv_at hl 0 rfl) ?_
          refine ng_16 hx hb hts in_x_bindOne hown hK hP (hts _ (List.mem_cons_of_mem _ (List.mem_append_left _ (List.mem_append_left _ (List.mem_of_getElem? (i := 2) rfl))))) dX12_bindOne_42 ?_
          refine lv_iload_n hx hb dX12_bindOne_45 rfl (lv_at hl 1 rfl) ?_
          obtain ⟨q2, h⟩ := nb_ite1 h
          refine nl_6 hx hb hK hP q2 dX12_bindOne_46 ?_
          refine lv_iadd hx hb dX12_bindOne_47 ?_
          refine lv_iload_n hx hb dX12_bindOne_48 rfl (lv_at hl 2 rfl) ?_
          obtain ⟨q3, h⟩ := nb_ite1 h
          refine ns_33 hx hb hK hP hD hS q3 dX12_bindOne_49 (fun H locs hP hD hS => ?_)
          refine lv_goto (tgt := 81) hx hb dX12_bindOne_50 (by decide) ?_
          exact ih.2.2.2 L (σ.1, σ.2.1, updG σ.2.2 33 (upd (σ.2.2 33) ((((σ.1 68)) + ((σ.2.2 6 ((L 1)).toNatClampNeg)))).toNatClampNeg ((L 2)))) r h H locs ls hP hD hS (lv_sub hl [0, 1, 2] rfl)
      · intro L σ r h H locs ls hP hD hS hl
        rw [x_bindOne] at h
        refine lv_aload_n hx hb dX12_bindOne_53 rfl (lv_at hl 0 rfl) ?_
        refine ng_60 hx hb hts in_x_bindOne hown hK hP (hts _ (List.mem_cons_of_mem _ (List.mem_append_left _ (List.mem_append_left _ (List.mem_of_getElem? (i := 1) rfl))))) dX12_bindOne_54 ?_
        refine lv_sipush (v := 214) hx hb dX12_bindOne_57 (by decide) ?_
        refine lv_bipush (v := 60) hx hb dX12_bindOne_60 (by decide) ?_
        refine lv_aload_n hx hb dX12_bindOne_62 rfl (lv_at hl 0 rfl) ?_
        refine ng_60 hx hb hts in_x_bindOne hown hK hP (hts _ (List.mem_cons_of_mem _ (List.mem_append_left _ (List.mem_append_left _ (List.mem_of_getElem? (i := 1) rfl))))) dX12_bindOne_63 ?_
        refine lv_iconst (v := 1) hx hb dX12_bindOne_66 (by decide) ?_
        obtain ⟨q1, h⟩ := nb_ite1 h
        refine nl_30 hx hb hK hP q1 dX12_bindOne_67 ?_
        refine lv_iconst (v := 1) hx hb dX12_bindOne_68 (by decide) ?_
        refine lv_isub hx hb dX12_bindOne_69 ?_
        refine lv_imul hx hb dX12_bindOne_70 ?_
        refine lv_iadd hx hb dX12_bindOne_71 ?_
        refine lv_aload_n hx hb dX12_bindOne_72 rfl (lv_at hl 0 rfl) ?_
        refine ng_16 hx hb hts in_x_bindOne hown hK hP (hts _ (List.mem_cons_of_mem _ (List.mem_append_left _ (List.mem_append_left _ (List.mem_of_getElem? (i := 2) rfl))))) dX12_bindOne_73 ?_
        refine lv_iload_n hx hb dX12_bindOne_76 rfl (lv_at hl 1 rfl) ?_
        obtain ⟨q2, h⟩ := nb_ite1 h
        refine nl_6 hx hb hK hP q2 dX12_bindOne_77 ?_
        refine lv_iadd hx hb dX12_bindOne_78 ?_
        refine lv_iload_n hx hb dX12_bindOne_79 rfl (lv_at hl 2 rfl) ?_
        obtain ⟨q3, h⟩ := nb_ite1 h
        refine ns_30 hx hb hK hP hD hS q3 dX12_bindOne_80 (fun H locs hP hD hS => ?_)
        exact ih.2.2.2 L (σ.1, σ.2.1, updG σ.2.2 30 (upd (σ.2.2 30) ((((214 + ((60 * ((((σ.2.2 30 (1 : Int32).toNatClampNeg)) - 1)))))) + ((σ.2.2 6 ((L 1)).toNatClampNeg)))).toNatClampNeg ((L 2)))) r h H locs ls hP hD hS (lv_sub hl [0, 1, 2] rfl)
      · intro L σ r h H locs ls hP hD hS hl
        rw [x_bindOne] at h
        cases h
        exact W.vret hx hb hr (fun t ht hW => ⟨⟨(), rfl, trivial, by rw [ht]; exact hP, va_K.moved hW.alike hK, hD⟩, hS.F ht⟩) hS.2.2 dX12_bindOne_81
  exact (blk k0).1 L0 σ0 r0 h0 s.heap [] ls hP hD hS hl
/-! clear -/
def x_clear : Nat → Nat → (Nat → Int32) → MS → Option (Int32 × MS)
  | 0, _, _, _ => none
  | k + 1, 0, L, σ => x_clear k 1 (upd L 2 ((L 1))) σ
  | k + 1, 1, L, σ => if ((L 2)) = ((-1)) then (x_clear k 4 L σ) else (if ¬ (((L 2)) < 0 ∨ 70000 ≤ ((L 2)).toNatClampNeg) then (x_clear k 2 (upd L 3 ((σ.2.2 6 ((L 2)).toNatClampNeg))) σ) else none)
  | k + 1, 2, L, σ => if ((L 3)) = ((-1)) then (x_clear k 3 L σ) else (ob (x_bindOne k 0 (upd (upd (fun _ => 0) 1 ((L 3))) 2 0) σ) (fun r2 => if ¬ (((L 3)) < 0 ∨ 70000 ≤ ((L 3)).toNatClampNeg) then (x_clear k 2 (upd L 3 ((r2.2.2.2 9 ((L 3)).toNatClampNeg))) r2.2) else none))
  | k + 1, 3, L, σ => if ¬ (((L 2)) < 0 ∨ 70000 ≤ ((L 2)).toNatClampNeg) then (x_clear k 1 (upd L 2 ((σ.2.2 9 ((L 2)).toNatClampNeg))) σ) else none
  | k + 1, 4, L, σ => some (0, σ)
  | _ + 1, _ + 5, _, _ => none
def o_x_clear : List Cond := [.fieldLink RX12 89 "SetHouseModel" "x2" "[I", .methodLink RX12 694 yX12_bindOne, .instanceMethod yX12_bindOne, .selects RX12 yX12_bindOne yX12_bindOne, .initialized RX12, .fieldLink RX12 98 "SetHouseModel" "next" "[I"]
theorem o_x_clear_good : o_x_clear.all goodWord = true := by decide +kernel
def p_x_clear : List Cond := o_x_clear ++ ((.code yX12_bindOne cX12_bindOne 3 none :: p_x_bindOne) ++ [])
theorem p_x_clear_good : p_x_clear.all goodWord = true := nb_all2 o_x_clear_good (nb_all2 (nb_allc (by decide +kernel) p_x_bindOne_good) rfl)
def w_x_clear : List Cond := .code yX12_clear cX12_clear 4 none :: (p_x_clear ++ fM)
theorem w_x_clear_good : w_x_clear.all goodWord = true := nb_allc (by decide +kernel) (nb_all2 p_x_clear_good fM_good)
theorem in_x_clear : ∀ w ∈ wsX120, w ∈ w_x_clear := fun _ h => List.mem_cons_of_mem _ (List.mem_append_right _ h)
theorem hd_x_clear : yX12_clear.cls = RX12 ∧ yX12_clear.cls ≠ "java/lang/invoke/MethodHandle" ∧ yX12_clear.cls ≠ "java/lang/invoke/VarHandle" ∧ (parseMethodDescriptor yX12_clear.desc).map (fun d => d.parameters.length) = some 1 := by decide +kernel
theorem gg_x_clear_bindOne : GoodIn w_x_clear w_x_bindOne := goodIn_sub (fun w h => (List.mem_cons.mp h).elim (fun e => (List.mem_cons_of_mem _ (List.mem_append_left _ (List.mem_append_right _ (List.mem_append_left _ (List.mem_cons.mpr (Or.inl e))))))) (fun h => (List.mem_append.mp h).elim (fun h => (List.mem_cons_of_mem _ (List.mem_append_left _ (List.mem_append_right _ (List.mem_append_left _ (List.mem_cons_of_mem _ h)))))) (fun h => List.mem_cons_of_mem _ (List.mem_append_right _ h)))) w_x_bindOne_good
theorem g_x_clear_bindOne_694 : GoodIn w_x_clear (wsV RX12 694 RX12 yX12_bindOne w_x_bindOne) := goodIn_app (nb_g4 (List.mem_cons_of_mem _ (List.mem_append_left _ (List.mem_append_left _ (List.mem_of_getElem? (i := 1) rfl)))) (List.mem_cons_of_mem _ (List.mem_append_left _ (List.mem_append_left _ (List.mem_of_getElem? (i := 2) rfl)))) (List.mem_cons_of_mem _ (List.mem_append_left _ (List.mem_append_left _ (List.mem_of_getElem? (i := 3) rfl)))) (List.mem_cons_of_mem _ (List.mem_append_left _ (List.mem_append_left _ (List.mem_of_getElem? (i := 4) rfl)))) (by decide +kernel)) gg_x_clear_bindOne
set_option maxHeartbeats 40000000 in
set_option maxRecDepth 100000 in
theorem c_x_clear (l : Launch) (dC : Nat → ClassId) (dI : Nat → Nat → Nat) (cy : Nat → ClassId) (a : Nat → Nat) (k0 : Nat) (L0 : Nat → Int32) (σ0 : MS) (r0 : Int32 × MS) (h0 : x_clear k0 0 L0 σ0 = some r0) (sz : Nat) : Met l yX12_clear w_x_clear ({ frames := 1, cells := 0, slots := 0, locals := 22 }) (va_Pc [.ref (a 0), .int (L0 1)] (nIn (dC, dI) cy sz (vM cy a σ0))) (va_Qv (fun _ : Unit => True) (fun _ t => nOut (dC, dI) cy (va_A (vM cy a σ0) sz) (vM cy a r0.2) t) (va_A (vM cy a σ0) sz)) 0 0 (va_A (vM cy a σ0) sz) := by
  refine Met.ofW (cc := cX12_clear) (maxL := 4) (ret := none) (by decide) rfl ?_
  intro p e s m args below meth c s₁ B hml hv
  obtain ⟨rfl, hsz, hP, hK, hD0, hG⟩ := hv
  have hx := B.exec
  have hb := B.bytes
  have hr := B.returns
  have hts := atoms_spec (ws := w_x_clear) B.pre
  have hown : s.vm.findClass RX12 = some m.cls := findClass_of_methodNamed B.named
  have hlocks := B.notSynchronized
  subst hsz
  have hD := hD0.self (sz := s.heap.size)
  generalize hAe : va_A (vM cy a σ0) s.heap.size = A at hD ⊢
  have hA : ∀ q : Nat, s.heap.size ≤ q → A q := fun q h => by rw [← hAe]; exact Or.inr h
  have hS : va_S A s.heap s.heap [] := va_S.rf
  have hl := lv_entry ([.ref (a 0), .int (L0 1)]) (n := 4) (Nat.le_of_ble_eq_true rfl)
  rw [lg_entry_eq]
  generalize (lg_sl ([.ref (a 0), .int (L0 1)]) ++ List.replicate (4 - (lg_sl ([.ref (a 0), .int (L0 1)])).length) Slot.unset).toArray = ls at hl ⊢
  have hl : lv_has ls 4 [(0, .ref (a 0)), (1, .int (L0 1))] := hl
  have blk : ∀ k : Nat, (bT p l e (headSpec w_x_clear ({ frames := 1, cells := 0, slots := 0, locals := 22 })).room s m #[.ref (a 0), .int (L0 1)] below meth c dC dI cy a A (qV dC dI cy a A below #[.ref (a 0), .int (L0 1)] s) 4 (x_clear k 0) (fun L => [(0, .ref (a 0)), (1, .int (L 1))]) 0 (fun L => [])) ∧ (bT p l e (headSpec w_x_clear ({ frames := 1, cells := 0, slots := 0, locals := 22 })).room s m #[.ref (a 0), .int (L0 1)] below meth c dC dI cy a A (qV dC dI cy a A below #[.ref (a 0), .int (L0 1)] s) 4 (x_clear k 1) (fun L => [(0, .ref (a 0)), (1, .int (L 1)), (2, .int (L 2))]) 2 (fun L => [])) ∧ (bT p l e (headSpec w_x_clear ({ frames := 1, cells := 0, slots := 0, locals := 22 })).room s m #[.ref (a 0), .int (L0 1)] below meth c dC dI cy a A (qV dC dI cy a A below #[.ref (a 0), .int (L0 1)] s) 4 (x_clear k 2) (fun L => [(0, .ref (a 0)), (1, .int (L 1)), (2, .int (L 2)), (3, .int (L 3))]) 14 (fun L => [])) ∧ (bT p l e (headSpec w_x_clear ({ frames := 1, cells := 0, slots := 0, locals := 22 })).room s m #[.ref (a 0), .int (L0 1)] below meth c dC dI cy a A (qV dC dI cy a A below #[.ref (a 0), .int (L0 1)] s) 4 (x_clear k 3) (fun L => [(0, .ref (a 0)), (1, .int (L 1)), (2, .int (L 2)), (3, .int (L 3))]) 35 (fun L => [])) ∧ (bT p l e (headSpec w_x_clear ({ frames := 1, cells := 0, slots := 0, locals := 22 })).room s m #[.ref (a 0), .int (L0 1)] below meth c dC dI cy a A (qV dC dI cy a A below #[.ref (a 0), .int (L0 1)] s) 4 (x_clear k 4) (fun L => [(0, .ref (a 0)), (1, .int (L 1)), (2, .int (L 2))]) 45 (fun L => [])) := by
    intro k
    induction k with
    | zero => exact ⟨fun L σ r h => (by cases h), fun L σ r h => (by cases h), fun L σ r h => (by cases h), fun L σ r h => (by cases h), fun L σ r h => (by cases h)⟩
    | succ k ih =>
      refine ⟨?_, ?_, ?_, ?_, ?_⟩
      · intro L σ r h H locs ls hP hD hS hl
        rw [x_clear] at h
        refine lv_iload_n hx hb dX12_clear_0 rfl (lv_at hl 1 rfl) ?_
        refine lv_istore_n (lv' := [(2, .int (L 1)), (0, .ref (a 0)), (1, .int (L 1))]) hx hb dX12_clear_1 rfl hl (by decide) rfl (fun ls hl => ?_)
        exact ih.2.1 (upd L 2 ((L 1))) σ r h H locs ls hP hD hS (lv_sub hl [1, 2, 0] rfl)
      · intro L σ r h H locs ls hP hD hS hl
        rw [x_clear] at h
        refine lv_iload_n hx hb dX12_clear_2 rfl (lv_at hl 2 rfl) ?_
        refine lv_iconst (v := (-1)) hx hb dX12_clear_3 (by decide) ?_
        refine lv_icmp_eq (tgt := 45) hx hb dX12_clear_4 (by decide) (fun c1 => ?_) (fun c1 => ?_)
        · rw [if_pos c1] at h
          exact ih.2.2.2.2 L σ r h H locs ls hP hD hS (lv_sub hl [0, 1, 2] rfl)
        · rw [if_neg c1] at h
          refine lv_aload_n hx hb dX12_clear_7 rfl (lv_at hl 0 rfl) ?_
          refine ng_16 hx hb hts in_x_clear hown hK hP (hts _ (List.mem_cons_of_mem _ (List.mem_append_left _ (List.mem_append_left _ (List.mem_of_getElem? (i := 0) rfl))))) dX12_clear_8 ?_
          refine lv_iload_n hx hb dX12_clear_11 rfl (lv_at hl 2 rfl) ?_
          obtain ⟨q2, h⟩ := nb_ite1 h
          refine nl_6 hx hb hK hP q2 dX12_clear_12 ?_
          refine lv_istore_n (lv' := [(3, .int (σ.2.2 6 ((L 2)).toNatClampNeg)), (0, .ref (a 0)), (1, .int (L 1)), (2, .int (L 2))]) hx hb dX12_clear_13 rfl hl (by decide) rfl (fun ls hl => ?_)
          exact ih.2.2.1 (upd L 3 ((σ.2.2 6 ((L 2)).toNatClampNeg))) σ r h H locs ls hP hD hS (lv_sub hl [1, 2, 3, 0] rfl)
      · intro L σ r h H locs ls hP hD hS hl
        rw [x_clear] at h
        refine lv_iload_n hx hb dX12_clear_14 rfl (lv_at hl 3 rfl) ?_
        refine lv_iconst (v := (-1)) hx hb dX12_clear_15 (by decide) ?_
        refine lv_icmp_eq (tgt := 35) hx hb dX12_clear_16 (by decide) (fun c1 => ?_) (fun c1 => ?_)
        · rw [if_pos c1] at h
          exact ih.2.2.2.1 L σ r h H locs ls hP hD hS (lv_sub hl [0, 1, 2, 3] rfl)
        · rw [if_neg c1] at h
          refine lv_aload_n hx hb dX12_clear_19 rfl (lv_at hl 0 rfl) ?_
          refine lv_iload_n hx hb dX12_clear_20 rfl (lv_at hl 3 rfl) ?_
          refine lv_iconst (v := 0) hx hb dX12_clear_21 (by decide) ?_
          obtain ⟨r2, hc2, h⟩ := ob_ex h
          refine nc_Vv (As := [.int (L 3), .int 0]) (rest := []) ⟨hx, hb, hml, hown, hts⟩ (c_x_bindOne l dC dI cy a k (upd (upd (fun _ => 0) 1 ((L 3))) 2 0) σ r2 hc2 H.size) (cwV 2 hts g_x_clear_bindOne_694 rfl rfl rfl hd_x_bindOne ⟨Nat.le_of_ble_eq_true rfl, Nat.le_of_ble_eq_true rfl⟩) hK hG hA hP hD hS rfl hl.1 rfl (Nat.le_of_ble_eq_true rfl) dX12_clear_22 ⟨Nat.le_refl _, Nat.le_refl _⟩ (fun H locs hP hD hS => ?_)
          refine lv_aload_n hx hb dX12_clear_25 rfl (lv_at hl 0 rfl) ?_
          refine ng_19 hx hb hts in_x_clear hown hK hP (hts _ (List.mem_cons_of_mem _ (List.mem_append_left _ (List.mem_append_left _ (List.mem_of_getElem? (i := 5) rfl))))) dX12_clear_26 ?_
          refine lv_iload_n hx hb dX12_clear_29 rfl (lv_at hl 3 rfl) ?_
          obtain ⟨q3, h⟩ := nb_ite1 h
          refine nl_9 hx hb hK hP q3 dX12_clear_30 ?_
          refine lv_istore_n (lv' := [(3, .int (r2.2.2.2 9 ((L 3)).toNatClampNeg)), (0, .ref (a 0)), (1, .int (L 1)), (2, .int (L 2))]) hx hb dX12_clear_31 rfl hl (by decide) rfl (fun ls hl => ?_)
          refine lv_goto (tgt := 14) hx hb dX12_clear_32 (by decide) ?_
          exact ih.2.2.1 (upd L 3 ((r2.2.2.2 9 ((L 3)).toNatClampNeg))) r2.2 r h H locs ls hP hD hS (lv_sub hl [1, 2, 3, 0] rfl)
      · intro L σ r h H locs ls hP hD hS hl
        rw [x_clear] at h
        refine lv_aload_n hx hb dX12_clear_35 rfl (lv_at hl 0 rfl) ?_
        refine ng_19 hx hb hts in_x_clear hown hK hP (hts _ (List.mem_cons_of_mem _ (List.mem_append_left _ (List.mem_append_left _ (List.mem_of_getElem? (i := 5) rfl))))) dX12_clear_36 ?_
        refine lv_iload_n hx hb dX12_clear_39 rfl (lv_at hl 2 rfl) ?_
        obtain ⟨q1, h⟩ := nb_ite1 h
        refine nl_9 hx hb hK hP q1 dX12_clear_40 ?_
        refine lv_istore_n (lv' := [(2, .int (σ.2.2 9 ((L 2)).toNatClampNeg)), (0, .ref (a 0)), (1, .int (L 1)), (3, .int (L 3))]) hx hb dX12_clear_41 rfl hl (by decide) rfl (fun ls hl => ?_)
        refine lv_goto (tgt := 2) hx hb dX12_clear_42 (by decide) ?_
        exact ih.2.1 (upd L 2 ((σ.2.2 9 ((L 2)).toNatClampNeg))) σ r h H locs ls hP hD hS (lv_sub hl [1, 2, 0] rfl)
      · intro L σ r h H locs ls hP hD hS hl
        rw [x_clear] at h
        cases h
        exact W.vret hx hb hr (fun t ht hW => ⟨⟨(), rfl, trivial, by rw [ht]; exact hP, va_K.moved hW.alike hK, hD⟩, hS.F ht⟩) hS.2.2 dX12_clear_45
  exact (blk k0).1 L0 σ0 r0 h0 s.heap [] ls hP hD hS hl
/-! isRow -/
def x_isRow : Nat → Nat → (Nat → Int32) → MS → Option (Int32 × MS)
  | 0, _, _, _ => none
  | k + 1, 0, L, σ => ob (x_kind k 0 (upd (fun _ => 0) 1 ((L 1))) σ) (fun r1 => if r1.1 < 4 then (x_isRow k 1 L r1.2) else (x_isRow k 2 (upd L 100 1) r1.2))
  | k + 1, 1, L, σ => x_isRow k 2 (upd L 100 0) σ
  | k + 1, 2, L, σ => if ((L 100)) = 0 ∨ ((L 100)) = 1 then some ((L 100), σ) else none
  | _ + 1, _ + 3, _, _ => none
def o_x_isRow : List Cond := [.methodLink RX12 545 yX12_kind, .instanceMethod yX12_kind, .selects RX12 yX12_kind yX12_kind, .initialized RX12]
theorem o_x_isRow_good : o_x_isRow.all goodWord = true := by decide +kernel
def p_x_isRow : List Cond := o_x_isRow ++ ((.code yX12_kind cX12_kind 2 (some .int) :: p_x_kind) ++ [])
theorem p_x_isRow_good : p_x_isRow.all goodWord = true := nb_all2 o_x_isRow_good (nb_all2 (nb_allc (by decide +kernel) p_x_kind_good) rfl)
def w_x_isRow : List Cond := .code yX12_isRow cX12_isRow 2 (some .boolean) :: (p_x_isRow ++ fM)
theorem w_x_isRow_good : w_x_isRow.all goodWord = true := nb_allc (by decide +kernel) (nb_all2 p_x_isRow_good fM_good)
theorem in_x_isRow : ∀ w ∈ wsX120, w ∈ w_x_isRow := fun _ h => List.mem_cons_of_mem _ (List.mem_append_right _ h)
theorem hd_x_isRow : yX12_isRow.cls = RX12 ∧ yX12_isRow.cls ≠ "java/lang/invoke/MethodHandle" ∧ yX12_isRow.cls ≠ "java/lang/invoke/VarHandle" ∧ (parseMethodDescriptor yX12_isRow.desc).map (fun d => d.parameters.length) = some 1 := by decide +kernel
theorem gg_x_isRow_kind : GoodIn w_x_isRow w_x_kind := goodIn_sub (fun w h => (List.mem_cons.mp h).elim (fun e => (List.mem_cons_of_mem _ (List.mem_append_left _ (List.mem_append_right _ (List.mem_append_left _ (List.mem_cons.mpr (Or.inl e))))))) (fun h => (List.mem_append.mp h).elim (fun h => (List.mem_cons_of_mem _ (List.mem_append_left _ (List.mem_append_right _ (List.mem_append_left _ (List.mem_cons_of_mem _ h)))))) (fun h => List.mem_cons_of_mem _ (List.mem_append_right _ h)))) w_x_kind_good
theorem g_x_isRow_kind_545 : GoodIn w_x_isRow (wsV RX12 545 RX12 yX12_kind w_x_kind) := goodIn_app (nb_g4 (List.mem_cons_of_mem _ (List.mem_append_left _ (List.mem_append_left _ (List.mem_of_getElem? (i := 0) rfl)))) (List.mem_cons_of_mem _ (List.mem_append_left _ (List.mem_append_left _ (List.mem_of_getElem? (i := 1) rfl)))) (List.mem_cons_of_mem _ (List.mem_append_left _ (List.mem_append_left _ (List.mem_of_getElem? (i := 2) rfl)))) (List.mem_cons_of_mem _ (List.mem_append_left _ (List.mem_append_left _ (List.mem_of_getElem? (i := 3) rfl)))) (by decide +kernel)) gg_x_isRow_kind
set_option maxHeartbeats 40000000 in
set_option maxRecDepth 100000 in
theorem c_x_isRow (l : Launch) (dC : Nat → ClassId) (dI : Nat → Nat → Nat) (cy : Nat → ClassId) (a : Nat → Nat) (k0 : Nat) (L0 : Nat → Int32) (σ0 : MS) (r0 : Int32 × MS) (h0 : x_isRow k0 0 L0 σ0 = some r0) (sz : Nat) : Met l yX12_isRow w_x_isRow ({ frames := 1, cells := 0, slots := 0, locals := 21 }) (va_Pc [.ref (a 0), .int (L0 1)] (nIn (dC, dI) cy sz (vM cy a σ0))) (va_Qi (fun (z : Int32) (_ : Unit) => z = r0.1) (fun _ t => nOut (dC, dI) cy (va_A (vM cy a σ0) sz) (vM cy a r0.2) t) (va_A (vM cy a σ0) sz)) 0 0 (va_A (vM cy a σ0) sz) := by
  refine Met.ofW (cc := cX12_isRow) (maxL := 2) (ret := (some .boolean)) (by decide) rfl ?_
  intro p e s m args below meth c s₁ B hml hv
  obtain ⟨rfl, hsz, hP, hK, hD0, hG⟩ := hv
  have hx := B.exec
  have hb := B.bytes
  have hr := B.returns
  have hts := atoms_spec (ws := w_x_isRow) B.pre
  have hown : s.vm.findClass RX12 = some m.cls := findClass_of_methodNamed B.named
  have hlocks := B.notSynchronized
  subst hsz
  have hD := hD0.self (sz := s.heap.size)
  generalize hAe : va_A (vM cy a σ0) s.heap.size = A at hD ⊢
  have hA : ∀ q : Nat, s.heap.size ≤ q → A q := fun q h => by rw [← hAe]; exact Or.inr h
  have hS : va_S A s.heap s.heap [] := va_S.rf
  have hl := lv_entry ([.ref (a 0), .int (L0 1)]) (n := 2) (Nat.le_of_ble_eq_true rfl)
  rw [lg_entry_eq]
  generalize (lg_sl ([.ref (a 0), .int (L0 1)]) ++ List.replicate (2 - (lg_sl ([.ref (a 0), .int (L0 1)])).length) Slot.unset).toArray = ls at hl ⊢
  have hl : lv_has ls 2 [(0, .ref (a 0)), (1, .int (L0 1))] := hl
  have blk : ∀ k : Nat, (bT p l e (headSpec w_x_isRow ({ frames := 1, cells := 0, slots := 0, locals := 21 })).room s m #[.ref (a 0), .int (L0 1)] below meth c dC dI cy a A (qI dC dI cy a A below #[.ref (a 0), .int (L0 1)] s) 2 (x_isRow k 0) (fun L => [(0, .ref (a 0)), (1, .int (L 1))]) 0 (fun L => [])) ∧ (bT p l e (headSpec w_x_isRow ({ frames := 1, cells := 0, slots := 0, locals := 21 })).room s m #[.ref (a 0), .int (L0 1)] below meth c dC dI cy a A (qI dC dI cy a A below #[.ref (a 0), .int (L0 1)] s) 2 (x_isRow k 1) (fun L => [(0, .ref (a 0)), (1, .int (L 1))]) 13 (fun L => [])) ∧ (bT p l e (headSpec w_x_isRow ({ frames := 1, cells := 0, slots := 0, locals := 21 })).room s m #[.ref (a 0), .int (L0 1)] below meth c dC dI cy a A (qI dC dI cy a A below #[.ref (a 0), .int (L0 1)] s) 2 (x_isRow k 2) (fun L => [(0, .ref (a 0)), (1, .int (L 1))]) 14 (fun L => [.int (L 100)])) := by
    intro k
    induction k with
    | zero => exact ⟨fun L σ r h => (by cases h), fun L σ r h => (by cases h), fun L σ r h => (by cases h)⟩
    | succ k ih =>
      refine ⟨?_, ?_, ?_⟩
      · intro L σ r h H locs ls hP hD hS hl
        rw [x_isRow] at h
        refine lv_aload_n hx hb dX12_isRow_0 rfl (lv_at hl 0 rfl) ?_
        refine lv_iload_n hx hb dX12_isRow_1 rfl (lv_at hl 1 rfl) ?_
        obtain ⟨r1, hc1, h⟩ := ob_ex h
        refine nc_Vi (As := [.int (L 1)]) (rest := []) ⟨hx, hb, hml, hown, hts⟩ (c_x_kind l dC dI cy a k (upd (fun _ => 0) 1 ((L 1))) σ r1 hc1 H.size) (cwV 1 hts g_x_isRow_kind_545 rfl rfl rfl hd_x_kind ⟨Nat.le_of_ble_eq_true rfl, Nat.le_of_ble_eq_true rfl⟩) hK hG hA hP hD hS rfl hl.1 rfl (Nat.le_of_ble_eq_true rfl) dX12_isRow_2 ⟨Nat.le_refl _, Nat.le_refl _⟩ (fun H locs hP hD hS => ?_)
        refine lv_iconst (v := 4) hx hb dX12_isRow_5 (by decide) ?_
        refine lv_icmp_lt (tgt := 13) hx hb dX12_isRow_6 (by decide) (fun c2 => ?_) (fun c2 => ?_)
        · rw [if_pos c2] at h
          exact ih.2.1 L r1.2 r h H locs ls hP hD hS (lv_sub hl [0, 1] rfl)
        · rw [if_neg c2] at h
          refine lv_iconst (v := 1) hx hb dX12_isRow_9 (by decide) ?_
          refine lv_goto (tgt := 14) hx hb dX12_isRow_10 (by decide) ?_
          exact ih.2.2 (upd L 100 1) r1.2 r h H locs ls hP hD hS (lv_sub hl [0, 1] rfl)
      · intro L σ r h H locs ls hP hD hS hl
        rw [x_isRow] at h
        refine lv_iconst (v := 0) hx hb dX12_isRow_13 (by decide) ?_
        exact ih.2.2 (upd L 100 0) σ r h H locs ls hP hD hS (lv_sub hl [0, 1] rfl)
      · intro L σ r h H locs ls hP hD hS hl
        rw [x_isRow] at h
        obtain ⟨q1, h⟩ := nb_ite1 h
        cases h
        exact W.zret (v := (L 100)) hx hb hr (nb_bz q1) (fun t ht hW => ⟨⟨(L 100), (), rfl, rfl, by rw [ht]; exact hP, va_K.moved hW.alike hK, hD⟩, hS.F ht⟩) hS.2.2 dX12_isRow_14
  exact (blk k0).1 L0 σ0 r0 h0 s.heap [] ls hP hD hS hl
/-! bind -/
def x_bind : Nat → Nat → (Nat → Int32) → MS → Option (Int32 × MS)
  | 0, _, _, _ => none
  | k + 1, 0, L, σ => if ¬ (((L 1)) < 0 ∨ 70000 ≤ ((L 1)).toNatClampNeg) then (if ((σ.2.2 5 ((L 1)).toNatClampNeg)) = 0 then (if ¬ (((L 1)) < 0 ∨ 70000 ≤ ((L 1)).toNatClampNeg) then (ob (x_bindOne k 0 (upd (upd (fun _ => 0) 1 ((σ.2.2 6 ((L 1)).toNatClampNeg))) 2 ((L 2))) σ) (fun r4 => some (0, r4.2))) else none) else (x_bind k 1 L σ)) else none
  | k + 1, 1, L, σ => if ¬ (((L 1)) < 0 ∨ 70000 ≤ ((L 1)).toNatClampNeg) then (x_bind k 2 (upd (upd L 3 0) 4 ((σ.2.2 6 ((L 1)).toNatClampNeg))) σ) else none
  | k + 1, 2, L, σ => if ((L 4)) = ((-1)) then (x_bind k 3 L σ) else (if ¬ (((L 4)) < 0 ∨ 70000 ≤ ((L 4)).toNatClampNeg) then (x_bind k 2 (upd (upd L 3 (((L 3)) + 1)) 4 ((σ.2.2 9 ((L 4)).toNatClampNeg))) σ) else none)
  | k + 1, 3, L, σ => ob (x_kind k 0 (upd (fun _ => 0) 1 ((L 2))) σ) (fun r1 => if r1.1 = 5 then (if ¬ (((((L 2)) + 1)) < 0 ∨ 1740000 ≤ ((((L 2)) + 1)).toNatClampNeg) then (if ((r1.2.2.2 28 ((((L 2)) + 1)).toNatClampNeg)) ≤ ((L 3)) then (x_bind k 5 L r1.2) else (x_bind k 4 L r1.2)) else none) else (x_bind k 4 L r1.2))
  | k + 1, 4, L, σ => ob (x_fail k 0 (upd (fun _ => 0) 1 1) σ) (fun r1 => some (0, r1.2))
  | k + 1, 5, L, σ => if ¬ (((L 1)) < 0 ∨ 70000 ≤ ((L 1)).toNatClampNeg) then (x_bind k 6 (upd (upd L 4 0) 5 ((σ.2.2 6 ((L 1)).toNatClampNeg))) σ) else none
  | k + 1, 6, L, σ => if ((L 5)) = ((-1)) then (x_bind k 9 L σ) else (if ¬ (((((L 2)) + 1)) < 0 ∨ 1740000 ≤ ((((L 2)) + 1)).toNatClampNeg) then (if ((σ.2.2 28 ((((L 2)) + 1)).toNatClampNeg)) ≤ ((L 4)) then (x_bind k 7 (upd L 100 ((L 5))) σ) else (if ¬ (((((((L 2)) + 4)) + ((L 4)))) < 0 ∨ 1740000 ≤ ((((((L 2)) + 4)) + ((L 4)))).toNatClampNeg) then (x_bind k 8 (upd (upd L 100 ((σ.2.2 28 ((((((L 2)) + 4)) + ((L 4)))).toNatClampNeg))) 101 ((L 5))) σ) else none)) else none)
  | k + 1, 7, L, σ => x_bind k 8 (upd (upd L 100 0) 101 ((L 100))) σ
  | k + 1, 8, L, σ => ob (x_bindOne k 0 (upd (upd (fun _ => 0) 1 ((L 101))) 2 ((L 100))) σ) (fun r1 => if ¬ (((L 5)) < 0 ∨ 70000 ≤ ((L 5)).toNatClampNeg) then (x_bind k 6 (upd (upd L 4 (((L 4)) + 1)) 5 ((r1.2.2.2 9 ((L 5)).toNatClampNeg))) r1.2) else none)
  | k + 1, 9, L, σ => some (0, σ)
  | _ + 1, _ + 10, _, _ => none
def o_x_bind : List Cond := [.fieldLink RX12 86 "SetHouseModel" "x1" "[I", .fieldLink RX12 89 "SetHouseModel" "x2" "[I", .methodLink RX12 694 yX12_bindOne, .instanceMethod yX12_bindOne, .selects RX12 yX12_bindOne yX12_bindOne, .initialized RX12, .fieldLink RX12 98 "SetHouseModel" "next" "[I", .methodLink RX12 545 yX12_kind, .instanceMethod yX12_kind, .selects RX12 yX12_kind yX12_kind, .fieldLink RX12 372 "SetHouseModel" "heap" "[I", .methodLink RX12 369 yX12_fail, .instanceMethod yX12_fail, .selects RX12 yX12_fail yX12_fail]
theorem o_x_bind_good : o_x_bind.all goodWord = true := by decide +kernel
def p_x_bind : List Cond := o_x_bind ++ ((.code yX12_bindOne cX12_bindOne 3 none :: p_x_bindOne) ++ ((.code yX12_kind cX12_kind 2 (some .int) :: p_x_kind) ++ ((.code yX12_fail cX12_fail 2 none :: p_x_fail) ++ [])))
theorem p_x_bind_good : p_x_bind.all goodWord = true := nb_all2 o_x_bind_good (nb_all2 (nb_allc (by decide +kernel) p_x_bindOne_good) (nb_all2 (nb_allc (by decide +kernel) p_x_kind_good) (nb_all2 (nb_allc (by decide +kernel) p_x_fail_good) rfl)))
def w_x_bind : List Cond := .code yX12_bind cX12_bind 6 none :: (p_x_bind ++ fM)
theorem w_x_bind_good : w_x_bind.all goodWord = true := nb_allc (by decide +kernel) (nb_all2 p_x_bind_good fM_good)
theorem in_x_bind : ∀ w ∈ wsX120, w ∈ w_x_bind := fun _ h => List.mem_cons_of_mem _ (List.mem_append_right _ h)
theorem hd_x_bind : yX12_bind.cls = RX12 ∧ yX12_bind.cls ≠ "java/lang/invoke/MethodHandle" ∧ yX12_bind.cls ≠ "java/lang/invoke/VarHandle" ∧ (parseMethodDescriptor yX12_bind.desc).map (fun d => d.parameters.length) = some 2 := by decide +kernel
theorem gg_x_bind_bindOne : GoodIn w_x_bind w_x_bindOne := goodIn_sub (fun w h => (List.mem_cons.mp h).elim (fun e => (List.mem_cons_of_mem _ (List.mem_append_left _ (List.mem_append_right _ (List.mem_append_left _ (List.mem_cons.mpr (Or.inl e))))))) (fun h => (List.mem_append.mp h).elim (fun h => (List.mem_cons_of_mem _ (List.mem_append_left _ (List.mem_append_right _ (List.mem_append_left _ (List.mem_cons_of_mem _ h)))))) (fun h => List.mem_cons_of_mem _ (List.mem_append_right _ h)))) w_x_bindOne_good
theorem g_x_bind_bindOne_694 : GoodIn w_x_bind (wsV RX12 694 RX12 yX12_bindOne w_x_bindOne) := goodIn_app (nb_g4 (List.mem_cons_of_mem _ (List.mem_append_left _ (List.mem_append_left _ (List.mem_of_getElem? (i := 2) rfl)))) (List.mem_cons_of_mem _ (List.mem_append_left _ (List.mem_append_left _ (List.mem_of_getElem? (i := 3) rfl)))) (List.mem_cons_of_mem _ (List.mem_append_left _ (List.mem_append_left _ (List.mem_of_getElem? (i := 4) rfl)))) (List.mem_cons_of_mem _ (List.mem_append_left _ (List.mem_append_left _ (List.mem_of_getElem? (i := 5) rfl)))) (by decide +kernel)) gg_x_bind_bindOne
theorem gg_x_bind_fail : GoodIn w_x_bind w_x_fail := goodIn_sub (fun w h => (List.mem_cons.mp h).elim (fun e => (List.mem_cons_of_mem _ (List.mem_append_left _ (List.mem_append_right _ (List.mem_append_right _ (List.mem_append_right _ (List.mem_append_left _ (List.mem_cons.mpr (Or.inl e))))))))) (fun h => (List.mem_append.mp h).elim (fun h => (List.mem_cons_of_mem _ (List.mem_append_left _ (List.mem_append_right _ (List.mem_append_right _ (List.mem_append_right _ (List.mem_append_left _ (List.mem_cons_of_mem _ h)))))))) (fun h => List.mem_cons_of_mem _ (List.mem_append_right _ h)))) w_x_fail_good
theorem g_x_bind_fail_369 : GoodIn w_x_bind (wsV RX12 369 RX12 yX12_fail w_x_fail) := goodIn_app (nb_g4 (List.mem_cons_of_mem _ (List.mem_append_left _ (List.mem_append_left _ (List.mem_of_getElem? (i := 11) rfl)))) (List.mem_cons_of_mem _ (List.mem_append_left _ (List.mem_append_left _ (List.mem_of_getElem? (i := 12) rfl)))) (List.mem_cons_of_mem _ (List.mem_append_left _ (List.mem_append_left _ (List.mem_of_getElem? (i := 13) rfl)))) (List.mem_cons_of_mem _ (List.mem_append_left _ (List.mem_append_left _ (List.mem_of_getElem? (i := 5) rfl)))) (by decide +kernel)) gg_x_bind_fail
theorem gg_x_bind_kind : GoodIn w_x_bind w_x_kind := goodIn_sub (fun w h => (List.mem_cons.mp h).elim (fun e => (List.mem_cons_of_mem _ (List.mem_append_left _ (List.mem_append_right _ (List.mem_append_right _ (List.mem_append_left _ (List.mem_cons.mpr (Or.inl e)))))))) (fun h => (List.mem_append.mp h).elim (fun h => (List.mem_cons_of_mem _ (List.mem_append_left _ (List.mem_append_right _ (List.mem_append_right _ (List.mem_append_left _ (List.mem_cons_of_mem _ h))))))) (fun h => List.mem_cons_of_mem _ (List.mem_append_right _ h)))) w_x_kind_good
theorem g_x_bind_kind_545 : GoodIn w_x_bind (wsV RX12 545 RX12 yX12_kind w_x_kind) := goodIn_app (nb_g4 (List.mem_cons_of_mem _ (List.mem_append_left _ (List.mem_append_left _ (List.mem_of_getElem? (i := 7) rfl)))) (List.mem_cons_of_mem _ (List.mem_append_left _ (List.mem_append_left _ (List.mem_of_getElem? (i := 8) rfl)))) (List.mem_cons_of_mem _ (List.mem_append_left _ (List.mem_append_left _ (List.mem_of_getElem? (i := 9) rfl)))) (List.mem_cons_of_mem _ (List.mem_append_left _ (List.mem_append_left _ (List.mem_of_getElem? (i := 5) rfl)))) (by decide +kernel)) gg_x_bind_kind
set_option maxHeartbeats 40000000 in
set_option maxRecDepth 100000 in
theorem c_x_bind (l : Launch) (dC : Nat → ClassId) (dI : Nat → Nat → Nat) (cy : Nat → ClassId) (a : Nat → Nat) (k0 : Nat) (L0 : Nat → Int32) (σ0 : MS) (r0 : Int32 × MS) (h0 : x_bind k0 0 L0 σ0 = some r0) (sz : Nat) : Met l yX12_bind w_x_bind ({ frames := 1, cells := 0, slots := 0, locals := 22 }) (va_Pc [.ref (a 0), .int (L0 1), .int (L0 2)] (nIn (dC, dI) cy sz (vM cy a σ0))) (va_Qv (fun _ : Unit => True) (fun _ t => nOut (dC, dI) cy (va_A (vM cy a σ0) sz) (vM cy a r0.2) t) (va_A (vM cy a σ0) sz)) 0 0 (va_A (vM cy a σ0) sz) := by
  refine Met.ofW (cc := cX12_bind) (maxL := 6) (ret := none) (by decide) rfl ?_
  intro p e s m args below meth c s₁ B hml hv
  obtain ⟨rfl, hsz, hP, hK, hD0, hG⟩ := hv
  have hx := B.exec
  have hb := B.bytes
  have hr := B.returns
  have hts := atoms_spec (ws := w_x_bind) B.pre
  have hown : s.vm.findClass RX12 = some m.cls := findClass_of_methodNamed B.named
  have hlocks := B.notSynchronized
  subst hsz
  have hD := hD0.self (sz := s.heap.size)
  generalize hAe : va_A (vM cy a σ0) s.heap.size = A at hD ⊢
  have hA : ∀ q : Nat, s.heap.size ≤ q → A q := fun q h => by rw [← hAe]; exact Or.inr h
  have hS : va_S A s.heap s.heap [] := va_S.rf
  have hl := lv_entry ([.ref (a 0), .int (L0 1), .int (L0 2)]) (n := 6) (Nat.le_of_ble_eq_true rfl)
  rw [lg_entry_eq]
  generalize (lg_sl ([.ref (a 0), .int (L0 1), .int (L0 2)]) ++ List.replicate (6 - (lg_sl ([.ref (a 0), .int (L0 1), .int (L0 2)])).length) Slot.unset).toArray = ls at hl ⊢
  have hl : lv_has ls 6 [(0, .ref (a 0)), (1, .int (L0 1)), (2, .int (L0 2))] := hl
  have blk : ∀ k : Nat, (bT p l e (headSpec w_x_bind ({ frames := 1, cells := 0, slots := 0, locals := 22 })).room s m #[.ref (a 0), .int (L0 1), .int (L0 2)] below meth c dC dI cy a A (qV dC dI cy a A below #[.ref (a 0), .int (L0 1), .int (L0 2)] s) 6 (x_bind k 0) (fun L => [(0, .ref (a 0)), (1, .int (L 1)), (2, .int (L 2))]) 0 (fun L => [])) ∧ (bT p l e (headSpec w_x_bind ({ frames := 1, cells := 0, slots := 0, locals := 22 })).room s m #[.ref (a 0), .int (L0 1), .int (L0 2)] below meth c dC dI cy a A (qV dC dI cy a A below #[.ref (a 0), .int (L0 1), .int (L0 2)] s) 6 (x_bind k 1) (fun L => [(0, .ref (a 0)), (1, .int (L 1)), (2, .int (L 2))]) 21 (fun L => [])) ∧ (bT p l e (headSpec w_x_bind ({ frames := 1, cells := 0, slots := 0, locals := 22 })).room s m #[.ref (a 0), .int (L0 1), .int (L0 2)] below meth c dC dI cy a A (qV dC dI cy a A below #[.ref (a 0), .int (L0 1), .int (L0 2)] s) 6 (x_bind k 2) (fun L => [(0, .ref (a 0)), (1, .int (L 1)), (2, .int (L 2)), (3, .int (L 3)), (4, .int (L 4))]) 31 (fun L => [])) ∧ (bT p l e (headSpec w_x_bind ({ frames := 1, cells := 0, slots := 0, locals := 22 })).room s m #[.ref (a 0), .int (L0 1), .int (L0 2)] below meth c dC dI cy a A (qV dC dI cy a A below #[.ref (a 0), .int (L0 1), .int (L0 2)] s) 6 (x_bind k 3) (fun L => [(0, .ref (a 0)), (1, .int (L 1)), (2, .int (L 2)), (3, .int (L 3)), (4, .int (L 4))]) 52 (fun L => [])) ∧ (bT p l e (headSpec w_x_bind ({ frames := 1, cells := 0, slots := 0, locals := 22 })).room s m #[.ref (a 0), .int (L0 1), .int (L0 2)] below meth c dC dI cy a A (qV dC dI cy a A below #[.ref (a 0), .int (L0 1), .int (L0 2)] s) 6 (x_bind k 4) (fun L => [(0, .ref (a 0)), (1, .int (L 1)), (2, .int (L 2)), (3, .int (L 3)), (4, .int (L 4))]) 73 (fun L => [])) ∧ (bT p l e (headSpec w_x_bind ({ frames := 1, cells := 0, slots := 0, locals := 22 })).room s m #[.ref (a 0), .int (L0 1), .int (L0 2)] below meth c dC dI cy a A (qV dC dI cy a A below #[.ref (a 0), .int (L0 1), .int (L0 2)] s) 6 (x_bind k 5) (fun L => [(0, .ref (a 0)), (1, .int (L 1)), (2, .int (L 2)), (3, .int (L 3)), (4, .int (L 4))]) 79 (fun L => [])) ∧ (bT p l e (headSpec w_x_bind ({ frames := 1, cells := 0, slots := 0, locals := 22 })).room s m #[.ref (a 0), .int (L0 1), .int (L0 2)] below meth c dC dI cy a A (qV dC dI cy a A below #[.ref (a 0), .int (L0 1), .int (L0 2)] s) 6 (x_bind k 6) (fun L => [(0, .ref (a 0)), (1, .int (L 1)), (2, .int (L 2)), (3, .int (L 3)), (4, .int (L 4)), (5, .int (L 5))]) 90 (fun L => [])) ∧ (bT p l e (headSpec w_x_bind ({ frames := 1, cells := 0, slots := 0, locals := 22 })).room s m #[.ref (a 0), .int (L0 1), .int (L0 2)] below meth c dC dI cy a A (qV dC dI cy a A below #[.ref (a 0), .int (L0 1), .int (L0 2)] s) 6 (x_bind k 7) (fun L => [(0, .ref (a 0)), (1, .int (L 1)), (2, .int (L 2)), (3, .int (L 3)), (4, .int (L 4)), (5, .int (L 5))]) 126 (fun L => [.int (L 100), .ref (a 0)])) ∧ (bT p l e (headSpec w_x_bind ({ frames := 1, cells := 0, slots := 0, locals := 22 })).room s m #[.ref (a 0), .int (L0 1), .int (L0 2)] below meth c dC dI cy a A (qV dC dI cy a A below #[.ref (a 0), .int (L0 1), .int (L0 2)] s) 6 (x_bind k 8) (fun L => [(0, .ref (a 0)), (1, .int (L 1)), (2, .int (L 2)), (3, .int (L 3)), (4, .int (L 4)), (5, .int (L 5))]) 127 (fun L => [.int (L 100), .int (L 101), .ref (a 0)])) ∧ (bT p l e (headSpec w_x_bind ({ frames := 1, cells := 0, slots := 0, locals := 22 })).room s m #[.ref (a 0), .int (L0 1), .int (L0 2)] below meth c dC dI cy a A (qV dC dI cy a A below #[.ref (a 0), .int (L0 1), .int (L0 2)] s) 6 (x_bind k 9) (fun L => [(0, .ref (a 0)), (1, .int (L 1)), (2, .int (L 2)), (3, .int (L 3)), (4, .int (L 4)), (5, .int (L 5))]) 145 (fun L => [])) := by
    intro k
    induction k with
    | zero => exact ⟨fun L σ r h => (by cases h), fun L σ r h => (by cases h), fun L σ r h => (by cases h), fun L σ r h => (by cases h), fun L σ r h => (by cases h), fun L σ r h => (by cases h), fun L σ r h => (by cases h), fun L σ r h => (by cases h), fun L σ r h => (by cases h), fun L σ r h => (by cases h)⟩
    | succ k ih =>
      refine ⟨?_, ?_, ?_, ?_, ?_, ?_, ?_, ?_, ?_, ?_⟩
      · intro L σ r h H locs ls hP hD hS hl
        rw [x_bind] at h
        refine lv_aload_n hx hb dX12_bind_0 rfl (lv_at hl 0 rfl) ?_
        refine ng_15 hx hb hts in_x_bind hown hK hP (hts _ (List.mem_cons_of_mem _ (List.mem_append_left _ (List.mem_append_left _ (List.mem_of_getElem? (i := 0) rfl))))) dX12_bind_1 ?_
        refine lv_iload_n hx hb dX12_bind_4 rfl (lv_at hl 1 rfl) ?_
        obtain ⟨q1, h⟩ := nb_ite1 h
        refine nl_5 hx hb hK hP q1 dX12_bind_5 ?_
        refine lv_if_ne (tgt := 21) hx hb dX12_bind_6 (by decide) (fun c2 => ?_) (fun c2 => ?_)
        · rw [if_neg c2] at h
          exact ih.2.1 L σ r h H locs ls hP hD hS (lv_sub hl [0, 1, 2] rfl)
        · rw [if_pos c2] at h
          refine lv_aload_n hx hb dX12_bind_9 rfl (lv_at hl 0 rfl) ?_
          refine lv_aload_n hx hb dX12_bind_10 rfl (lv_at hl 0 rfl) ?_
          refine ng_16 hx hb hts in_x_bind hown hK hP (hts _ (List.mem_cons_of_mem _ (List.mem_append_left _ (List.mem_append_left _ (List.mem_of_getElem? (i := 1) rfl))))) dX12_bind_11 ?_
          refine lv_iload_n hx hb dX12_bind_14 rfl (lv_at hl 1 rfl) ?_
          obtain ⟨q3, h⟩ := nb_ite1 h
          refine nl_6 hx hb hK hP q3 dX12_bind_15 ?_
          refine lv_iload_n hx hb dX12_bind_16 rfl (lv_at hl 2 rfl) ?_
          obtain ⟨r4, hc4, h⟩ := ob_ex h
          refine nc_Vv (As := [.int (σ.2.2 6 ((L 1)).toNatClampNeg), .int (L 2)]) (rest := []) ⟨hx, hb, hml, hown, hts⟩ (c_x_bindOne l dC dI cy a k (upd (upd (fun _ => 0) 1 ((σ.2.2 6 ((L 1)).toNatClampNeg))) 2 ((L 2))) σ r4 hc4 H.size) (cwV 2 hts g_x_bind_bindOne_694 rfl rfl rfl hd_x_bindOne ⟨Nat.le_of_ble_eq_true rfl, Nat.le_of_ble_eq_true rfl⟩) hK hG hA hP hD hS rfl hl.1 rfl (Nat.le_of_ble_eq_true rfl) dX12_bind_17 ⟨Nat.le_refl _, Nat.le_refl _⟩ (fun H locs hP hD hS => ?_)
          cases h
          exact W.vret hx hb hr (fun t ht hW => ⟨⟨(), rfl, trivial, by rw [ht]; exact hP, va_K.moved hW.alike hK, hD⟩, hS.F ht⟩) hS.2.2 dX12_bind_20
      · intro L σ r h H locs ls hP hD hS hl
        rw [x_bind] at h
        refine lv_iconst (v := 0) hx hb dX12_bind_21 (by decide) ?_
        refine lv_istore_n (lv' := [(3, .int 0), (0, .ref (a 0)), (1, .int (L 1)), (2, .int (L 2))]) hx hb dX12_bind_22 rfl hl (by decide) rfl (fun ls hl => ?_)
        refine lv_aload_n hx hb dX12_bind_23 rfl (lv_at hl 1 rfl) ?_
        refine ng_16 hx hb hts in_x_bind hown hK hP (hts _ (List.mem_cons_of_mem _ (List.mem_append_left _ (List.mem_append_left _ (List.mem_of_getElem? (i := 1) rfl))))) dX12_bind_24 ?_
        refine lv_iload_n hx hb dX12_bind_27 rfl (lv_at hl 2 rfl) ?_
        obtain ⟨q1, h⟩ := nb_ite1 h
        refine nl_6 hx hb hK hP q1 dX12_bind_28 ?_
        refine lv_istore (lv' := [(4, .int (σ.2.2 6 ((L 1)).toNatClampNeg)), (3, .int 0), (0, .ref (a 0)), (1, .int (L 1)), (2, .int (L 2))]) hx hb dX12_bind_29 hl (by decide) rfl (fun ls hl => ?_)
        exact ih.2.2.1 (upd (upd L 3 0) 4 ((σ.2.2 6 ((L 1)).toNatClampNeg))) σ r h H locs ls hP hD hS (lv_sub hl [2, 3, 4, 1, 0] rfl)
      · intro L σ r h H locs ls hP hD hS hl
        rw [x_bind] at h
        refine lv_iload hx hb dX12_bind_31 (lv_at hl 4 rfl) ?_
        refine lv_iconst (v := (-1)) hx hb dX12_bind_33 (by decide) ?_
        refine lv_icmp_eq (tgt := 52) hx hb dX12_bind_34 (by decide) (fun c1 => ?_) (fun c1 => ?_)
        · rw [if_pos c1] at h
          exact ih.2.2.2.1 L σ r h H locs ls hP hD hS (lv_sub hl [0, 1, 2, 3, 4] rfl)
        · rw [if_neg c1] at h
          refine lv_iinc (v := ((L 3)) + 1) (lv' := [(3, .int (((L 3)) + 1)), (0, .ref (a 0)), (1, .int (L 1)), (2, .int (L 2)), (4, .int (L 4))]) hx hb dX12_bind_37 hl (k := 3) rfl rfl (by decide) rfl (fun ls hl => ?_)
          refine lv_aload_n hx hb dX12_bind_40 rfl (lv_at hl 1 rfl) ?_
          refine ng_19 hx hb hts in_x_bind hown hK hP (hts _ (List.mem_cons_of_mem _ (List.mem_append_left _ (List.mem_append_left _ (List.mem_of_getElem? (i := 6) rfl))))) dX12_bind_41 ?_
          refine lv_iload hx hb dX12_bind_44 (lv_at hl 4 rfl) ?_
          obtain ⟨q2, h⟩ := nb_ite1 h
          refine nl_9 hx hb hK hP q2 dX12_bind_46 ?_
          refine lv_istore (lv' := [(4, .int (σ.2.2 9 ((L 4)).toNatClampNeg)), (3, .int (((L 3)) + 1)), (0, .ref (a 0)), (1, .int (L 1)), (2, .int (L 2))]) hx hb dX12_bind_47 hl (by decide) rfl (fun ls hl => ?_)
          refine lv_goto (tgt := 31) hx hb dX12_bind_49 (by decide) ?_
          exact ih.2.2.1 (upd (upd L 3 (((L 3)) + 1)) 4 ((σ.2.2 9 ((L 4)).toNatClampNeg))) σ r h H locs ls hP hD hS (lv_sub hl [2, 3, 4, 1, 0] rfl)
      · intro L σ r h H locs ls hP hD hS hl
        rw [x_bind] at h
        refine lv_aload_n hx hb dX12_bind_52 rfl (lv_at hl 0 rfl) ?_
        refine lv_iload_n hx hb dX12_bind_53 rfl (lv_at hl 2 rfl) ?_
        obtain ⟨r1, hc1, h⟩ := ob_ex h
        refine nc_Vi (As := [.int (L 2)]) (rest := []) ⟨hx, hb, hml, hown, hts⟩ (c_x_kind l dC dI cy a k (upd (fun _ => 0) 1 ((L 2))) σ r1 hc1 H.size) (cwV 1 hts g_x_bind_kind_545 rfl rfl rfl hd_x_kind ⟨Nat.le_of_ble_eq_true rfl, Nat.le_of_ble_eq_true rfl⟩) hK hG hA hP hD hS rfl hl.1 rfl (Nat.le_of_ble_eq_true rfl) dX12_bind_54 ⟨Nat.le_refl _, Nat.le_refl _⟩ (fun H locs hP hD hS => ?_)
        refine lv_iconst (v := 5) hx hb dX12_bind_57 (by decide) ?_
        refine lv_icmp_ne (tgt := 73) hx hb dX12_bind_58 (by decide) (fun c2 => ?_) (fun c2 => ?_)
        · rw [if_neg c2] at h
          exact ih.2.2.2.2.1 L r1.2 r h H locs ls hP hD hS (lv_sub hl [0, 1, 2, 3, 4] rfl)
        · rw [if_pos c2] at h
          refine lv_aload_n hx hb dX12_bind_61 rfl (lv_at hl 0 rfl) ?_
          refine ng_53 hx hb hts in_x_bind hown hK hP (hts _ (List.mem_cons_of_mem _ (List.mem_append_left _ (List.mem_append_left _ (List.mem_of_getElem? (i := 10) rfl))))) dX12_bind_62 ?_
          refine lv_iload_n hx hb dX12_bind_65 rfl (lv_at hl 2 rfl) ?_
          refine lv_iconst (v := 1) hx hb dX12_bind_66 (by decide) ?_
          refine lv_iadd hx hb dX12_bind_67 ?_
          obtain ⟨q3, h⟩ := nb_ite1 h
          refine nl_28 hx hb hK hP q3 dX12_bind_68 ?_
          refine lv_iload_n hx hb dX12_bind_69 rfl (lv_at hl 3 rfl) ?_
          refine lv_icmp_le (tgt := 79) hx hb dX12_bind_70 (by decide) (fun c4 => ?_) (fun c4 => ?_)
          · rw [if_pos c4] at h
            exact ih.2.2.2.2.2.1 L r1.2 r h H locs ls hP hD hS (lv_sub hl [0, 1, 2, 3, 4] rfl)
          · rw [if_neg c4] at h
            exact ih.2.2.2.2.1 L r1.2 r h H locs ls hP hD hS (lv_sub hl [0, 1, 2, 3, 4] rfl)
      · intro L σ r h H locs ls hP hD hS hl
        rw [x_bind] at h
        refine lv_aload_n hx hb dX12_bind_73 rfl (lv_at hl 0 rfl) ?_
        refine lv_iconst (v := 1) hx hb dX12_bind_74 (by decide) ?_
        obtain ⟨r1, hc1, h⟩ := ob_ex h
        refine nc_Vv (As := [.int 1]) (rest := []) ⟨hx, hb, hml, hown, hts⟩ (c_x_fail l dC dI cy a k (upd (fun _ => 0) 1 1) σ r1 hc1 H.size) (cwV 1 hts g_x_bind_fail_369 rfl rfl rfl hd_x_fail ⟨Nat.le_of_ble_eq_true rfl, Nat.le_of_ble_eq_true rfl⟩) hK hG hA hP hD hS rfl hl.1 rfl (Nat.le_of_ble_eq_true rfl) dX12_bind_75 ⟨Nat.le_refl _, Nat.le_refl _⟩ (fun H locs hP hD hS => ?_)
        cases h
        exact W.vret hx hb hr (fun t ht hW => ⟨⟨(), rfl, trivial, by rw [ht]; exact hP, va_K.moved hW.alike hK, hD⟩, hS.F ht⟩) hS.2.2 dX12_bind_78
      · intro L σ r h H locs ls hP hD hS hl
        rw [x_bind] at h
        refine lv_iconst (v := 0) hx hb dX12_bind_79 (by decide) ?_
        refine lv_istore (lv' := [(4, .int 0), (0, .ref (a 0)), (1, .int (L 1)), (2, .int (L 2)), (3, .int (L 3))]) hx hb dX12_bind_80 hl (by decide) rfl (fun ls hl => ?_)
        refine lv_aload_n hx hb dX12_bind_82 rfl (lv_at hl 1 rfl) ?_
        refine ng_16 hx hb hts in_x_bind hown hK hP (hts _ (List.mem_cons_of_mem _ (List.mem_append_left _ (List.mem_append_left _ (List.mem_of_getElem? (i := 1) rfl))))) dX12_bind_83 ?_
        refine lv_iload_n hx hb dX12_bind_86 rfl (lv_at hl 2 rfl) ?_
        obtain ⟨q1, h⟩ := nb_ite1 h
        refine nl_6 hx hb hK hP q1 dX12_bind_87 ?_
        refine lv_istore (lv' := [(5, .int (σ.2.2 6 ((L 1)).toNatClampNeg)), (4, .int 0), (0, .ref (a 0)), (1, .int (L 1)), (2, .int (L 2)), (3, .int (L 3))]) hx hb dX12_bind_88 hl (by decide) rfl (fun ls hl => ?_)
        exact ih.2.2.2.2.2.2.1 (upd (upd L 4 0) 5 ((σ.2.2 6 ((L 1)).toNatClampNeg))) σ r h H locs ls hP hD hS (lv_sub hl [2, 3, 4, 5, 1, 0] rfl)
      · intro L σ r h H locs ls hP hD hS hl
        rw [x_bind] at h
        refine lv_iload hx hb dX12_bind_90 (lv_at hl 5 rfl) ?_
        refine lv_iconst (v := (-1)) hx hb dX12_bind_92 (by decide) ?_
        refine lv_icmp_eq (tgt := 145) hx hb dX12_bind_93 (by decide) (fun c1 => ?_) (fun c1 => ?_)
        · rw [if_pos c1] at h
          exact ih.2.2.2.2.2.2.2.2.2 L σ r h H locs ls hP hD hS (lv_sub hl [0, 1, 2, 3, 4, 5] rfl)
        · rw [if_neg c1] at h
          refine lv_aload_n hx hb dX12_bind_96 rfl (lv_at hl 0 rfl) ?_
          refine lv_iload hx hb dX12_bind_97 (lv_at hl 5 rfl) ?_
          refine lv_iload hx hb dX12_bind_99 (lv_at hl 4 rfl) ?_
          refine lv_aload_n hx hb dX12_bind_101 rfl (lv_at hl 0 rfl) ?_
          refine ng_53 hx hb hts in_x_bind hown hK hP (hts _ (List.mem_cons_of_mem _ (List.mem_append_left _ (List.mem_append_left _ (List.mem_of_getElem? (i := 10) rfl))))) dX12_bind_102 ?_
          refine lv_iload_n hx hb dX12_bind_105 rfl (lv_at hl 2 rfl) ?_
          refine lv_iconst (v := 1) hx hb dX12_bind_106 (by decide) ?_
          refine lv_iadd hx hb dX12_bind_107 ?_
          obtain ⟨q2, h⟩ := nb_ite1 h
          refine nl_28 hx hb hK hP q2 dX12_bind_108 ?_
          refine lv_icmp_ge (tgt := 126) hx hb dX12_bind_109 (by decide) (fun c3 => ?_) (fun c3 => ?_)
          · rw [if_pos c3] at h
            exact ih.2.2.2.2.2.2.2.1 (upd L 100 ((L 5))) σ r h H locs ls hP hD hS (lv_sub hl [0, 1, 2, 3, 4, 5] rfl)
          · rw [if_neg c3] at h
            refine lv_aload_n hx hb dX12_bind_112 rfl (lv_at hl 0 rfl) ?_
            refine ng_53 hx hb hts in_x_bind hown hK hP (hts _ (List.mem_cons_of_mem _ (List.mem_append_left _ (List.mem_append_left _ (List.mem_of_getElem? (i := 10) rfl))))) dX12_bind_113 ?_
            refine lv_iload_n hx hb dX12_bind_116 rfl (lv_at hl 2 rfl) ?_
            refine lv_iconst (v := 4) hx hb dX12_bind_117 (by decide) ?_
            refine lv_iadd hx hb dX12_bind_118 ?_
            refine lv_iload hx hb dX12_bind_119 (lv_at hl 4 rfl) ?_
            refine lv_iadd hx hb dX12_bind_121 ?_
            obtain ⟨q4, h⟩ := nb_ite1 h
            refine nl_28 hx hb hK hP q4 dX12_bind_122 ?_
            refine lv_goto (tgt := 127) hx hb dX12_bind_123 (by decide) ?_
            exact ih.2.2.2.2.2.2.2.2.1 (upd (upd L 100 ((σ.2.2 28 ((((((L 2)) + 4)) + ((L 4)))).toNatClampNeg))) 101 ((L 5))) σ r h H locs ls hP hD hS (lv_sub hl [0, 1, 2, 3, 4, 5] rfl)
      · intro L σ r h H locs ls hP hD hS hl
        rw [x_bind] at h
        refine lv_iconst (v := 0) hx hb dX12_bind_126 (by decide) ?_
        exact ih.2.2.2.2.2.2.2.2.1 (upd (upd L 100 0) 101 ((L 100))) σ r h H locs ls hP hD hS (lv_sub hl [0, 1, 2, 3, 4, 5] rfl)
      · intro L σ r h H locs ls hP hD hS hl
        rw [x_bind] at h
        obtain ⟨r1, hc1, h⟩ := ob_ex h
        refine nc_Vv (As := [.int (L 101), .int (L 100)]) (rest := []) ⟨hx, hb, hml, hown, hts⟩ (c_x_bindOne l dC dI cy a k (upd (upd (fun _ => 0) 1 ((L 101))) 2 ((L 100))) σ r1 hc1 H.size) (cwV 2 hts g_x_bind_bindOne_694 rfl rfl rfl hd_x_bindOne ⟨Nat.le_of_ble_eq_true rfl, Nat.le_of_ble_eq_true rfl⟩) hK hG hA hP hD hS rfl hl.1 rfl (Nat.le_of_ble_eq_true rfl) dX12_bind_127 ⟨Nat.le_refl _, Nat.le_refl _⟩ (fun H locs hP hD hS => ?_)
        refine lv_iinc (v := ((L 4)) + 1) (lv' := [(4, .int (((L 4)) + 1)), (0, .ref (a 0)), (1, .int (L 1)), (2, .int (L 2)), (3, .int (L 3)), (5, .int (L 5))]) hx hb dX12_bind_130 hl (k := 4) rfl rfl (by decide) rfl (fun ls hl => ?_)
        refine lv_aload_n hx hb dX12_bind_133 rfl (lv_at hl 1 rfl) ?_
        refine ng_19 hx hb hts in_x_bind hown hK hP (hts _ (List.mem_cons_of_mem _ (List.mem_append_left _ (List.mem_append_left _ (List.mem_of_getElem? (i := 6) rfl))))) dX12_bind_134 ?_
        refine lv_iload hx hb dX12_bind_137 (lv_at hl 5 rfl) ?_
        obtain ⟨q2, h⟩ := nb_ite1 h
        refine nl_9 hx hb hK hP q2 dX12_bind_139 ?_
        refine lv_istore (lv' := [(5, .int (r1.2.2.2 9 ((L 5)).toNatClampNeg)), (4, .int (((L 4)) + 1)), (0, .ref (a 0)), (1, .int (L 1)), (2, .int (L 2)), (3, .int (L 3))]) hx hb dX12_bind_140 hl (by decide) rfl (fun ls hl => ?_)
        refine lv_goto (tgt := 90) hx hb dX12_bind_142 (by decide) ?_
        exact ih.2.2.2.2.2.2.1 (upd (upd L 4 (((L 4)) + 1)) 5 ((r1.2.2.2 9 ((L 5)).toNatClampNeg))) r1.2 r h H locs ls hP hD hS (lv_sub hl [2, 3, 4, 5, 1, 0] rfl)
      · intro L σ r h H locs ls hP hD hS hl
        rw [x_bind] at h
        cases h
        exact W.vret hx hb hr (fun t ht hW => ⟨⟨(), rfl, trivial, by rw [ht]; exact hP, va_K.moved hW.alike hK, hD⟩, hS.F ht⟩) hS.2.2 dX12_bind_145
  exact (blk k0).1 L0 σ0 r0 h0 s.heap [] ls hP hD hS hl
/-! memberAt -/
def x_memberAt : Nat → Nat → (Nat → Int32) → MS → Option (Int32 × MS)
  | 0, _, _, _ => none
  | k + 1, 0, L, σ => if ¬ (((L 1)) < 0 ∨ 1740000 ≤ ((L 1)).toNatClampNeg) then (if ((σ.2.2 28 ((L 1)).toNatClampNeg)) = 4 then (if ¬ (((((((L 1)) + 4)) + ((L 2)))) < 0 ∨ 1740000 ≤ ((((((L 1)) + 4)) + ((L 2)))).toNatClampNeg) then (ob (x_byteString k 0 (upd (fun _ => 0) 1 ((σ.2.2 28 ((((((L 1)) + 4)) + ((L 2)))).toNatClampNeg))) σ) (fun r4 => x_memberAt k 2 (upd L 100 r4.1) r4.2)) else none) else (x_memberAt k 1 L σ)) else none
  | k + 1, 1, L, σ => if ¬ (((((((L 1)) + 4)) + ((L 2)))) < 0 ∨ 1740000 ≤ ((((((L 1)) + 4)) + ((L 2)))).toNatClampNeg) then (x_memberAt k 2 (upd L 100 ((σ.2.2 28 ((((((L 1)) + 4)) + ((L 2)))).toNatClampNeg))) σ) else none
  | k + 1, 2, L, σ => some ((L 100), σ)
  | _ + 1, _ + 3, _, _ => none
def o_x_memberAt : List Cond := [.fieldLink RX12 372 "SetHouseModel" "heap" "[I", .methodLink RX12 691 yX12_byteString, .instanceMethod yX12_byteString, .selects RX12 yX12_byteString yX12_byteString, .initialized RX12]
theorem o_x_memberAt_good : o_x_memberAt.all goodWord = true := by decide +kernel
def p_x_memberAt : List Cond := o_x_memberAt ++ ((.code yX12_byteString cX12_byteString 3 (some .int) :: p_x_byteString) ++ [])
theorem p_x_memberAt_good : p_x_memberAt.all goodWord = true := nb_all2 o_x_memberAt_good (nb_all2 (nb_allc (by decide +kernel) p_x_byteString_good) rfl)
def w_x_memberAt : List Cond := .code yX12_memberAt cX12_memberAt 3 (some .int) :: (p_x_memberAt ++ fM)
theorem w_x_memberAt_good : w_x_memberAt.all goodWord = true := nb_allc (by decide +kernel) (nb_all2 p_x_memberAt_good fM_good)
theorem in_x_memberAt : ∀ w ∈ wsX120, w ∈ w_x_memberAt := fun _ h => List.mem_cons_of_mem _ (List.mem_append_right _ h)
theorem hd_x_memberAt : yX12_memberAt.cls = RX12 ∧ yX12_memberAt.cls ≠ "java/lang/invoke/MethodHandle" ∧ yX12_memberAt.cls ≠ "java/lang/invoke/VarHandle" ∧ (parseMethodDescriptor yX12_memberAt.desc).map (fun d => d.parameters.length) = some 2 := by decide +kernel
theorem gg_x_memberAt_byteString : GoodIn w_x_memberAt w_x_byteString := goodIn_sub (fun w h => (List.mem_cons.mp h).elim (fun e => (List.mem_cons_of_mem _ (List.mem_append_left _ (List.mem_append_right _ (List.mem_append_left _ (List.mem_cons.mpr (Or.inl e))))))) (fun h => (List.mem_append.mp h).elim (fun h => (List.mem_cons_of_mem _ (List.mem_append_left _ (List.mem_append_right _ (List.mem_append_left _ (List.mem_cons_of_mem _ h)))))) (fun h => List.mem_cons_of_mem _ (List.mem_append_right _ h)))) w_x_byteString_good
theorem g_x_memberAt_byteString_691 : GoodIn w_x_memberAt (wsV RX12 691 RX12 yX12_byteString w_x_byteString) := goodIn_app (nb_g4 (List.mem_cons_of_mem _ (List.mem_append_left _ (List.mem_append_left _ (List.mem_of_getElem? (i := 1) rfl)))) (List.mem_cons_of_mem _ (List.mem_append_left _ (List.mem_append_left _ (List.mem_of_getElem? (i := 2) rfl)))) (List.mem_cons_of_mem _ (List.mem_append_left _ (List.mem_append_left _ (List.mem_of_getElem? (i := 3) rfl)))) (List.mem_cons_of_mem _ (List.mem_append_left _ (List.mem_append_left _ (List.mem_of_getElem? (i := 4) rfl)))) (by decide +kernel)) gg_x_memberAt_byteString
set_option maxHeartbeats 40000000 in
set_option maxRecDepth 100000 in
theorem c_x_memberAt (l : Launch) (dC : Nat → ClassId) (dI : Nat → Nat → Nat) (cy : Nat → ClassId) (a : Nat → Nat) (k0 : Nat) (L0 : Nat → Int32) (σ0 : MS) (r0 : Int32 × MS) (h0 : x_memberAt k0 0 L0 σ0 = some r0) (sz : Nat) : Met l yX12_memberAt w_x_memberAt ({ frames := 3, cells := 0, slots := 0, locals := 66 }) (va_Pc [.ref (a 0), .int (L0 1), .int (L0 2)] (nIn (dC, dI) cy sz (vM cy a σ0))) (va_Qi (fun (z : Int32) (_ : Unit) => z = r0.1) (fun _ t => nOut (dC, dI) cy (va_A (vM cy a σ0) sz) (vM cy a r0.2) t) (va_A (vM cy a σ0) sz)) 0 0 (va_A (vM cy a σ0) sz) := by
  refine Met.ofW (cc := cX12_memberAt) (maxL := 3) (ret := (some .int)) (by decide) rfl ?_
  intro p e s m args below meth c s₁ B hml hv
  obtain ⟨rfl, hsz, hP, hK, hD0, hG⟩ := hv
  have hx := B.exec
  have hb := B.bytes
  have hr := B.returns
  have hts := atoms_spec (ws := w_x_memberAt) B.pre
  have hown : s.vm.findClass RX12 = some m.cls := findClass_of_methodNamed B.named
  have hlocks := B.notSynchronized
  subst hsz
  have hD := hD0.self (sz := s.heap.size)
  generalize hAe : va_A (vM cy a σ0) s.heap.size = A at hD ⊢
  have hA : ∀ q : Nat, s.heap.size ≤ q → A q := fun q h => by rw [← hAe]; exact Or.inr h
  have hS : va_S A s.heap s.heap [] := va_S.rf
  have hl := lv_entry ([.ref (a 0), .int (L0 1), .int (L0 2)]) (n := 3) (Nat.le_of_ble_eq_true rfl)
  rw [lg_entry_eq]
  generalize (lg_sl ([.ref (a 0), .int (L0 1), .int (L0 2)]) ++ List.replicate (3 - (lg_sl ([.ref (a 0), .int (L0 1), .int (L0 2)])).length) Slot.unset).toArray = ls at hl ⊢
  have hl : lv_has ls 3 [(0, .ref (a 0)), (1, .int (L0 1)), (2, .int (L0 2))] := hl
  have blk : ∀ k : Nat, (bT p l e (headSpec w_x_memberAt ({ frames := 3, cells := 0, slots := 0, locals := 66 })).room s m #[.ref (a 0), .int (L0 1), .int (L0 2)] below meth c dC dI cy a A (qI dC dI cy a A below #[.ref (a 0), .int (L0 1), .int (L0 2)] s) 3 (x_memberAt k 0) (fun L => [(0, .ref (a 0)), (1, .int (L 1)), (2, .int (L 2))]) 0 (fun L => [])) ∧ (bT p l e (headSpec w_x_memberAt ({ frames := 3, cells := 0, slots := 0, locals := 66 })).room s m #[.ref (a 0), .int (L0 1), .int (L0 2)] below meth c dC dI cy a A (qI dC dI cy a A below #[.ref (a 0), .int (L0 1), .int (L0 2)] s) 3 (x_memberAt k 1) (fun L => [(0, .ref (a 0)), (1, .int (L 1)), (2, .int (L 2))]) 27 (fun L => [])) ∧ (bT p l e (headSpec w_x_memberAt ({ frames := 3, cells := 0, slots := 0, locals := 66 })).room s m #[.ref (a 0), .int (L0 1), .int (L0 2)] below meth c dC dI cy a A (qI dC dI cy a A below #[.ref (a 0), .int (L0 1), .int (L0 2)] s) 3 (x_memberAt k 2) (fun L => [(0, .ref (a 0)), (1, .int (L 1)), (2, .int (L 2))]) 37 (fun L => [.int (L 100)])) := by
    intro k
    induction k with
    | zero => exact ⟨fun L σ r h => (by cases h), fun L σ r h => (by cases h), fun L σ r h => (by cases h)⟩
    | succ k ih =>
      refine ⟨?_, ?_, ?_⟩
      · intro L σ r h H locs ls hP hD hS hl
        rw [x_memberAt] at h
        refine lv_aload_n hx hb dX12_memberAt_0 rfl (lv_at hl 0 rfl) ?_
        refine ng_53 hx hb hts in_x_memberAt hown hK hP (hts _ (List.mem_cons_of_mem _ (List.mem_append_left _ (List.mem_append_left _ (List.mem_of_getElem? (i := 0) rfl))))) dX12_memberAt_1 ?_
        refine lv_iload_n hx hb dX12_memberAt_4 rfl (lv_at hl 1 rfl) ?_
        obtain ⟨q1, h⟩ := nb_ite1 h
        refine nl_28 hx hb hK hP q1 dX12_memberAt_5 ?_
        refine lv_iconst (v := 4) hx hb dX12_memberAt_6 (by decide) ?_
        refine lv_icmp_ne (tgt := 27) hx hb dX12_memberAt_7 (by decide) (fun c2 => ?_) (fun c2 => ?_)
        · rw [if_neg c2] at h
          exact ih.2.1 L σ r h H locs ls hP hD hS (lv_sub hl [0, 1, 2] rfl)
        · rw [if_pos c2] at h
          refine lv_aload_n hx hb dX12_memberAt_10 rfl (lv_at hl 0 rfl) ?_
          refine lv_aload_n hx hb dX12_memberAt_11 rfl (lv_at hl 0 rfl) ?_
          refine ng_53 hx hb hts in_x_memberAt hown hK hP (hts _ (List.mem_cons_of_mem _ (List.mem_append_left _ (List.mem_append_left _ (List.mem_of_getElem? (i := 0) rfl))))) dX12_memberAt_12 ?_
          refine lv_iload_n hx hb dX12_memberAt_15 rfl (lv_at hl 1 rfl) ?_
          refine lv_iconst (v := 4) hx hb dX12_memberAt_16 (by decide) ?_
          refine lv_iadd hx hb dX12_memberAt_17 ?_
          refine lv_iload_n hx hb dX12_memberAt_18 rfl (lv_at hl 2 rfl) ?_
          refine lv_iadd hx hb dX12_memberAt_19 ?_
          obtain ⟨q3, h⟩ := nb_ite1 h
          refine nl_28 hx hb hK hP q3 dX12_memberAt_20 ?_
          obtain ⟨r4, hc4, h⟩ := ob_ex h
          refine nc_Vi (As := [.int (σ.2.2 28 ((((((L 1)) + 4)) + ((L 2)))).toNatClampNeg)]) (rest := []) ⟨hx, hb, hml, hown, hts⟩ (c_x_byteString l dC dI cy a k (upd (fun _ => 0) 1 ((σ.2.2 28 ((((((L 1)) + 4)) + ((L 2)))).toNatClampNeg))) σ r4 hc4 H.size) (cwV 1 hts g_x_memberAt_byteString_691 rfl rfl rfl hd_x_byteString ⟨Nat.le_of_ble_eq_true rfl, Nat.le_of_ble_eq_true rfl⟩) hK hG hA hP hD hS rfl hl.1 rfl (Nat.le_of_ble_eq_true rfl) dX12_memberAt_21 ⟨Nat.le_refl _, Nat.le_refl _⟩ (fun H locs hP hD hS => ?_)
          refine lv_goto (tgt := 37) hx hb dX12_memberAt_24 (by decide) ?_
          exact ih.2.2 (upd L 100 r4.1) r4.2 r h H locs ls hP hD hS (lv_sub hl [0, 1, 2] rfl)
      · intro L σ r h H locs ls hP hD hS hl
        rw [x_memberAt] at h
        refine lv_aload_n hx hb dX12_memberAt_27 rfl (lv_at hl 0 rfl) ?_
        refine ng_53 hx hb hts in_x_memberAt hown hK hP (hts _ (List.mem_cons_of_mem _ (List.mem_append_left _ (List.mem_append_left _ (List.mem_of_getElem? (i := 0) rfl))))) dX12_memberAt_28 ?_
        refine lv_iload_n hx hb dX12_memberAt_31 rfl (lv_at hl 1 rfl) ?_
        refine lv_iconst (v := 4) hx hb dX12_memberAt_32 (by decide) ?_
        refine lv_iadd hx hb dX12_memberAt_33 ?_
        refine lv_iload_n hx hb dX12_memberAt_34 rfl (lv_at hl 2 rfl) ?_
        refine lv_iadd hx hb dX12_memberAt_35 ?_
        obtain ⟨q1, h⟩ := nb_ite1 h
        refine nl_28 hx hb hK hP q1 dX12_memberAt_36 ?_
        exact ih.2.2 (upd L 100 ((σ.2.2 28 ((((((L 1)) + 4)) + ((L 2)))).toNatClampNeg))) σ r h H locs ls hP hD hS (lv_sub hl [0, 1, 2] rfl)
      · intro L σ r h H locs ls hP hD hS hl
        rw [x_memberAt] at h
        cases h
        exact W.iret (v := (L 100)) hx hb hr (fun t ht hW => ⟨⟨(L 100), (), rfl, rfl, by rw [ht]; exact hP, va_K.moved hW.alike hK, hD⟩, hS.F ht⟩) hS.2.2 dX12_memberAt_37
  exact (blk k0).1 L0 σ0 r0 h0 s.heap [] ls hP hD hS hl

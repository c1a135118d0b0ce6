/-! fail -/
def x_fail : Nat → Nat → (Nat → Int32) → MS → Option (Int32 × MS)
  | 0, _, _, _ => none
  | k + 1, 0, L, σ => if ((σ.1 56)) = 0 then (x_fail k 2 (upd L 100 ((L 1))) σ) else (x_fail k 1 L σ)
  | k + 1, 1, L, σ => x_fail k 2 (upd L 100 ((σ.1 56))) σ
  | k + 1, 2, L, σ => some (0, (upd σ.1 56 ((L 100)), σ.2.1, σ.2.2))
  | _ + 1, _ + 3, _, _ => none
def o_x_fail : List Cond := [.fieldLink RX12 362 "SetHouseModel" "err" "I"]
theorem o_x_fail_good : o_x_fail.all goodWord = true := by decide +kernel
def p_x_fail : List Cond := o_x_fail ++ []
theorem p_x_fail_good : p_x_fail.all goodWord = true := nb_all2 o_x_fail_good rfl
def w_x_fail : List Cond := .code yX12_fail cX12_fail 2 none :: (p_x_fail ++ fM)
theorem w_x_fail_good : w_x_fail.all goodWord = true := nb_allc (by decide +kernel) (nb_all2 p_x_fail_good fM_good)
theorem in_x_fail : ∀ w ∈ wsX120, w ∈ w_x_fail := fun _ h => List.mem_cons_of_mem _ (List.mem_append_right _ h)
theorem hd_x_fail : yX12_fail.cls = RX12 ∧ yX12_fail.cls ≠ "java/lang/invoke/MethodHandle" ∧ yX12_fail.cls ≠ "java/lang/invoke/VarHandle" ∧ (parseMethodDescriptor yX12_fail.desc).map (fun d => d.parameters.length) = some 1 := by decide +kernel
set_option maxHeartbeats 40000000 in
set_option maxRecDepth 100000 in
theorem c_x_fail (l : Launch) (dC : Nat → ClassId) (dI : Nat → Nat → Nat) (cy : Nat → ClassId) (a : Nat → Nat) (k0 : Nat) (L0 : Nat → Int32) (σ0 : MS) (r0 : Int32 × MS) (h0 : x_fail k0 0 L0 σ0 = some r0) (sz : Nat) : Met l yX12_fail w_x_fail ({ frames := 0, cells := 0, slots := 0, locals := 0 }) (va_Pc [.ref (a 0), .int (L0 1)] (nIn (dC, dI) cy sz (vM cy a σ0))) (va_Qv (fun _ : Unit => True) (fun _ t => nOut (dC, dI) cy (va_A (vM cy a σ0) sz) (vM cy a r0.2) t) (va_A (vM cy a σ0) sz)) 0 0 (va_A (vM cy a σ0) sz) := by
  refine Met.ofW (cc := cX12_fail) (maxL := 2) (ret := none) (by decide) rfl ?_
  intro p e s m args below meth c s₁ B hml hv
  obtain ⟨rfl, hsz, hP, hK, hD0, hG⟩ := hv
  have hx := B.exec
  have hb := B.bytes
  have hr := B.returns
  have hts := atoms_spec (ws := w_x_fail) B.pre
  have hown : s.vm.findClass RX12 = some m.cls := findClass_of_methodNamed B.named
  have hlocks := B.notSynchronized
  subst hsz
  have hD := hD0.self (sz := s.heap.size)
  generalize hAe : va_A (vM cy a σ0) s.heap.size = A at hD ⊢
  have hA : ∀ q : Nat, s.heap.size ≤ q → A q := fun q h => by rw [← hAe]; exact Or.inr h
  have hS : va_S A s.heap s.heap [] := va_S.rf
  have hl := lv_entry ([.ref (a 0), .int (L0 1)]) (n := 2) (Nat.le_of_ble_eq_true rfl)
  rw [lg_entry_eq]
  generalize (lg_sl ([.ref (a 0), .int (L0 1)]) ++ List.replicate (2 - (lg_sl ([.ref (a 0), .int (L0 1)])).length) Slot.unset).toArray = ls at hl ⊢
  have hl : lv_has ls 2 [(0, .ref (a 0)), (1, .int (L0 1))] := hl
  have blk : ∀ k : Nat, (bT p l e (headSpec w_x_fail ({ frames := 0, cells := 0, slots := 0, locals := 0 })).room s m #[.ref (a 0), .int (L0 1)] below meth c dC dI cy a A (qV dC dI cy a A below #[.ref (a 0), .int (L0 1)] s) 2 (x_fail k 0) (fun L => [(0, .ref (a 0)), (1, .int (L 1))]) 0 (fun L => [])) ∧ (bT p l e (headSpec w_x_fail ({ frames := 0, cells := 0, slots := 0, locals := 0 })).room s m #[.ref (a 0), .int (L0 1)] below meth c dC dI cy a A (qV dC dI cy a A below #[.ref (a 0), .int (L0 1)] s) 2 (x_fail k 1) (fun L => [(0, .ref (a 0)), (1, .int (L 1))]) 12 (fun L => [.ref (a 0)])) ∧ (bT p l e (headSpec w_x_fail ({ frames := 0, cells := 0, slots := 0, locals := 0 })).room s m #[.ref (a 0), .int (L0 1)] below meth c dC dI cy a A (qV dC dI cy a A below #[.ref (a 0), .int (L0 1)] s) 2 (x_fail k 2) (fun L => [(0, .ref (a 0)), (1, .int (L 1))]) 16 (fun L => [.int (L 100), .ref (a 0)])) := by
    intro k
    induction k with
    | zero => exact ⟨fun L σ r h => (by cases h), fun L σ r h => (by cases h), fun L σ r h => (by cases h)⟩
    | succ k ih =>
      refine ⟨?_, ?_, ?_⟩
      · intro L σ r h H locs ls hP hD hS hl
        rw [x_fail] at h
        refine lv_aload_n hx hb dX12_fail_0 rfl (lv_at hl 0 rfl) ?_
        refine lv_aload_n hx hb dX12_fail_1 rfl (lv_at hl 0 rfl) ?_
        refine ng_56 hx hb hts in_x_fail hown hK hP (hts _ (List.mem_cons_of_mem _ (List.mem_append_left _ (List.mem_append_left _ (List.mem_of_getElem? (i := 0) rfl))))) dX12_fail_2 ?_
        refine lv_if_ne (tgt := 12) hx hb dX12_fail_5 (by decide) (fun c1 => ?_) (fun c1 => ?_)
        · rw [if_neg c1] at h
          exact ih.2.1 L σ r h H locs ls hP hD hS (lv_sub hl [0, 1] rfl)
        · rw [if_pos c1] at h
          refine lv_iload_n hx hb dX12_fail_8 rfl (lv_at hl 1 rfl) ?_
          refine lv_goto (tgt := 16) hx hb dX12_fail_9 (by decide) ?_
          exact ih.2.2 (upd L 100 ((L 1))) σ r h H locs ls hP hD hS (lv_sub hl [0, 1] rfl)
      · intro L σ r h H locs ls hP hD hS hl
        rw [x_fail] at h
        refine lv_aload_n hx hb dX12_fail_12 rfl (lv_at hl 0 rfl) ?_
        refine ng_56 hx hb hts in_x_fail hown hK hP (hts _ (List.mem_cons_of_mem _ (List.mem_append_left _ (List.mem_append_left _ (List.mem_of_getElem? (i := 0) rfl))))) dX12_fail_13 ?_
        exact ih.2.2 (upd L 100 ((σ.1 56))) σ r h H locs ls hP hD hS (lv_sub hl [0, 1] rfl)
      · intro L σ r h H locs ls hP hD hS hl
        rw [x_fail] at h
        refine np_56 hx hb hts in_x_fail hown hK hP hD hS (hts _ (List.mem_cons_of_mem _ (List.mem_append_left _ (List.mem_append_left _ (List.mem_of_getElem? (i := 0) rfl))))) dX12_fail_16 (fun H locs hP hD hS => ?_)
        cases h
        exact W.vret hx hb hr (fun t ht hW => ⟨⟨(), rfl, trivial, by rw [ht]; exact hP, va_K.moved hW.alike hK, hD⟩, hS.F ht⟩) hS.2.2 dX12_fail_19
  exact (blk k0).1 L0 σ0 r0 h0 s.heap [] ls hP hD hS hl
/-! worked -/
def x_worked : Nat → Nat → (Nat → Int32) → MS → Option (Int32 × MS)
  | 0, _, _, _ => none
  | k + 1, 0, L, σ => x_worked k 1 L (upd σ.1 57 ((((σ.1 57)) + ((L 1)))), σ.2.1, σ.2.2)
  | k + 1, 1, L, σ => if ((σ.1 57)) ≤ 60000 then (x_worked k 2 L σ) else (ob (x_fail k 0 (upd (fun _ => 0) 1 11) σ) (fun r2 => x_worked k 2 L r2.2))
  | k + 1, 2, L, σ => some (0, σ)
  | _ + 1, _ + 3, _, _ => none
def o_x_worked : List Cond := [.fieldLink RX12 365 "SetHouseModel" "work" "I", .constant RX12 368 (60000), .methodLink RX12 369 yX12_fail, .instanceMethod yX12_fail, .selects RX12 yX12_fail yX12_fail, .initialized RX12]
theorem o_x_worked_good : o_x_worked.all goodWord = true := by decide +kernel
def p_x_worked : List Cond := o_x_worked ++ ((.code yX12_fail cX12_fail 2 none :: p_x_fail) ++ [])
theorem p_x_worked_good : p_x_worked.all goodWord = true := nb_all2 o_x_worked_good (nb_all2 (nb_allc (by decide +kernel) p_x_fail_good) rfl)
def w_x_worked : List Cond := .code yX12_worked cX12_worked 2 none :: (p_x_worked ++ fM)
theorem w_x_worked_good : w_x_worked.all goodWord = true := nb_allc (by decide +kernel) (nb_all2 p_x_worked_good fM_good)
theorem in_x_worked : ∀ w ∈ wsX120, w ∈ w_x_worked := fun _ h => List.mem_cons_of_mem _ (List.mem_append_right _ h)
theorem hd_x_worked : yX12_worked.cls = RX12 ∧ yX12_worked.cls ≠ "java/lang/invoke/MethodHandle" ∧ yX12_worked.cls ≠ "java/lang/invoke/VarHandle" ∧ (parseMethodDescriptor yX12_worked.desc).map (fun d => d.parameters.length) = some 1 := by decide +kernel
theorem gg_x_worked_fail : GoodIn w_x_worked w_x_fail := goodIn_sub (fun w h => (List.mem_cons.mp h).elim (fun e => (List.mem_cons_of_mem _ (List.mem_append_left _ (List.mem_append_right _ (List.mem_append_left _ (List.mem_cons.mpr (Or.inl e))))))) (fun h => (List.mem_append.mp h).elim (fun h => (List.mem_cons_of_mem _ (List.mem_append_left _ (List.mem_append_right _ (List.mem_append_left _ (List.mem_cons_of_mem _ h)))))) (fun h => List.mem_cons_of_mem _ (List.mem_append_right _ h)))) w_x_fail_good
theorem g_x_worked_fail_369 : GoodIn w_x_worked (wsV RX12 369 RX12 yX12_fail w_x_fail) := goodIn_app (nb_g4 (List.mem_cons_of_mem _ (List.mem_append_left _ (List.mem_append_left _ (List.mem_of_getElem? (i := 2) rfl)))) (List.mem_cons_of_mem _ (List.mem_append_left _ (List.mem_append_left _ (List.mem_of_getElem? (i := 3) rfl)))) (List.mem_cons_of_mem _ (List.mem_append_left _ (List.mem_append_left _ (List.mem_of_getElem? (i := 4) rfl)))) (List.mem_cons_of_mem _ (List.mem_append_left _ (List.mem_append_left _ (List.mem_of_getElem? (i := 5) rfl)))) (by decide +kernel)) gg_x_worked_fail
set_option maxHeartbeats 40000000 in
set_option maxRecDepth 100000 in
theorem c_x_worked (l : Launch) (dC : Nat → ClassId) (dI : Nat → Nat → Nat) (cy : Nat → ClassId) (a : Nat → Nat) (k0 : Nat) (L0 : Nat → Int32) (σ0 : MS) (r0 : Int32 × MS) (h0 : x_worked k0 0 L0 σ0 = some r0) (sz : Nat) : Met l yX12_worked w_x_worked ({ frames := 1, cells := 0, slots := 0, locals := 21 }) (va_Pc [.ref (a 0), .int (L0 1)] (nIn (dC, dI) cy sz (vM cy a σ0))) (va_Qv (fun _ : Unit => True) (fun _ t => nOut (dC, dI) cy (va_A (vM cy a σ0) sz) (vM cy a r0.2) t) (va_A (vM cy a σ0) sz)) 0 0 (va_A (vM cy a σ0) sz) := by
  refine Met.ofW (cc := cX12_worked) (maxL := 2) (ret := none) (by decide) rfl ?_
  intro p e s m args below meth c s₁ B hml hv
  obtain ⟨rfl, hsz, hP, hK, hD0, hG⟩ := hv
  have hx := B.exec
  have hb := B.bytes
  have hr := B.returns
  have hts := atoms_spec (ws := w_x_worked) B.pre
  have hown : s.vm.findClass RX12 = some m.cls := findClass_of_methodNamed B.named
  have hlocks := B.notSynchronized
  subst hsz
  have hD := hD0.self (sz := s.heap.size)
  generalize hAe : va_A (vM cy a σ0) s.heap.size = A at hD ⊢
  have hA : ∀ q : Nat, s.heap.size ≤ q → A q := fun q h => by rw [← hAe]; exact Or.inr h
  have hS : va_S A s.heap s.heap [] := va_S.rf
  have hl := lv_entry ([.ref (a 0), .int (L0 1)]) (n := 2) (Nat.le_of_ble_eq_true rfl)
  rw [lg_entry_eq]
  generalize (lg_sl ([.ref (a 0), .int (L0 1)]) ++ List.replicate (2 - (lg_sl ([.ref (a 0), .int (L0 1)])).length) Slot.unset).toArray = ls at hl ⊢
  have hl : lv_has ls 2 [(0, .ref (a 0)), (1, .int (L0 1))] := hl
  have blk : ∀ k : Nat, (bT p l e (headSpec w_x_worked ({ frames := 1, cells := 0, slots := 0, locals := 21 })).room s m #[.ref (a 0), .int (L0 1)] below meth c dC dI cy a A (qV dC dI cy a A below #[.ref (a 0), .int (L0 1)] s) 2 (x_worked k 0) (fun L => [(0, .ref (a 0)), (1, .int (L 1))]) 0 (fun L => [])) ∧ (bT p l e (headSpec w_x_worked ({ frames := 1, cells := 0, slots := 0, locals := 21 })).room s m #[.ref (a 0), .int (L0 1)] below meth c dC dI cy a A (qV dC dI cy a A below #[.ref (a 0), .int (L0 1)] s) 2 (x_worked k 1) (fun L => [(0, .ref (a 0)), (1, .int (L 1))]) 10 (fun L => [])) ∧ (bT p l e (headSpec w_x_worked ({ frames := 1, cells := 0, slots := 0, locals := 21 })).room s m #[.ref (a 0), .int (L0 1)] below meth c dC dI cy a A (qV dC dI cy a A below #[.ref (a 0), .int (L0 1)] s) 2 (x_worked k 2) (fun L => [(0, .ref (a 0)), (1, .int (L 1))]) 26 (fun L => [])) := by
    intro k
    induction k with
    | zero => exact ⟨fun L σ r h => (by cases h), fun L σ r h => (by cases h), fun L σ r h => (by cases h)⟩
    | succ k ih =>
      refine ⟨?_, ?_, ?_⟩
      · intro L σ r h H locs ls hP hD hS hl
        rw [x_worked] at h
        refine lv_aload_n hx hb dX12_worked_0 rfl (lv_at hl 0 rfl) ?_
        refine lv_dup hx hb dX12_worked_1 rfl ?_
        refine ng_57 hx hb hts in_x_worked hown hK hP (hts _ (List.mem_cons_of_mem _ (List.mem_append_left _ (List.mem_append_left _ (List.mem_of_getElem? (i := 0) rfl))))) dX12_worked_2 ?_
        refine lv_iload_n hx hb dX12_worked_5 rfl (lv_at hl 1 rfl) ?_
        refine lv_iadd hx hb dX12_worked_6 ?_
        refine np_57 hx hb hts in_x_worked hown hK hP hD hS (hts _ (List.mem_cons_of_mem _ (List.mem_append_left _ (List.mem_append_left _ (List.mem_of_getElem? (i := 0) rfl))))) dX12_worked_7 (fun H locs hP hD hS => ?_)
        exact ih.2.1 L (upd σ.1 57 ((((σ.1 57)) + ((L 1)))), σ.2.1, σ.2.2) r h H locs ls hP hD hS (lv_sub hl [0, 1] rfl)
      · intro L σ r h H locs ls hP hD hS hl
        rw [x_worked] at h
        refine lv_aload_n hx hb dX12_worked_10 rfl (lv_at hl 0 rfl) ?_
        refine ng_57 hx hb hts in_x_worked hown hK hP (hts _ (List.mem_cons_of_mem _ (List.mem_append_left _ (List.mem_append_left _ (List.mem_of_getElem? (i := 0) rfl))))) dX12_worked_11 ?_
        refine lv_ldcw (v := 60000) hx hb hown (hts _ (List.mem_cons_of_mem _ (List.mem_append_left _ (List.mem_append_left _ (List.mem_of_getElem? (i := 1) rfl))))) dX12_worked_14 ?_
        refine lv_icmp_le (tgt := 26) hx hb dX12_worked_17 (by decide) (fun c1 => ?_) (fun c1 => ?_)
        · rw [if_pos c1] at h
          exact ih.2.2 L σ r h H locs ls hP hD hS (lv_sub hl [0, 1] rfl)
        · rw [if_neg c1] at h
          refine lv_aload_n hx hb dX12_worked_20 rfl (lv_at hl 0 rfl) ?_
          refine lv_bipush (v := 11) hx hb dX12_worked_21 (by decide) ?_
          obtain ⟨r2, hc2, h⟩ := ob_ex h
          refine nc_Vv (As := [.int 11]) (rest := []) ⟨hx, hb, hml, hown, hts⟩ (c_x_fail l dC dI cy a k (upd (fun _ => 0) 1 11) σ r2 hc2 H.size) (cwV 1 hts g_x_worked_fail_369 rfl rfl rfl hd_x_fail ⟨Nat.le_of_ble_eq_true rfl, Nat.le_of_ble_eq_true rfl⟩) hK hG hA hP hD hS rfl hl.1 rfl (Nat.le_of_ble_eq_true rfl) dX12_worked_23 ⟨Nat.le_refl _, Nat.le_refl _⟩ (fun H locs hP hD hS => ?_)
          exact ih.2.2 L r2.2 r h H locs ls hP hD hS (lv_sub hl [0, 1] rfl)
      · intro L σ r h H locs ls hP hD hS hl
        rw [x_worked] at h
        cases h
        exact W.vret hx hb hr (fun t ht hW => ⟨⟨(), rfl, trivial, by rw [ht]; exact hP, va_K.moved hW.alike hK, hD⟩, hS.F ht⟩) hS.2.2 dX12_worked_26
  exact (blk k0).1 L0 σ0 r0 h0 s.heap [] ls hP hD hS hl
/-! kind -/
def x_kind : Nat → Nat → (Nat → Int32) → MS → Option (Int32 × MS)
  | 0, _, _, _ => none
  | k + 1, 0, L, σ => if ((L 1)) = 0 then (x_kind k 3 (upd L 100 0) σ) else (x_kind k 1 L σ)
  | k + 1, 1, L, σ => if 3 ≤ ((L 1)) then (x_kind k 2 L σ) else (x_kind k 3 (upd L 100 1) σ)
  | k + 1, 2, L, σ => if ¬ (((L 1)) < 0 ∨ 1740000 ≤ ((L 1)).toNatClampNeg) then (x_kind k 3 (upd L 100 ((σ.2.2 28 ((L 1)).toNatClampNeg))) σ) else none
  | k + 1, 3, L, σ => some ((L 100), σ)
  | _ + 1, _ + 4, _, _ => none
def o_x_kind : List Cond := [.fieldLink RX12 372 "SetHouseModel" "heap" "[I"]
theorem o_x_kind_good : o_x_kind.all goodWord = true := by decide +kernel
def p_x_kind : List Cond := o_x_kind ++ []
theorem p_x_kind_good : p_x_kind.all goodWord = true := nb_all2 o_x_kind_good rfl
def w_x_kind : List Cond := .code yX12_kind cX12_kind 2 (some .int) :: (p_x_kind ++ fM)
theorem w_x_kind_good : w_x_kind.all goodWord = true := nb_allc (by decide +kernel) (nb_all2 p_x_kind_good fM_good)
theorem in_x_kind : ∀ w ∈ wsX120, w ∈ w_x_kind := fun _ h => List.mem_cons_of_mem _ (List.mem_append_right _ h)
theorem hd_x_kind : yX12_kind.cls = RX12 ∧ yX12_kind.cls ≠ "java/lang/invoke/MethodHandle" ∧ yX12_kind.cls ≠ "java/lang/invoke/VarHandle" ∧ (parseMethodDescriptor yX12_kind.desc).map (fun d => d.parameters.length) = some 1 := by decide +kernel
set_option maxHeartbeats 40000000 in
set_option maxRecDepth 100000 in
theorem c_x_kind (l : Launch) (dC : Nat → ClassId) (dI : Nat → Nat → Nat) (cy : Nat → ClassId) (a : Nat → Nat) (k0 : Nat) (L0 : Nat → Int32) (σ0 : MS) (r0 : Int32 × MS) (h0 : x_kind k0 0 L0 σ0 = some r0) (sz : Nat) : Met l yX12_kind w_x_kind ({ frames := 0, cells := 0, slots := 0, locals := 0 }) (va_Pc [.ref (a 0), .int (L0 1)] (nIn (dC, dI) cy sz (vM cy a σ0))) (va_Qi (fun (z : Int32) (_ : Unit) => z = r0.1) (fun _ t => nOut (dC, dI) cy (va_A (vM cy a σ0) sz) (vM cy a r0.2) t) (va_A (vM cy a σ0) sz)) 0 0 (va_A (vM cy a σ0) sz) := by
  refine Met.ofW (cc := cX12_kind) (maxL := 2) (ret := (some .int)) (by decide) rfl ?_
  intro p e s m args below meth c s₁ B hml hv
  obtain ⟨rfl, hsz, hP, hK, hD0, hG⟩ := hv
  have hx := B.exec
  have hb := B.bytes
  have hr := B.returns
  have hts := atoms_spec (ws := w_x_kind) B.pre
  have hown : s.vm.findClass RX12 = some m.cls := findClass_of_methodNamed B.named
  have hlocks := B.notSynchronized
  subst hsz
  have hD := hD0.self (sz := s.heap.size)
  generalize hAe : va_A (vM cy a σ0) s.heap.size = A at hD ⊢
  have hA : ∀ q : Nat, s.heap.size ≤ q → A q := fun q h => by rw [← hAe]; exact Or.inr h
  have hS : va_S A s.heap s.heap [] := va_S.rf
  have hl := lv_entry ([.ref (a 0), .int (L0 1)]) (n := 2) (Nat.le_of_ble_eq_true rfl)
  rw [lg_entry_eq]
  generalize (lg_sl ([.ref (a 0), .int (L0 1)]) ++ List.replicate (2 - (lg_sl ([.ref (a 0), .int (L0 1)])).length) Slot.unset).toArray = ls at hl ⊢
  have hl : lv_has ls 2 [(0, .ref (a 0)), (1, .int (L0 1))] := hl
  have blk : ∀ k : Nat, (bT p l e (headSpec w_x_kind ({ frames := 0, cells := 0, slots := 0, locals := 0 })).room s m #[.ref (a 0), .int (L0 1)] below meth c dC dI cy a A (qI dC dI cy a A below #[.ref (a 0), .int (L0 1)] s) 2 (x_kind k 0) (fun L => [(0, .ref (a 0)), (1, .int (L 1))]) 0 (fun L => [])) ∧ (bT p l e (headSpec w_x_kind ({ frames := 0, cells := 0, slots := 0, locals := 0 })).room s m #[.ref (a 0), .int (L0 1)] below meth c dC dI cy a A (qI dC dI cy a A below #[.ref (a 0), .int (L0 1)] s) 2 (x_kind k 1) (fun L => [(0, .ref (a 0)), (1, .int (L 1))]) 8 (fun L => [])) ∧ (bT p l e (headSpec w_x_kind ({ frames := 0, cells := 0, slots := 0, locals := 0 })).room s m #[.ref (a 0), .int (L0 1)] below meth c dC dI cy a A (qI dC dI cy a A below #[.ref (a 0), .int (L0 1)] s) 2 (x_kind k 2) (fun L => [(0, .ref (a 0)), (1, .int (L 1))]) 17 (fun L => [])) ∧ (bT p l e (headSpec w_x_kind ({ frames := 0, cells := 0, slots := 0, locals := 0 })).room s m #[.ref (a 0), .int (L0 1)] below meth c dC dI cy a A (qI dC dI cy a A below #[.ref (a 0), .int (L0 1)] s) 2 (x_kind k 3) (fun L => [(0, .ref (a 0)), (1, .int (L 1))]) 23 (fun L => [.int (L 100)])) := by
    intro k
    induction k with
    | zero => exact ⟨fun L σ r h => (by cases h), fun L σ r h => (by cases h), fun L σ r h => (by cases h), fun L σ r h => (by cases h)⟩
    | succ k ih =>
      refine ⟨?_, ?_, ?_, ?_⟩
      · intro L σ r h H locs ls hP hD hS hl
        rw [x_kind] at h
        refine lv_iload_n hx hb dX12_kind_0 rfl (lv_at hl 1 rfl) ?_
        refine lv_if_ne (tgt := 8) hx hb dX12_kind_1 (by decide) (fun c1 => ?_) (fun c1 => ?_)
        · rw [if_neg c1] at h
          exact ih.2.1 L σ r h H locs ls hP hD hS (lv_sub hl [0, 1] rfl)
        · rw [if_pos c1] at h
          refine lv_iconst (v := 0) hx hb dX12_kind_4 (by decide) ?_
          refine lv_goto (tgt := 23) hx hb dX12_kind_5 (by decide) ?_
          exact ih.2.2.2 (upd L 100 0) σ r h H locs ls hP hD hS (lv_sub hl [0, 1] rfl)
      · intro L σ r h H locs ls hP hD hS hl
        rw [x_kind] at h
        refine lv_iload_n hx hb dX12_kind_8 rfl (lv_at hl 1 rfl) ?_
        refine lv_iconst (v := 3) hx hb dX12_kind_9 (by decide) ?_
        refine lv_icmp_ge (tgt := 17) hx hb dX12_kind_10 (by decide) (fun c1 => ?_) (fun c1 => ?_)
        · rw [if_pos c1] at h
          exact ih.2.2.1 L σ r h H locs ls hP hD hS (lv_sub hl [0, 1] rfl)
        · rw [if_neg c1] at h
          refine lv_iconst (v := 1) hx hb dX12_kind_13 (by decide) ?_
          refine lv_goto (tgt := 23) hx hb dX12_kind_14 (by decide) ?_
          exact ih.2.2.2 (upd L 100 1) σ r h H locs ls hP hD hS (lv_sub hl [0, 1] rfl)
      · intro L σ r h H locs ls hP hD hS hl
        rw [x_kind] at h
        refine lv_aload_n hx hb dX12_kind_17 rfl (lv_at hl 0 rfl) ?_
        refine ng_53 hx hb hts in_x_kind hown hK hP (hts _ (List.mem_cons_of_mem _ (List.mem_append_left _ (List.mem_append_left _ (List.mem_of_getElem? (i := 0) rfl))))) dX12_kind_18 ?_
        refine lv_iload_n hx hb dX12_kind_21 rfl (lv_at hl 1 rfl) ?_
        obtain ⟨q1, h⟩ := nb_ite1 h
        refine nl_28 hx hb hK hP q1 dX12_kind_22 ?_
        exact ih.2.2.2 (upd L 100 ((σ.2.2 28 ((L 1)).toNatClampNeg))) σ r h H locs ls hP hD hS (lv_sub hl [0, 1] rfl)
      · intro L σ r h H locs ls hP hD hS hl
        rw [x_kind] at h
        cases h
        exact W.iret (v := (L 100)) hx hb hr (fun t ht hW => ⟨⟨(L 100), (), rfl, rfl, by rw [ht]; exact hP, va_K.moved hW.alike hK, hD⟩, hS.F ht⟩) hS.2.2 dX12_kind_23
  exact (blk k0).1 L0 σ0 r0 h0 s.heap [] ls hP hD hS hl
/-! size -/
def x_size : Nat → Nat → (Nat → Int32) → MS → Option (Int32 × MS)
  | 0, _, _, _ => none
  | k + 1, 0, L, σ => if 3 ≤ ((L 1)) then (x_size k 1 L σ) else (x_size k 2 (upd L 100 1) σ)
  | k + 1, 1, L, σ => if ¬ (((((L 1)) + 2)) < 0 ∨ 1740000 ≤ ((((L 1)) + 2)).toNatClampNeg) then (x_size k 2 (upd L 100 ((σ.2.2 28 ((((L 1)) + 2)).toNatClampNeg))) σ) else none
  | k + 1, 2, L, σ => some ((L 100), σ)
  | _ + 1, _ + 3, _, _ => none
def o_x_size : List Cond := [.fieldLink RX12 372 "SetHouseModel" "heap" "[I"]
theorem o_x_size_good : o_x_size.all goodWord = true := by decide +kernel
def p_x_size : List Cond := o_x_size ++ []
theorem p_x_size_good : p_x_size.all goodWord = true := nb_all2 o_x_size_good rfl
def w_x_size : List Cond := .code yX12_size cX12_size 2 (some .int) :: (p_x_size ++ fM)
theorem w_x_size_good : w_x_size.all goodWord = true := nb_allc (by decide +kernel) (nb_all2 p_x_size_good fM_good)
theorem in_x_size : ∀ w ∈ wsX120, w ∈ w_x_size := fun _ h => List.mem_cons_of_mem _ (List.mem_append_right _ h)
theorem hd_x_size : yX12_size.cls = RX12 ∧ yX12_size.cls ≠ "java/lang/invoke/MethodHandle" ∧ yX12_size.cls ≠ "java/lang/invoke/VarHandle" ∧ (parseMethodDescriptor yX12_size.desc).map (fun d => d.parameters.length) = some 1 := by decide +kernel
set_option maxHeartbeats 40000000 in
set_option maxRecDepth 100000 in
theorem c_x_size (l : Launch) (dC : Nat → ClassId) (dI : Nat → Nat → Nat) (cy : Nat → ClassId) (a : Nat → Nat) (k0 : Nat) (L0 : Nat → Int32) (σ0 : MS) (r0 : Int32 × MS) (h0 : x_size k0 0 L0 σ0 = some r0) (sz : Nat) : Met l yX12_size w_x_size ({ frames := 0, cells := 0, slots := 0, locals := 0 }) (va_Pc [.ref (a 0), .int (L0 1)] (nIn (dC, dI) cy sz (vM cy a σ0))) (va_Qi (fun (z : Int32) (_ : Unit) => z = r0.1) (fun _ t => nOut (dC, dI) cy (va_A (vM cy a σ0) sz) (vM cy a r0.2) t) (va_A (vM cy a σ0) sz)) 0 0 (va_A (vM cy a σ0) sz) := by
  refine Met.ofW (cc := cX12_size) (maxL := 2) (ret := (some .int)) (by decide) rfl ?_
  intro p e s m args below meth c s₁ B hml hv
  obtain ⟨rfl, hsz, hP, hK, hD0, hG⟩ := hv
  have hx := B.exec
  have hb := B.bytes
  have hr := B.returns
  have hts := atoms_spec (ws := w_x_size) B.pre
  have hown : s.vm.findClass RX12 = some m.cls := findClass_of_methodNamed B.named
  have hlocks := B.notSynchronized
  subst hsz
  have hD := hD0.self (sz := s.heap.size)
  generalize hAe : va_A (vM cy a σ0) s.heap.size = A at hD ⊢
  have hA : ∀ q : Nat, s.heap.size ≤ q → A q := fun q h => by rw [← hAe]; exact Or.inr h
  have hS : va_S A s.heap s.heap [] := va_S.rf
  have hl := lv_entry ([.ref (a 0), .int (L0 1)]) (n := 2) (Nat.le_of_ble_eq_true rfl)
  rw [lg_entry_eq]
  generalize (lg_sl ([.ref (a 0), .int (L0 1)]) ++ List.replicate (2 - (lg_sl ([.ref (a 0), .int (L0 1)])).length) Slot.unset).toArray = ls at hl ⊢
  have hl : lv_has ls 2 [(0, .ref (a 0)), (1, .int (L0 1))] := hl
  have blk : ∀ k : Nat, (bT p l e (headSpec w_x_size ({ frames := 0, cells := 0, slots := 0, locals := 0 })).room s m #[.ref (a 0), .int (L0 1)] below meth c dC dI cy a A (qI dC dI cy a A below #[.ref (a 0), .int (L0 1)] s) 2 (x_size k 0) (fun L => [(0, .ref (a 0)), (1, .int (L 1))]) 0 (fun L => [])) ∧ (bT p l e (headSpec w_x_size ({ frames := 0, cells := 0, slots := 0, locals := 0 })).room s m #[.ref (a 0), .int (L0 1)] below meth c dC dI cy a A (qI dC dI cy a A below #[.ref (a 0), .int (L0 1)] s) 2 (x_size k 1) (fun L => [(0, .ref (a 0)), (1, .int (L 1))]) 9 (fun L => [])) ∧ (bT p l e (headSpec w_x_size ({ frames := 0, cells := 0, slots := 0, locals := 0 })).room s m #[.ref (a 0), .int (L0 1)] below meth c dC dI cy a A (qI dC dI cy a A below #[.ref (a 0), .int (L0 1)] s) 2 (x_size k 2) (fun L => [(0, .ref (a 0)), (1, .int (L 1))]) 17 (fun L => [.int (L 100)])) := by
    intro k
    induction k with
    | zero => exact ⟨fun L σ r h => (by cases h), fun L σ r h => (by cases h), fun L σ r h => (by cases h)⟩
    | succ k ih =>
      refine ⟨?_, ?_, ?_⟩
      · intro L σ r h H locs ls hP hD hS hl
        rw [x_size] at h
        refine lv_iload_n hx hb dX12_size_0 rfl (lv_at hl 1 rfl) ?_
        refine lv_iconst (v := 3) hx hb dX12_size_1 (by decide) ?_
        refine lv_icmp_ge (tgt := 9) hx hb dX12_size_2 (by decide) (fun c1 => ?_) (fun c1 => ?_)
        · rw [if_pos c1] at h
          exact ih.2.1 L σ r h H locs ls hP hD hS (lv_sub hl [0, 1] rfl)
        · rw [if_neg c1] at h
          refine lv_iconst (v := 1) hx hb dX12_size_5 (by decide) ?_
          refine lv_goto (tgt := 17) hx hb dX12_size_6 (by decide) ?_
          exact ih.2.2 (upd L 100 1) σ r h H locs ls hP hD hS (lv_sub hl [0, 1] rfl)
      · intro L σ r h H locs ls hP hD hS hl
        rw [x_size] at h
        refine lv_aload_n hx hb dX12_size_9 rfl (lv_at hl 0 rfl) ?_
        refine ng_53 hx hb hts in_x_size hown hK hP (hts _ (List.mem_cons_of_mem _ (List.mem_append_left _ (List.mem_append_left _ (List.mem_of_getElem? (i := 0) rfl))))) dX12_size_10 ?_
        refine lv_iload_n hx hb dX12_size_13 rfl (lv_at hl 1 rfl) ?_
        refine lv_iconst (v := 2) hx hb dX12_size_14 (by decide) ?_
        refine lv_iadd hx hb dX12_size_15 ?_
        obtain ⟨q1, h⟩ := nb_ite1 h
        refine nl_28 hx hb hK hP q1 dX12_size_16 ?_
        exact ih.2.2 (upd L 100 ((σ.2.2 28 ((((L 1)) + 2)).toNatClampNeg))) σ r h H locs ls hP hD hS (lv_sub hl [0, 1] rfl)
      · intro L σ r h H locs ls hP hD hS hl
        rw [x_size] at h
        cases h
        exact W.iret (v := (L 100)) hx hb hr (fun t ht hW => ⟨⟨(L 100), (), rfl, rfl, by rw [ht]; exact hP, va_K.moved hW.alike hK, hD⟩, hS.F ht⟩) hS.2.2 dX12_size_17
  exact (blk k0).1 L0 σ0 r0 h0 s.heap [] ls hP hD hS hl
/-! height -/
def x_height : Nat → Nat → (Nat → Int32) → MS → Option (Int32 × MS)
  | 0, _, _, _ => none
  | k + 1, 0, L, σ => if 3 ≤ ((L 1)) then (x_height k 1 L σ) else (x_height k 2 (upd L 100 0) σ)
  | k + 1, 1, L, σ => if ¬ (((((L 1)) + 3)) < 0 ∨ 1740000 ≤ ((((L 1)) + 3)).toNatClampNeg) then (x_height k 2 (upd L 100 ((σ.2.2 28 ((((L 1)) + 3)).toNatClampNeg))) σ) else none
  | k + 1, 2, L, σ => some ((L 100), σ)
  | _ + 1, _ + 3, _, _ => none
def o_x_height : List Cond := [.fieldLink RX12 372 "SetHouseModel" "heap" "[I"]
theorem o_x_height_good : o_x_height.all goodWord = true := by decide +kernel
def p_x_height : List Cond := o_x_height ++ []
theorem p_x_height_good : p_x_height.all goodWord = true := nb_all2 o_x_height_good rfl
def w_x_height : List Cond := .code yX12_height cX12_height 2 (some .int) :: (p_x_height ++ fM)
theorem w_x_height_good : w_x_height.all goodWord = true := nb_allc (by decide +kernel) (nb_all2 p_x_height_good fM_good)
theorem in_x_height : ∀ w ∈ wsX120, w ∈ w_x_height := fun _ h => List.mem_cons_of_mem _ (List.mem_append_right _ h)
theorem hd_x_height : yX12_height.cls = RX12 ∧ yX12_height.cls ≠ "java/lang/invoke/MethodHandle" ∧ yX12_height.cls ≠ "java/lang/invoke/VarHandle" ∧ (parseMethodDescriptor yX12_height.desc).map (fun d => d.parameters.length) = some 1 := by decide +kernel
set_option maxHeartbeats 40000000 in
set_option maxRecDepth 100000 in
theorem c_x_height (l : Launch) (dC : Nat → ClassId) (dI : Nat → Nat → Nat) (cy : Nat → ClassId) (a : Nat → Nat) (k0 : Nat) (L0 : Nat → Int32) (σ0 : MS) (r0 : Int32 × MS) (h0 : x_height k0 0 L0 σ0 = some r0) (sz : Nat) : Met l yX12_height w_x_height ({ frames := 0, cells := 0, slots := 0, locals := 0 }) (va_Pc [.ref (a 0), .int (L0 1)] (nIn (dC, dI) cy sz (vM cy a σ0))) (va_Qi (fun (z : Int32) (_ : Unit) => z = r0.1) (fun _ t => nOut (dC, dI) cy (va_A (vM cy a σ0) sz) (vM cy a r0.2) t) (va_A (vM cy a σ0) sz)) 0 0 (va_A (vM cy a σ0) sz) := by
  refine Met.ofW (cc := cX12_height) (maxL := 2) (ret := (some .int)) (by decide) rfl ?_
  intro p e s m args below meth c s₁ B hml hv
  obtain ⟨rfl, hsz, hP, hK, hD0, hG⟩ := hv
  have hx := B.exec
  have hb := B.bytes
  have hr := B.returns
  have hts := atoms_spec (ws := w_x_height) B.pre
  have hown : s.vm.findClass RX12 = some m.cls := findClass_of_methodNamed B.named
  have hlocks := B.notSynchronized
  subst hsz
  have hD := hD0.self (sz := s.heap.size)
  generalize hAe : va_A (vM cy a σ0) s.heap.size = A at hD ⊢
  have hA : ∀ q : Nat, s.heap.size ≤ q → A q := fun q h => by rw [← hAe]; exact Or.inr h
  have hS : va_S A s.heap s.heap [] := va_S.rf
  have hl := lv_entry ([.ref (a 0), .int (L0 1)]) (n := 2) (Nat.le_of_ble_eq_true rfl)
  rw [lg_entry_eq]
  generalize (lg_sl ([.ref (a 0), .int (L0 1)]) ++ List.replicate (2 - (lg_sl ([.ref (a 0), .int (L0 1)])).length) Slot.unset).toArray = ls at hl ⊢
  have hl : lv_has ls 2 [(0, .ref (a 0)), (1, .int (L0 1))] := hl
  have blk : ∀ k : Nat, (bT p l e (headSpec w_x_height ({ frames := 0, cells := 0, slots := 0, locals := 0 })).room s m #[.ref (a 0), .int (L0 1)] below meth c dC dI cy a A (qI dC dI cy a A below #[.ref (a 0), .int (L0 1)] s) 2 (x_height k 0) (fun L => [(0, .ref (a 0)), (1, .int (L 1))]) 0 (fun L => [])) ∧ (bT p l e (headSpec w_x_height ({ frames := 0, cells := 0, slots := 0, locals := 0 })).room s m #[.ref (a 0), .int (L0 1)] below meth c dC dI cy a A (qI dC dI cy a A below #[.ref (a 0), .int (L0 1)] s) 2 (x_height k 1) (fun L => [(0, .ref (a 0)), (1, .int (L 1))]) 9 (fun L => [])) ∧ (bT p l e (headSpec w_x_height ({ frames := 0, cells := 0, slots := 0, locals := 0 })).room s m #[.ref (a 0), .int (L0 1)] below meth c dC dI cy a A (qI dC dI cy a A below #[.ref (a 0), .int (L0 1)] s) 2 (x_height k 2) (fun L => [(0, .ref (a 0)), (1, .int (L 1))]) 17 (fun L => [.int (L 100)])) := by
    intro k
    induction k with
    | zero => exact ⟨fun L σ r h => (by cases h), fun L σ r h => (by cases h), fun L σ r h => (by cases h)⟩
    | succ k ih =>
      refine ⟨?_, ?_, ?_⟩
      · intro L σ r h H locs ls hP hD hS hl
        rw [x_height] at h
        refine lv_iload_n hx hb dX12_height_0 rfl (lv_at hl 1 rfl) ?_
        refine lv_iconst (v := 3) hx hb dX12_height_1 (by decide) ?_
        refine lv_icmp_ge (tgt := 9) hx hb dX12_height_2 (by decide) (fun c1 => ?_) (fun c1 => ?_)
        · rw [if_pos c1] at h
          exact ih.2.1 L σ r h H locs ls hP hD hS (lv_sub hl [0, 1] rfl)
        · rw [if_neg c1] at h
          refine lv_iconst (v := 0) hx hb dX12_height_5 (by decide) ?_
          refine lv_goto (tgt := 17) hx hb dX12_height_6 (by decide) ?_
          exact ih.2.2 (upd L 100 0) σ r h H locs ls hP hD hS (lv_sub hl [0, 1] rfl)
      · intro L σ r h H locs ls hP hD hS hl
        rw [x_height] at h
        refine lv_aload_n hx hb dX12_height_9 rfl (lv_at hl 0 rfl) ?_
        refine ng_53 hx hb hts in_x_height hown hK hP (hts _ (List.mem_cons_of_mem _ (List.mem_append_left _ (List.mem_append_left _ (List.mem_of_getElem? (i := 0) rfl))))) dX12_height_10 ?_
        refine lv_iload_n hx hb dX12_height_13 rfl (lv_at hl 1 rfl) ?_
        refine lv_iconst (v := 3) hx hb dX12_height_14 (by decide) ?_
        refine lv_iadd hx hb dX12_height_15 ?_
        obtain ⟨q1, h⟩ := nb_ite1 h
        refine nl_28 hx hb hK hP q1 dX12_height_16 ?_
        exact ih.2.2 (upd L 100 ((σ.2.2 28 ((((L 1)) + 3)).toNatClampNeg))) σ r h H locs ls hP hD hS (lv_sub hl [0, 1] rfl)
      · intro L σ r h H locs ls hP hD hS hl
        rw [x_height] at h
        cases h
        exact W.iret (v := (L 100)) hx hb hr (fun t ht hW => ⟨⟨(L 100), (), rfl, rfl, by rw [ht]; exact hP, va_K.moved hW.alike hK, hD⟩, hS.F ht⟩) hS.2.2 dX12_height_17
  exact (blk k0).1 L0 σ0 r0 h0 s.heap [] ls hP hD hS hl
/-! make -/
def x_make : Nat → Nat → (Nat → Int32) → MS → Option (Int32 × MS)
  | 0, _, _, _ => none
  | k + 1, 0, L, σ => if ((((((σ.1 55)) + 4)) + ((L 2)))) ≤ ((((σ.1 54)) + 870000)) then (x_make k 1 L σ) else (ob (x_fail k 0 (upd (fun _ => 0) 1 5) σ) (fun r2 => some (0, r2.2)))
  | k + 1, 1, L, σ => x_make k 2 (upd L 3 ((σ.1 55))) (upd σ.1 55 ((((σ.1 55)) + ((4 + ((L 2)))))), σ.2.1, σ.2.2)
  | k + 1, 2, L, σ => if ¬ (((L 3)) < 0 ∨ 1740000 ≤ ((L 3)).toNatClampNeg) then (x_make k 3 L (σ.1, σ.2.1, updG σ.2.2 28 (upd (σ.2.2 28) ((L 3)).toNatClampNeg ((L 1))))) else none
  | k + 1, 3, L, σ => if ¬ (((((L 3)) + 1)) < 0 ∨ 1740000 ≤ ((((L 3)) + 1)).toNatClampNeg) then (x_make k 4 L (σ.1, σ.2.1, updG σ.2.2 28 (upd (σ.2.2 28) ((((L 3)) + 1)).toNatClampNeg ((L 2))))) else none
  | k + 1, 4, L, σ => if ¬ (((((L 3)) + 2)) < 0 ∨ 1740000 ≤ ((((L 3)) + 2)).toNatClampNeg) then (x_make k 5 L (σ.1, σ.2.1, updG σ.2.2 28 (upd (σ.2.2 28) ((((L 3)) + 2)).toNatClampNeg 1))) else none
  | k + 1, 5, L, σ => if ¬ (((((L 3)) + 3)) < 0 ∨ 1740000 ≤ ((((L 3)) + 3)).toNatClampNeg) then (x_make k 6 L (σ.1, σ.2.1, updG σ.2.2 28 (upd (σ.2.2 28) ((((L 3)) + 3)).toNatClampNeg 0))) else none
  | k + 1, 6, L, σ => some ((L 3), σ)
  | _ + 1, _ + 7, _, _ => none
def o_x_make : List Cond := [.fieldLink RX12 375 "SetHouseModel" "high" "I", .fieldLink RX12 378 "SetHouseModel" "base" "I", .constant RX12 381 (870000), .methodLink RX12 369 yX12_fail, .instanceMethod yX12_fail, .selects RX12 yX12_fail yX12_fail, .initialized RX12, .fieldLink RX12 372 "SetHouseModel" "heap" "[I"]
theorem o_x_make_good : o_x_make.all goodWord = true := by decide +kernel
def p_x_make : List Cond := o_x_make ++ ((.code yX12_fail cX12_fail 2 none :: p_x_fail) ++ [])
theorem p_x_make_good : p_x_make.all goodWord = true := nb_all2 o_x_make_good (nb_all2 (nb_allc (by decide +kernel) p_x_fail_good) rfl)
def w_x_make : List Cond := .code yX12_make cX12_make 4 (some .int) :: (p_x_make ++ fM)
theorem w_x_make_good : w_x_make.all goodWord = true := nb_allc (by decide +kernel) (nb_all2 p_x_make_good fM_good)
theorem in_x_make : ∀ w ∈ wsX120, w ∈ w_x_make := fun _ h => List.mem_cons_of_mem _ (List.mem_append_right _ h)
theorem hd_x_make : yX12_make.cls = RX12 ∧ yX12_make.cls ≠ "java/lang/invoke/MethodHandle" ∧ yX12_make.cls ≠ "java/lang/invoke/VarHandle" ∧ (parseMethodDescriptor yX12_make.desc).map (fun d => d.parameters.length) = some 2 := by decide +kernel
theorem gg_x_make_fail : GoodIn w_x_make w_x_fail := goodIn_sub (fun w h => (List.mem_cons.mp h).elim (fun e => (List.mem_cons_of_mem _ (List.mem_append_left _ (List.mem_append_right _ (List.mem_append_left _ (List.mem_cons.mpr (Or.inl e))))))) (fun h => (List.mem_append.mp h).elim (fun h => (List.mem_cons_of_mem _ (List.mem_append_left _ (List.mem_append_right _ (List.mem_append_left _ (List.mem_cons_of_mem _ h)))))) (fun h => List.mem_cons_of_mem _ (List.mem_append_right _ h)))) w_x_fail_good
theorem g_x_make_fail_369 : GoodIn w_x_make (wsV RX12 369 RX12 yX12_fail w_x_fail) := goodIn_app (nb_g4 (List.mem_cons_of_mem _ (List.mem_append_left _ (List.mem_append_left _ (List.mem_of_getElem? (i := 3) rfl)))) (List.mem_cons_of_mem _ (List.mem_append_left _ (List.mem_append_left _ (List.mem_of_getElem? (i := 4) rfl)))) (List.mem_cons_of_mem _ (List.mem_append_left _ (List.mem_append_left _ (List.mem_of_getElem? (i := 5) rfl)))) (List.mem_cons_of_mem _ (List.mem_append_left _ (List.mem_append_left _ (List.mem_of_getElem? (i := 6) rfl)))) (by decide +kernel)) gg_x_make_fail
set_option maxHeartbeats 40000000 in
set_option maxRecDepth 100000 in
theorem c_x_make (l : Launch) (dC : Nat → ClassId) (dI : Nat → Nat → Nat) (cy : Nat → ClassId) (a : Nat → Nat) (k0 : Nat) (L0 : Nat → Int32) (σ0 : MS) (r0 : Int32 × MS) (h0 : x_make k0 0 L0 σ0 = some r0) (sz : Nat) : Met l yX12_make w_x_make ({ frames := 1, cells := 0, slots := 0, locals := 21 }) (va_Pc [.ref (a 0), .int (L0 1), .int (L0 2)] (nIn (dC, dI) cy sz (vM cy a σ0))) (va_Qi (fun (z : Int32) (_ : Unit) => z = r0.1) (fun _ t => nOut (dC, dI) cy (va_A (vM cy a σ0) sz) (vM cy a r0.2) t) (va_A (vM cy a σ0) sz)) 0 0 (va_A (vM cy a σ0) sz) := by
  refine Met.ofW (cc := cX12_make) (maxL := 4) (ret := (some .int)) (by decide) rfl ?_
  intro p e s m args below meth c s₁ B hml hv
  obtain ⟨rfl, hsz, hP, hK, hD0, hG⟩ := hv
  have hx := B.exec
  have hb := B.bytes
  have hr := B.returns
  have hts := atoms_spec (ws := w_x_make) B.pre
  have hown : s.vm.findClass RX12 = some m.cls := findClass_of_methodNamed B.named
  have hlocks := B.notSynchronized
  subst hsz
  have hD := hD0.self (sz := s.heap.size)
  generalize hAe : va_A (vM cy a σ0) s.heap.size = A at hD ⊢
  have hA : ∀ q : Nat, s.heap.size ≤ q → A q := fun q h => by rw [← hAe]; exact Or.inr h
  have hS : va_S A s.heap s.heap [] := va_S.rf
  have hl := lv_entry ([.ref (a 0), .int (L0 1), .int (L0 2)]) (n := 4) (Nat.le_of_ble_eq_true rfl)
  rw [lg_entry_eq]
  generalize (lg_sl ([.ref (a 0), .int (L0 1), .int (L0 2)]) ++ List.replicate (4 - (lg_sl ([.ref (a 0), .int (L0 1), .int (L0 2)])).length) Slot.unset).toArray = ls at hl ⊢
  have hl : lv_has ls 4 [(0, .ref (a 0)), (1, .int (L0 1)), (2, .int (L0 2))] := hl
  have blk : ∀ k : Nat, (bT p l e (headSpec w_x_make ({ frames := 1, cells := 0, slots := 0, locals := 21 })).room s m #[.ref (a 0), .int (L0 1), .int (L0 2)] below meth c dC dI cy a A (qI dC dI cy a A below #[.ref (a 0), .int (L0 1), .int (L0 2)] s) 4 (x_make k 0) (fun L => [(0, .ref (a 0)), (1, .int (L 1)), (2, .int (L 2))]) 0 (fun L => [])) ∧ (bT p l e (headSpec w_x_make ({ frames := 1, cells := 0, slots := 0, locals := 21 })).room s m #[.ref (a 0), .int (L0 1), .int (L0 2)] below meth c dC dI cy a A (qI dC dI cy a A below #[.ref (a 0), .int (L0 1), .int (L0 2)] s) 4 (x_make k 1) (fun L => [(0, .ref (a 0)), (1, .int (L 1)), (2, .int (L 2))]) 26 (fun L => [])) ∧ (bT p l e (headSpec w_x_make ({ frames := 1, cells := 0, slots := 0, locals := 21 })).room s m #[.ref (a 0), .int (L0 1), .int (L0 2)] below meth c dC dI cy a A (qI dC dI cy a A below #[.ref (a 0), .int (L0 1), .int (L0 2)] s) 4 (x_make k 2) (fun L => [(0, .ref (a 0)), (1, .int (L 1)), (2, .int (L 2)), (3, .int (L 3))]) 43 (fun L => [])) ∧ (bT p l e (headSpec w_x_make ({ frames := 1, cells := 0, slots := 0, locals := 21 })).room s m #[.ref (a 0), .int (L0 1), .int (L0 2)] below meth c dC dI cy a A (qI dC dI cy a A below #[.ref (a 0), .int (L0 1), .int (L0 2)] s) 4 (x_make k 3) (fun L => [(0, .ref (a 0)), (1, .int (L 1)), (2, .int (L 2)), (3, .int (L 3))]) 50 (fun L => [])) ∧ (bT p l e (headSpec w_x_make ({ frames := 1, cells := 0, slots := 0, locals := 21 })).room s m #[.ref (a 0), .int (L0 1), .int (L0 2)] below meth c dC dI cy a A (qI dC dI cy a A below #[.ref (a 0), .int (L0 1), .int (L0 2)] s) 4 (x_make k 4) (fun L => [(0, .ref (a 0)), (1, .int (L 1)), (2, .int (L 2)), (3, .int (L 3))]) 59 (fun L => [])) ∧ (bT p l e (headSpec w_x_make ({ frames := 1, cells := 0, slots := 0, locals := 21 })).room s m #[.ref (a 0), .int (L0 1), .int (L0 2)] below meth c dC dI cy a A (qI dC dI cy a A below #[.ref (a 0), .int (L0 1), .int (L0 2)] s) 4 (x_make k 5) (fun L => [(0, .ref (a 0)), (1, .int (L 1)), (2, .int (L 2)), (3, .int (L 3))]) 68 (fun L => [])) ∧ (bT p l e (headSpec w_x_make ({ frames := 1, cells := 0, slots := 0, locals := 21 })).room s m #[.ref (a 0), .int (L0 1), .int (L0 2)] below meth c dC dI cy a A (qI dC dI cy a A below #[.ref (a 0), .int (L0 1), .int (L0 2)] s) 4 (x_make k 6) (fun L => [(0, .ref (a 0)), (1, .int (L 1)), (2, .int (L 2)), (3, .int (L 3))]) 77 (fun L => [])) := by
    intro k
    induction k with
    | zero => exact ⟨fun L σ r h => (by cases h), fun L σ r h => (by cases h), fun L σ r h => (by cases h), fun L σ r h => (by cases h), fun L σ r h => (by cases h), fun L σ r h => (by cases h), fun L σ r h => (by cases h)⟩
    | succ k ih =>
      refine ⟨?_, ?_, ?_, ?_, ?_, ?_, ?_⟩
      · intro L σ r h H locs ls hP hD hS hl
        rw [x_make] at h
        refine lv_aload_n hx hb dX12_make_0 rfl (lv_at hl 0 rfl) ?_
        refine ng_55 hx hb hts in_x_make hown hK hP (hts _ (List.mem_cons_of_mem _ (List.mem_append_left _ (List.mem_append_left _ (List.mem_of_getElem? (i := 0) rfl))))) dX12_make_1 ?_
        refine lv_iconst (v := 4) hx hb dX12_make_4 (by decide) ?_
        refine lv_iadd hx hb dX12_make_5 ?_
        refine lv_iload_n hx hb dX12_make_6 rfl (lv_at hl 2 rfl) ?_
        refine lv_iadd hx hb dX12_make_7 ?_
        refine lv_aload_n hx hb dX12_make_8 rfl (lv_at hl 0 rfl) ?_
        refine ng_54 hx hb hts in_x_make hown hK hP (hts _ (List.mem_cons_of_mem _ (List.mem_append_left _ (List.mem_append_left _ (List.mem_of_getElem? (i := 1) rfl))))) dX12_make_9 ?_
        refine lv_ldcw (v := 870000) hx hb hown (hts _ (List.mem_cons_of_mem _ (List.mem_append_left _ (List.mem_append_left _ (List.mem_of_getElem? (i := 2) rfl))))) dX12_make_12 ?_
        refine lv_iadd hx hb dX12_make_15 ?_
        refine lv_icmp_le (tgt := 26) hx hb dX12_make_16 (by decide) (fun c1 => ?_) (fun c1 => ?_)
        · rw [if_pos c1] at h
          exact ih.2.1 L σ r h H locs ls hP hD hS (lv_sub hl [0, 1, 2] rfl)
        · rw [if_neg c1] at h
          refine lv_aload_n hx hb dX12_make_19 rfl (lv_at hl 0 rfl) ?_
          refine lv_iconst (v := 5) hx hb dX12_make_20 (by decide) ?_
          obtain ⟨r2, hc2, h⟩ := ob_ex h
          refine nc_Vv (As := [.int 5]) (rest := []) ⟨hx, hb, hml, hown, hts⟩ (c_x_fail l dC dI cy a k (upd (fun _ => 0) 1 5) σ r2 hc2 H.size) (cwV 1 hts g_x_make_fail_369 rfl rfl rfl hd_x_fail ⟨Nat.le_of_ble_eq_true rfl, Nat.le_of_ble_eq_true rfl⟩) hK hG hA hP hD hS rfl hl.1 rfl (Nat.le_of_ble_eq_true rfl) dX12_make_21 ⟨Nat.le_refl _, Nat.le_refl _⟩ (fun H locs hP hD hS => ?_)
          refine lv_iconst (v := 0) hx hb dX12_make_24 (by decide) ?_
          cases h
          exact W.iret (v := 0) hx hb hr (fun t ht hW => ⟨⟨0, (), rfl, rfl, by rw [ht]; exact hP, va_K.moved hW.alike hK, hD⟩, hS.F ht⟩) hS.2.2 dX12_make_25
      · intro L σ r h H locs ls hP hD hS hl
        rw [x_make] at h
        refine lv_aload_n hx hb dX12_make_26 rfl (lv_at hl 0 rfl) ?_
        refine ng_55 hx hb hts in_x_make hown hK hP (hts _ (List.mem_cons_of_mem _ (List.mem_append_left _ (List.mem_append_left _ (List.mem_of_getElem? (i := 0) rfl))))) dX12_make_27 ?_
        refine lv_istore_n (lv' := [(3, .int (σ.1 55)), (0, .ref (a 0)), (1, .int (L 1)), (2, .int (L 2))]) hx hb dX12_make_30 rfl hl (by decide) rfl (fun ls hl => ?_)
        refine lv_aload_n hx hb dX12_make_31 rfl (lv_at hl 1 rfl) ?_
        refine lv_dup hx hb dX12_make_32 rfl ?_
        refine ng_55 hx hb hts in_x_make hown hK hP (hts _ (List.mem_cons_of_mem _ (List.mem_append_left _ (List.mem_append_left _ (List.mem_of_getElem? (i := 0) rfl))))) dX12_make_33 ?_
        refine lv_iconst (v := 4) hx hb dX12_make_36 (by decide) ?_
        refine lv_iload_n hx hb dX12_make_37 rfl (lv_at hl 3 rfl) ?_
        refine lv_iadd hx hb dX12_make_38 ?_
        refine lv_iadd hx hb dX12_make_39 ?_
        refine np_55 hx hb hts in_x_make hown hK hP hD hS (hts _ (List.mem_cons_of_mem _ (List.mem_append_left _ (List.mem_append_left _ (List.mem_of_getElem? (i := 0) rfl))))) dX12_make_40 (fun H locs hP hD hS => ?_)
        exact ih.2.2.1 (upd L 3 ((σ.1 55))) (upd σ.1 55 ((((σ.1 55)) + ((4 + ((L 2)))))), σ.2.1, σ.2.2) r h H locs ls hP hD hS (lv_sub hl [1, 2, 3, 0] rfl)
      · intro L σ r h H locs ls hP hD hS hl
        rw [x_make] at h
        refine lv_aload_n hx hb dX12_make_43 rfl (lv_at hl 0 rfl) ?_
        refine ng_53 hx hb hts in_x_make hown hK hP (hts _ (List.mem_cons_of_mem _ (List.mem_append_left _ (List.mem_append_left _ (List.mem_of_getElem? (i := 7) rfl))))) dX12_make_44 ?_
        refine lv_iload_n hx hb dX12_make_47 rfl (lv_at hl 3 rfl) ?_
        refine lv_iload_n hx hb dX12_make_48 rfl (lv_at hl 1 rfl) ?_
        obtain ⟨q1, h⟩ := nb_ite1 h
        refine ns_28 hx hb hK hP hD hS q1 dX12_make_49 (fun H locs hP hD hS => ?_)
        exact ih.2.2.2.1 L (σ.1, σ.2.1, updG σ.2.2 28 (upd (σ.2.2 28) ((L 3)).toNatClampNeg ((L 1)))) r h H locs ls hP hD hS (lv_sub hl [0, 1, 2, 3] rfl)
      · intro L σ r h H locs ls hP hD hS hl
        rw [x_make] at h
        refine lv_aload_n hx hb dX12_make_50 rfl (lv_at hl 0 rfl) ?_
        refine ng_53 hx hb hts in_x_make hown hK hP (hts _ (List.mem_cons_of_mem _ (List.mem_append_left _ (List.mem_append_left _ (List.mem_of_getElem? (i := 7) rfl))))) dX12_make_51 ?_
        refine lv_iload_n hx hb dX12_make_54 rfl (lv_at hl 3 rfl) ?_
        refine lv_iconst (v := 1) hx hb dX12_make_55 (by decide) ?_
        refine lv_iadd hx hb dX12_make_56 ?_
        refine lv_iload_n hx hb dX12_make_57 rfl (lv_at hl 2 rfl) ?_
        obtain ⟨q1, h⟩ := nb_ite1 h
        refine ns_28 hx hb hK hP hD hS q1 dX12_make_58 (fun H locs hP hD hS => ?_)
        exact ih.2.2.2.2.1 L (σ.1, σ.2.1, updG σ.2.2 28 (upd (σ.2.2 28) ((((L 3)) + 1)).toNatClampNeg ((L 2)))) r h H locs ls hP hD hS (lv_sub hl [0, 1, 2, 3] rfl)
      · intro L σ r h H locs ls hP hD hS hl
        rw [x_make] at h
        refine lv_aload_n hx hb dX12_make_59 rfl (lv_at hl 0 rfl) ?_
        refine ng_53 hx hb hts in_x_make hown hK hP (hts _ (List.mem_cons_of_mem _ (List.mem_append_left _ (List.mem_append_left _ (List.mem_of_getElem? (i := 7) rfl))))) dX12_make_60 ?_
        refine lv_iload_n hx hb dX12_make_63 rfl (lv_at hl 3 rfl) ?_
        refine lv_iconst (v := 2) hx hb dX12_make_64 (by decide) ?_
        refine lv_iadd hx hb dX12_make_65 ?_
        refine lv_iconst (v := 1) hx hb dX12_make_66 (by decide) ?_
        obtain ⟨q1, h⟩ := nb_ite1 h
        refine ns_28 hx hb hK hP hD hS q1 dX12_make_67 (fun H locs hP hD hS => ?_)
        exact ih.2.2.2.2.2.1 L (σ.1, σ.2.1, updG σ.2.2 28 (upd (σ.2.2 28) ((((L 3)) + 2)).toNatClampNeg 1)) r h H locs ls hP hD hS (lv_sub hl [0, 1, 2, 3] rfl)
      · intro L σ r h H locs ls hP hD hS hl
        rw [x_make] at h
        refine lv_aload_n hx hb dX12_make_68 rfl (lv_at hl 0 rfl) ?_
        refine ng_53 hx hb hts in_x_make hown hK hP (hts _ (List.mem_cons_of_mem _ (List.mem_append_left _ (List.mem_append_left _ (List.mem_of_getElem? (i := 7) rfl))))) dX12_make_69 ?_
        refine lv_iload_n hx hb dX12_make_72 rfl (lv_at hl 3 rfl) ?_
        refine lv_iconst (v := 3) hx hb dX12_make_73 (by decide) ?_
        refine lv_iadd hx hb dX12_make_74 ?_
        refine lv_iconst (v := 0) hx hb dX12_make_75 (by decide) ?_
        obtain ⟨q1, h⟩ := nb_ite1 h
        refine ns_28 hx hb hK hP hD hS q1 dX12_make_76 (fun H locs hP hD hS => ?_)
        exact ih.2.2.2.2.2.2 L (σ.1, σ.2.1, updG σ.2.2 28 (upd (σ.2.2 28) ((((L 3)) + 3)).toNatClampNeg 0)) r h H locs ls hP hD hS (lv_sub hl [0, 1, 2, 3] rfl)
      · intro L σ r h H locs ls hP hD hS hl
        rw [x_make] at h
        refine lv_iload_n hx hb dX12_make_77 rfl (lv_at hl 3 rfl) ?_
        cases h
        exact W.iret (v := (L 3)) hx hb hr (fun t ht hW => ⟨⟨(L 3), (), rfl, rfl, by rw [ht]; exact hP, va_K.moved hW.alike hK, hD⟩, hS.F ht⟩) hS.2.2 dX12_make_78
  exact (blk k0).1 L0 σ0 r0 h0 s.heap [] ls hP hD hS hl
/-! push -/
def x_push : Nat → Nat → (Nat → Int32) → MS → Option (Int32 × MS)
  | 0, _, _, _ => none
  | k + 1, 0, L, σ => if ¬ (((σ.1 59)) < 0 ∨ 185000 ≤ ((σ.1 59)).toNatClampNeg) then (x_push k 1 L (σ.1, σ.2.1, updG σ.2.2 29 (upd (σ.2.2 29) ((σ.1 59)).toNatClampNeg ((L 1))))) else none
  | k + 1, 1, L, σ => some (0, (upd σ.1 59 ((((σ.1 59)) + 1)), σ.2.1, σ.2.2))
  | _ + 1, _ + 2, _, _ => none
def o_x_push : List Cond := [.fieldLink RX12 382 "SetHouseModel" "pile" "[I", .fieldLink RX12 385 "SetHouseModel" "top" "I"]
theorem o_x_push_good : o_x_push.all goodWord = true := by decide +kernel
def p_x_push : List Cond := o_x_push ++ []
theorem p_x_push_good : p_x_push.all goodWord = true := nb_all2 o_x_push_good rfl
def w_x_push : List Cond := .code yX12_push cX12_push 2 none :: (p_x_push ++ fM)
theorem w_x_push_good : w_x_push.all goodWord = true := nb_allc (by decide +kernel) (nb_all2 p_x_push_good fM_good)
theorem in_x_push : ∀ w ∈ wsX120, w ∈ w_x_push := fun _ h => List.mem_cons_of_mem _ (List.mem_append_right _ h)
theorem hd_x_push : yX12_push.cls = RX12 ∧ yX12_push.cls ≠ "java/lang/invoke/MethodHandle" ∧ yX12_push.cls ≠ "java/lang/invoke/VarHandle" ∧ (parseMethodDescriptor yX12_push.desc).map (fun d => d.parameters.length) = some 1 := by decide +kernel
set_option maxHeartbeats 40000000 in
set_option maxRecDepth 100000 in
theorem c_x_push (l : Launch) (dC : Nat → ClassId) (dI : Nat → Nat → Nat) (cy : Nat → ClassId) (a : Nat → Nat) (k0 : Nat) (L0 : Nat → Int32) (σ0 : MS) (r0 : Int32 × MS) (h0 : x_push k0 0 L0 σ0 = some r0) (sz : Nat) : Met l yX12_push w_x_push ({ frames := 0, cells := 0, slots := 0, locals := 0 }) (va_Pc [.ref (a 0), .int (L0 1)] (nIn (dC, dI) cy sz (vM cy a σ0))) (va_Qv (fun _ : Unit => True) (fun _ t => nOut (dC, dI) cy (va_A (vM cy a σ0) sz) (vM cy a r0.2) t) (va_A (vM cy a σ0) sz)) 0 0 (va_A (vM cy a σ0) sz) := by
  refine Met.ofW (cc := cX12_push) (maxL := 2) (ret := none) (by decide) rfl ?_
  intro p e s m args below meth c s₁ B hml hv
  obtain ⟨rfl, hsz, hP, hK, hD0, hG⟩ := hv
  have hx := B.exec
  have hb := B.bytes
  have hr := B.returns
  have hts := atoms_spec (ws := w_x_push) B.pre
  have hown : s.vm.findClass RX12 = some m.cls := findClass_of_methodNamed B.named
  have hlocks := B.notSynchronized
  subst hsz
  have hD := hD0.self (sz := s.heap.size)
  generalize hAe : va_A (vM cy a σ0) s.heap.size = A at hD ⊢
  have hA : ∀ q : Nat, s.heap.size ≤ q → A q := fun q h => by rw [← hAe]; exact Or.inr h
  have hS : va_S A s.heap s.heap [] := va_S.rf
  have hl := lv_entry ([.ref (a 0), .int (L0 1)]) (n := 2) (Nat.le_of_ble_eq_true rfl)
  rw [lg_entry_eq]
  generalize (lg_sl ([.ref (a 0), .int (L0 1)]) ++ List.replicate (2 - (lg_sl ([.ref (a 0), .int (L0 1)])).length) Slot.unset).toArray = ls at hl ⊢
  have hl : lv_has ls 2 [(0, .ref (a 0)), (1, .int (L0 1))] := hl
  have blk : ∀ k : Nat, (bT p l e (headSpec w_x_push ({ frames := 0, cells := 0, slots := 0, locals := 0 })).room s m #[.ref (a 0), .int (L0 1)] below meth c dC dI cy a A (qV dC dI cy a A below #[.ref (a 0), .int (L0 1)] s) 2 (x_push k 0) (fun L => [(0, .ref (a 0)), (1, .int (L 1))]) 0 (fun L => [])) ∧ (bT p l e (headSpec w_x_push ({ frames := 0, cells := 0, slots := 0, locals := 0 })).room s m #[.ref (a 0), .int (L0 1)] below meth c dC dI cy a A (qV dC dI cy a A below #[.ref (a 0), .int (L0 1)] s) 2 (x_push k 1) (fun L => [(0, .ref (a 0)), (1, .int (L 1))]) 10 (fun L => [])) := by
    intro k
    induction k with
    | zero => exact ⟨fun L σ r h => (by cases h), fun L σ r h => (by cases h)⟩
    | succ k ih =>
      refine ⟨?_, ?_⟩
      · intro L σ r h H locs ls hP hD hS hl
        rw [x_push] at h
        refine lv_aload_n hx hb dX12_push_0 rfl (lv_at hl 0 rfl) ?_
        refine ng_58 hx hb hts in_x_push hown hK hP (hts _ (List.mem_cons_of_mem _ (List.mem_append_left _ (List.mem_append_left _ (List.mem_of_getElem? (i := 0) rfl))))) dX12_push_1 ?_
        refine lv_aload_n hx hb dX12_push_4 rfl (lv_at hl 0 rfl) ?_
        refine ng_59 hx hb hts in_x_push hown hK hP (hts _ (List.mem_cons_of_mem _ (List.mem_append_left _ (List.mem_append_left _ (List.mem_of_getElem? (i := 1) rfl))))) dX12_push_5 ?_
        refine lv_iload_n hx hb dX12_push_8 rfl (lv_at hl 1 rfl) ?_
        obtain ⟨q1, h⟩ := nb_ite1 h
        refine ns_29 hx hb hK hP hD hS q1 dX12_push_9 (fun H locs hP hD hS => ?_)
        exact ih.2 L (σ.1, σ.2.1, updG σ.2.2 29 (upd (σ.2.2 29) ((σ.1 59)).toNatClampNeg ((L 1)))) r h H locs ls hP hD hS (lv_sub hl [0, 1] rfl)
      · intro L σ r h H locs ls hP hD hS hl
        rw [x_push] at h
        refine lv_aload_n hx hb dX12_push_10 rfl (lv_at hl 0 rfl) ?_
        refine lv_dup hx hb dX12_push_11 rfl ?_
        refine ng_59 hx hb hts in_x_push hown hK hP (hts _ (List.mem_cons_of_mem _ (List.mem_append_left _ (List.mem_append_left _ (List.mem_of_getElem? (i := 1) rfl))))) dX12_push_12 ?_
        refine lv_iconst (v := 1) hx hb dX12_push_15 (by decide) ?_
        refine lv_iadd hx hb dX12_push_16 ?_
        refine np_59 hx hb hts in_x_push hown hK hP hD hS (hts _ (List.mem_cons_of_mem _ (List.mem_append_left _ (List.mem_append_left _ (List.mem_of_getElem? (i := 1) rfl))))) dX12_push_17 (fun H locs hP hD hS => ?_)
        cases h
        exact W.vret hx hb hr (fun t ht hW => ⟨⟨(), rfl, trivial, by rw [ht]; exact hP, va_K.moved hW.alike hK, hD⟩, hS.F ht⟩) hS.2.2 dX12_push_20
  exact (blk k0).1 L0 σ0 r0 h0 s.heap [] ls hP hD hS hl
/-! pop -/
def x_pop : Nat → Nat → (Nat → Int32) → MS → Option (Int32 × MS)
  | 0, _, _, _ => none
  | k + 1, 0, L, σ => x_pop k 1 L (upd σ.1 59 ((((σ.1 59)) - 1)), σ.2.1, σ.2.2)
  | k + 1, 1, L, σ => if ¬ (((σ.1 59)) < 0 ∨ 185000 ≤ ((σ.1 59)).toNatClampNeg) then (some ((σ.2.2 29 ((σ.1 59)).toNatClampNeg), σ)) else none
  | _ + 1, _ + 2, _, _ => none
def o_x_pop : List Cond := [.fieldLink RX12 385 "SetHouseModel" "top" "I", .fieldLink RX12 382 "SetHouseModel" "pile" "[I"]
theorem o_x_pop_good : o_x_pop.all goodWord = true := by decide +kernel
def p_x_pop : List Cond := o_x_pop ++ []
theorem p_x_pop_good : p_x_pop.all goodWord = true := nb_all2 o_x_pop_good rfl
def w_x_pop : List Cond := .code yX12_pop cX12_pop 1 (some .int) :: (p_x_pop ++ fM)
theorem w_x_pop_good : w_x_pop.all goodWord = true := nb_allc (by decide +kernel) (nb_all2 p_x_pop_good fM_good)
theorem in_x_pop : ∀ w ∈ wsX120, w ∈ w_x_pop := fun _ h => List.mem_cons_of_mem _ (List.mem_append_right _ h)
theorem hd_x_pop : yX12_pop.cls = RX12 ∧ yX12_pop.cls ≠ "java/lang/invoke/MethodHandle" ∧ yX12_pop.cls ≠ "java/lang/invoke/VarHandle" ∧ (parseMethodDescriptor yX12_pop.desc).map (fun d => d.parameters.length) = some 0 := by decide +kernel
set_option maxHeartbeats 40000000 in
set_option maxRecDepth 100000 in
theorem c_x_pop (l : Launch) (dC : Nat → ClassId) (dI : Nat → Nat → Nat) (cy : Nat → ClassId) (a : Nat → Nat) (k0 : Nat) (L0 : Nat → Int32) (σ0 : MS) (r0 : Int32 × MS) (h0 : x_pop k0 0 L0 σ0 = some r0) (sz : Nat) : Met l yX12_pop w_x_pop ({ frames := 0, cells := 0, slots := 0, locals := 0 }) (va_Pc [.ref (a 0)] (nIn (dC, dI) cy sz (vM cy a σ0))) (va_Qi (fun (z : Int32) (_ : Unit) => z = r0.1) (fun _ t => nOut (dC, dI) cy (va_A (vM cy a σ0) sz) (vM cy a r0.2) t) (va_A (vM cy a σ0) sz)) 0 0 (va_A (vM cy a σ0) sz) := by
  refine Met.ofW (cc := cX12_pop) (maxL := 1) (ret := (some .int)) (by decide) rfl ?_
  intro p e s m args below meth c s₁ B hml hv
  obtain ⟨rfl, hsz, hP, hK, hD0, hG⟩ := hv
  have hx := B.exec
  have hb := B.bytes
  have hr := B.returns
  have hts := atoms_spec (ws := w_x_pop) B.pre
  have hown : s.vm.findClass RX12 = some m.cls := findClass_of_methodNamed B.named
  have hlocks := B.notSynchronized
  subst hsz
  have hD := hD0.self (sz := s.heap.size)
  generalize hAe : va_A (vM cy a σ0) s.heap.size = A at hD ⊢
  have hA : ∀ q : Nat, s.heap.size ≤ q → A q := fun q h => by rw [← hAe]; exact Or.inr h
  have hS : va_S A s.heap s.heap [] := va_S.rf
  have hl := lv_entry ([.ref (a 0)]) (n := 1) (Nat.le_of_ble_eq_true rfl)
  rw [lg_entry_eq]
  generalize (lg_sl ([.ref (a 0)]) ++ List.replicate (1 - (lg_sl ([.ref (a 0)])).length) Slot.unset).toArray = ls at hl ⊢
  have hl : lv_has ls 1 [(0, .ref (a 0))] := hl
  have blk : ∀ k : Nat, (bT p l e (headSpec w_x_pop ({ frames := 0, cells := 0, slots := 0, locals := 0 })).room s m #[.ref (a 0)] below meth c dC dI cy a A (qI dC dI cy a A below #[.ref (a 0)] s) 1 (x_pop k 0) (fun L => [(0, .ref (a 0))]) 0 (fun L => [])) ∧ (bT p l e (headSpec w_x_pop ({ frames := 0, cells := 0, slots := 0, locals := 0 })).room s m #[.ref (a 0)] below meth c dC dI cy a A (qI dC dI cy a A below #[.ref (a 0)] s) 1 (x_pop k 1) (fun L => [(0, .ref (a 0))]) 10 (fun L => [])) := by
    intro k
    induction k with
    | zero => exact ⟨fun L σ r h => (by cases h), fun L σ r h => (by cases h)⟩
    | succ k ih =>
      refine ⟨?_, ?_⟩
      · intro L σ r h H locs ls hP hD hS hl
        rw [x_pop] at h
        refine lv_aload_n hx hb dX12_pop_0 rfl (lv_at hl 0 rfl) ?_
        refine lv_dup hx hb dX12_pop_1 rfl ?_
        refine ng_59 hx hb hts in_x_pop hown hK hP (hts _ (List.mem_cons_of_mem _ (List.mem_append_left _ (List.mem_append_left _ (List.mem_of_getElem? (i := 0) rfl))))) dX12_pop_2 ?_
        refine lv_iconst (v := 1) hx hb dX12_pop_5 (by decide) ?_
        refine lv_isub hx hb dX12_pop_6 ?_
        refine np_59 hx hb hts in_x_pop hown hK hP hD hS (hts _ (List.mem_cons_of_mem _ (List.mem_append_left _ (List.mem_append_left _ (List.mem_of_getElem? (i := 0) rfl))))) dX12_pop_7 (fun H locs hP hD hS => ?_)
        exact ih.2 L (upd σ.1 59 ((((σ.1 59)) - 1)), σ.2.1, σ.2.2) r h H locs ls hP hD hS (lv_sub hl [0] rfl)
      · intro L σ r h H locs ls hP hD hS hl
        rw [x_pop] at h
        refine lv_aload_n hx hb dX12_pop_10 rfl (lv_at hl 0 rfl) ?_
        refine ng_58 hx hb hts in_x_pop hown hK hP (hts _ (List.mem_cons_of_mem _ (List.mem_append_left _ (List.mem_append_left _ (List.mem_of_getElem? (i := 1) rfl))))) dX12_pop_11 ?_
        refine lv_aload_n hx hb dX12_pop_14 rfl (lv_at hl 0 rfl) ?_
        refine ng_59 hx hb hts in_x_pop hown hK hP (hts _ (List.mem_cons_of_mem _ (List.mem_append_left _ (List.mem_append_left _ (List.mem_of_getElem? (i := 0) rfl))))) dX12_pop_15 ?_
        obtain ⟨q1, h⟩ := nb_ite1 h
        refine nl_29 hx hb hK hP q1 dX12_pop_18 ?_
        cases h
        exact W.iret (v := (σ.2.2 29 ((σ.1 59)).toNatClampNeg)) hx hb hr (fun t ht hW => ⟨⟨(σ.2.2 29 ((σ.1 59)).toNatClampNeg), (), rfl, rfl, by rw [ht]; exact hP, va_K.moved hW.alike hK, hD⟩, hS.F ht⟩) hS.2.2 dX12_pop_19
  exact (blk k0).1 L0 σ0 r0 h0 s.heap [] ls hP hD hS hl
/-! copied -/
def x_copied : Nat → Nat → (Nat → Int32) → MS → Option (Int32 × MS)
  | 0, _, _, _ => none
  | k + 1, 0, L, σ => if 3 ≤ ((L 1)) then (x_copied k 1 L σ) else (some ((L 1), σ))
  | k + 1, 1, L, σ => if ¬ (((L 1)) < 0 ∨ 1740000 ≤ ((L 1)).toNatClampNeg) then (if ((σ.2.2 28 ((L 1)).toNatClampNeg)) = ((-1)) then (if ¬ (((((L 1)) + 1)) < 0 ∨ 1740000 ≤ ((((L 1)) + 1)).toNatClampNeg) then (some ((σ.2.2 28 ((((L 1)) + 1)).toNatClampNeg), σ)) else none) else (x_copied k 2 L σ)) else none
  | k + 1, 2, L, σ => if ¬ (((((L 1)) + 1)) < 0 ∨ 1740000 ≤ ((((L 1)) + 1)).toNatClampNeg) then (x_copied k 3 (upd (upd L 2 ((4 + ((σ.2.2 28 ((((L 1)) + 1)).toNatClampNeg))))) 3 ((σ.1 55))) (upd σ.1 55 ((((σ.1 55)) + ((4 + ((σ.2.2 28 ((((L 1)) + 1)).toNatClampNeg)))))), σ.2.1, σ.2.2)) else none
  | k + 1, 3, L, σ => x_copied k 4 (upd L 4 0) σ
  | k + 1, 4, L, σ => if ((L 2)) ≤ ((L 4)) then (x_copied k 6 L σ) else (if ¬ (((((L 1)) + ((L 4)))) < 0 ∨ 1740000 ≤ ((((L 1)) + ((L 4)))).toNatClampNeg) then (if ¬ (((((L 3)) + ((L 4)))) < 0 ∨ 1740000 ≤ ((((L 3)) + ((L 4)))).toNatClampNeg) then (x_copied k 5 L (σ.1, σ.2.1, updG σ.2.2 28 (upd (σ.2.2 28) ((((L 3)) + ((L 4)))).toNatClampNeg ((σ.2.2 28 ((((L 1)) + ((L 4)))).toNatClampNeg))))) else none) else none)
  | k + 1, 5, L, σ => x_copied k 4 (upd L 4 (((L 4)) + 1)) σ
  | k + 1, 6, L, σ => if ¬ (((L 1)) < 0 ∨ 1740000 ≤ ((L 1)).toNatClampNeg) then (x_copied k 7 L (σ.1, σ.2.1, updG σ.2.2 28 (upd (σ.2.2 28) ((L 1)).toNatClampNeg ((-1))))) else none
  | k + 1, 7, L, σ => if ¬ (((((L 1)) + 1)) < 0 ∨ 1740000 ≤ ((((L 1)) + 1)).toNatClampNeg) then (x_copied k 8 L (σ.1, σ.2.1, updG σ.2.2 28 (upd (σ.2.2 28) ((((L 1)) + 1)).toNatClampNeg ((L 3))))) else none
  | k + 1, 8, L, σ => some ((L 3), σ)
  | _ + 1, _ + 9, _, _ => none
def o_x_copied : List Cond := [.fieldLink RX12 372 "SetHouseModel" "heap" "[I", .fieldLink RX12 375 "SetHouseModel" "high" "I"]
theorem o_x_copied_good : o_x_copied.all goodWord = true := by decide +kernel
def p_x_copied : List Cond := o_x_copied ++ []
theorem p_x_copied_good : p_x_copied.all goodWord = true := nb_all2 o_x_copied_good rfl
def w_x_copied : List Cond := .code yX12_copied cX12_copied 5 (some .int) :: (p_x_copied ++ fM)
theorem w_x_copied_good : w_x_copied.all goodWord = true := nb_allc (by decide +kernel) (nb_all2 p_x_copied_good fM_good)
theorem in_x_copied : ∀ w ∈ wsX120, w ∈ w_x_copied := fun _ h => List.mem_cons_of_mem _ (List.mem_append_right _ h)
theorem hd_x_copied : yX12_copied.cls = RX12 ∧ yX12_copied.cls ≠ "java/lang/invoke/MethodHandle" ∧ yX12_copied.cls ≠ "java/lang/invoke/VarHandle" ∧ (parseMethodDescriptor yX12_copied.desc).map (fun d => d.parameters.length) = some 1 := by decide +kernel
set_option maxHeartbeats 40000000 in
set_option maxRecDepth 100000 in
theorem c_x_copied (l : Launch) (dC : Nat → ClassId) (dI : Nat → Nat → Nat) (cy : Nat → ClassId) (a : Nat → Nat) (k0 : Nat) (L0 : Nat → Int32) (σ0 : MS) (r0 : Int32 × MS) (h0 : x_copied k0 0 L0 σ0 = some r0) (sz : Nat) : Met l yX12_copied w_x_copied ({ frames := 0, cells := 0, slots := 0, locals := 0 }) (va_Pc [.ref (a 0), .int (L0 1)] (nIn (dC, dI) cy sz (vM cy a σ0))) (va_Qi (fun (z : Int32) (_ : Unit) => z = r0.1) (fun _ t => nOut (dC, dI) cy (va_A (vM cy a σ0) sz) (vM cy a r0.2) t) (va_A (vM cy a σ0) sz)) 0 0 (va_A (vM cy a σ0) sz) := by
  refine Met.ofW (cc := cX12_copied) (maxL := 5) (ret := (some .int)) (by decide) rfl ?_
  intro p e s m args below meth c s₁ B hml hv
  obtain ⟨rfl, hsz, hP, hK, hD0, hG⟩ := hv
  have hx := B.exec
  have hb := B.bytes
  have hr := B.returns
  have hts := atoms_spec (ws := w_x_copied) B.pre
  have hown : s.vm.findClass RX12 = some m.cls := findClass_of_methodNamed B.named
  have hlocks := B.notSynchronized
  subst hsz
  have hD := hD0.self (sz := s.heap.size)
  generalize hAe : va_A (vM cy a σ0) s.heap.size = A at hD ⊢
  have hA : ∀ q : Nat, s.heap.size ≤ q → A q := fun q h => by rw [← hAe]; exact Or.inr h
  have hS : va_S A s.heap s.heap [] := va_S.rf
  have hl := lv_entry ([.ref (a 0), .int (L0 1)]) (n := 5) (Nat.le_of_ble_eq_true rfl)
  rw [lg_entry_eq]
  generalize (lg_sl ([.ref (a 0), .int (L0 1)]) ++ List.replicate (5 - (lg_sl ([.ref (a 0), .int (L0 1)])).length) Slot.unset).toArray = ls at hl ⊢
  have hl : lv_has ls 5 [(0, .ref (a 0)), (1, .int (L0 1))] := hl
  have blk : ∀ k : Nat, (bT p l e (headSpec w_x_copied ({ frames := 0, cells := 0, slots := 0, locals := 0 })).room s m #[.ref (a 0), .int (L0 1)] below meth c dC dI cy a A (qI dC dI cy a A below #[.ref (a 0), .int (L0 1)] s) 5 (x_copied k 0) (fun L => [(0, .ref (a 0)), (1, .int (L 1))]) 0 (fun L => [])) ∧ (bT p l e (headSpec w_x_copied ({ frames := 0, cells := 0, slots := 0, locals := 0 })).room s m #[.ref (a 0), .int (L0 1)] below meth c dC dI cy a A (qI dC dI cy a A below #[.ref (a 0), .int (L0 1)] s) 5 (x_copied k 1) (fun L => [(0, .ref (a 0)), (1, .int (L 1))]) 7 (fun L => [])) ∧ (bT p l e (headSpec w_x_copied ({ frames := 0, cells := 0, slots := 0, locals := 0 })).room s m #[.ref (a 0), .int (L0 1)] below meth c dC dI cy a A (qI dC dI cy a A below #[.ref (a 0), .int (L0 1)] s) 5 (x_copied k 2) (fun L => [(0, .ref (a 0)), (1, .int (L 1))]) 26 (fun L => [])) ∧ (bT p l e (headSpec w_x_copied ({ frames := 0, cells := 0, slots := 0, locals := 0 })).room s m #[.ref (a 0), .int (L0 1)] below meth c dC dI cy a A (qI dC dI cy a A below #[.ref (a 0), .int (L0 1)] s) 5 (x_copied k 3) (fun L => [(0, .ref (a 0)), (1, .int (L 1)), (2, .int (L 2)), (3, .int (L 3))]) 52 (fun L => [])) ∧ (bT p l e (headSpec w_x_copied ({ frames := 0, cells := 0, slots := 0, locals := 0 })).room s m #[.ref (a 0), .int (L0 1)] below meth c dC dI cy a A (qI dC dI cy a A below #[.ref (a 0), .int (L0 1)] s) 5 (x_copied k 4) (fun L => [(0, .ref (a 0)), (1, .int (L 1)), (2, .int (L 2)), (3, .int (L 3)), (4, .int (L 4))]) 55 (fun L => [])) ∧ (bT p l e (headSpec w_x_copied ({ frames := 0, cells := 0, slots := 0, locals := 0 })).room s m #[.ref (a 0), .int (L0 1)] below meth c dC dI cy a A (qI dC dI cy a A below #[.ref (a 0), .int (L0 1)] s) 5 (x_copied k 5) (fun L => [(0, .ref (a 0)), (1, .int (L 1)), (2, .int (L 2)), (3, .int (L 3)), (4, .int (L 4))]) 79 (fun L => [])) ∧ (bT p l e (headSpec w_x_copied ({ frames := 0, cells := 0, slots := 0, locals := 0 })).room s m #[.ref (a 0), .int (L0 1)] below meth c dC dI cy a A (qI dC dI cy a A below #[.ref (a 0), .int (L0 1)] s) 5 (x_copied k 6) (fun L => [(0, .ref (a 0)), (1, .int (L 1)), (2, .int (L 2)), (3, .int (L 3)), (4, .int (L 4))]) 85 (fun L => [])) ∧ (bT p l e (headSpec w_x_copied ({ frames := 0, cells := 0, slots := 0, locals := 0 })).room s m #[.ref (a 0), .int (L0 1)] below meth c dC dI cy a A (qI dC dI cy a A below #[.ref (a 0), .int (L0 1)] s) 5 (x_copied k 7) (fun L => [(0, .ref (a 0)), (1, .int (L 1)), (2, .int (L 2)), (3, .int (L 3)), (4, .int (L 4))]) 92 (fun L => [])) ∧ (bT p l e (headSpec w_x_copied ({ frames := 0, cells := 0, slots := 0, locals := 0 })).room s m #[.ref (a 0), .int (L0 1)] below meth c dC dI cy a A (qI dC dI cy a A below #[.ref (a 0), .int (L0 1)] s) 5 (x_copied k 8) (fun L => [(0, .ref (a 0)), (1, .int (L 1)), (2, .int (L 2)), (3, .int (L 3)), (4, .int (L 4))]) 101 (fun L => [])) := by
    intro k
    induction k with
    | zero => exact ⟨fun L σ r h => (by cases h), fun L σ r h => (by cases h), fun L σ r h => (by cases h), fun L σ r h => (by cases h), fun L σ r h => (by cases h), fun L σ r h => (by cases h), fun L σ r h => (by cases h), fun L σ r h => (by cases h), fun L σ r h => (by cases h)⟩
    | succ k ih =>
      refine ⟨?_, ?_, ?_, ?_, ?_, ?_, ?_, ?_, ?_⟩
      · intro L σ r h H locs ls hP hD hS hl
        rw [x_copied] at h
        refine lv_iload_n hx hb dX12_copied_0 rfl (lv_at hl 1 rfl) ?_
        refine lv_iconst (v := 3) hx hb dX12_copied_1 (by decide) ?_
        refine lv_icmp_ge (tgt := 7) hx hb dX12_copied_2 (by decide) (fun c1 => ?_) (fun c1 => ?_)
        · rw [if_pos c1] at h
          exact ih.2.1 L σ r h H locs ls hP hD hS (lv_sub hl [0, 1] rfl)
        · rw [if_neg c1] at h
          refine lv_iload_n hx hb dX12_copied_5 rfl (lv_at hl 1 rfl) ?_
          cases h
          exact W.iret (v := (L 1)) hx hb hr (fun t ht hW => ⟨⟨(L 1), (), rfl, rfl, by rw [ht]; exact hP, va_K.moved hW.alike hK, hD⟩, hS.F ht⟩) hS.2.2 dX12_copied_6
      · intro L σ r h H locs ls hP hD hS hl
        rw [x_copied] at h
        refine lv_aload_n hx hb dX12_copied_7 rfl (lv_at hl 0 rfl) ?_
        refine ng_53 hx hb hts in_x_copied hown hK hP (hts _ (List.mem_cons_of_mem _ (List.mem_append_left _ (List.mem_append_left _ (List.mem_of_getElem? (i := 0) rfl))))) dX12_copied_8 ?_
        refine lv_iload_n hx hb dX12_copied_11 rfl (lv_at hl 1 rfl) ?_
        obtain ⟨q1, h⟩ := nb_ite1 h
        refine nl_28 hx hb hK hP q1 dX12_copied_12 ?_
        refine lv_iconst (v := (-1)) hx hb dX12_copied_13 (by decide) ?_
        refine lv_icmp_ne (tgt := 26) hx hb dX12_copied_14 (by decide) (fun c2 => ?_) (fun c2 => ?_)
        · rw [if_neg c2] at h
          exact ih.2.2.1 L σ r h H locs ls hP hD hS (lv_sub hl [0, 1] rfl)
        · rw [if_pos c2] at h
          refine lv_aload_n hx hb dX12_copied_17 rfl (lv_at hl 0 rfl) ?_
          refine ng_53 hx hb hts in_x_copied hown hK hP (hts _ (List.mem_cons_of_mem _ (List.mem_append_left _ (List.mem_append_left _ (List.mem_of_getElem? (i := 0) rfl))))) dX12_copied_18 ?_
          refine lv_iload_n hx hb dX12_copied_21 rfl (lv_at hl 1 rfl) ?_
          refine lv_iconst (v := 1) hx hb dX12_copied_22 (by decide) ?_
          refine lv_iadd hx hb dX12_copied_23 ?_
          obtain ⟨q3, h⟩ := nb_ite1 h
          refine nl_28 hx hb hK hP q3 dX12_copied_24 ?_
          cases h
          exact W.iret (v := (σ.2.2 28 ((((L 1)) + 1)).toNatClampNeg)) hx hb hr (fun t ht hW => ⟨⟨(σ.2.2 28 ((((L 1)) + 1)).toNatClampNeg), (), rfl, rfl, by rw [ht]; exact hP, va_K.moved hW.alike hK, hD⟩, hS.F ht⟩) hS.2.2 dX12_copied_25
      · intro L σ r h H locs ls hP hD hS hl
        rw [x_copied] at h
        refine lv_iconst (v := 4) hx hb dX12_copied_26 (by decide) ?_
        refine lv_aload_n hx hb dX12_copied_27 rfl (lv_at hl 0 rfl) ?_
        refine ng_53 hx hb hts in_x_copied hown hK hP (hts _ (List.mem_cons_of_mem _ (List.mem_append_left _ (List.mem_append_left _ (List.mem_of_getElem? (i := 0) rfl))))) dX12_copied_28 ?_
        refine lv_iload_n hx hb dX12_copied_31 rfl (lv_at hl 1 rfl) ?_
        refine lv_iconst (v := 1) hx hb dX12_copied_32 (by decide) ?_
        refine lv_iadd hx hb dX12_copied_33 ?_
        obtain ⟨q1, h⟩ := nb_ite1 h
        refine nl_28 hx hb hK hP q1 dX12_copied_34 ?_
        refine lv_iadd hx hb dX12_copied_35 ?_
        refine lv_istore_n (lv' := [(2, .int (4 + ((σ.2.2 28 ((((L 1)) + 1)).toNatClampNeg)))), (0, .ref (a 0)), (1, .int (L 1))]) hx hb dX12_copied_36 rfl hl (by decide) rfl (fun ls hl => ?_)
        refine lv_aload_n hx hb dX12_copied_37 rfl (lv_at hl 1 rfl) ?_
        refine ng_55 hx hb hts in_x_copied hown hK hP (hts _ (List.mem_cons_of_mem _ (List.mem_append_left _ (List.mem_append_left _ (List.mem_of_getElem? (i := 1) rfl))))) dX12_copied_38 ?_
        refine lv_istore_n (lv' := [(3, .int (σ.1 55)), (2, .int (4 + ((σ.2.2 28 ((((L 1)) + 1)).toNatClampNeg)))), (0, .ref (a 0)), (1, .int (L 1))]) hx hb dX12_copied_41 rfl hl (by decide) rfl (fun ls hl => ?_)
        refine lv_aload_n hx hb dX12_copied_42 rfl (lv_at hl 2 rfl) ?_
        refine lv_dup hx hb dX12_copied_43 rfl ?_
        refine ng_55 hx hb hts in_x_copied hown hK hP (hts _ (List.mem_cons_of_mem _ (List.mem_append_left _ (List.mem_append_left _ (List.mem_of_getElem? (i := 1) rfl))))) dX12_copied_44 ?_
        refine lv_iload_n hx hb dX12_copied_47 rfl (lv_at hl 1 rfl) ?_
        refine lv_iadd hx hb dX12_copied_48 ?_
        refine np_55 hx hb hts in_x_copied hown hK hP hD hS (hts _ (List.mem_cons_of_mem _ (List.mem_append_left _ (List.mem_append_left _ (List.mem_of_getElem? (i := 1) rfl))))) dX12_copied_49 (fun H locs hP hD hS => ?_)
        exact ih.2.2.2.1 (upd (upd L 2 ((4 + ((σ.2.2 28 ((((L 1)) + 1)).toNatClampNeg))))) 3 ((σ.1 55))) (upd σ.1 55 ((((σ.1 55)) + ((4 + ((σ.2.2 28 ((((L 1)) + 1)).toNatClampNeg)))))), σ.2.1, σ.2.2) r h H locs ls hP hD hS (lv_sub hl [2, 3, 1, 0] rfl)
      · intro L σ r h H locs ls hP hD hS hl
        rw [x_copied] at h
        refine lv_iconst (v := 0) hx hb dX12_copied_52 (by decide) ?_
        refine lv_istore (lv' := [(4, .int 0), (0, .ref (a 0)), (1, .int (L 1)), (2, .int (L 2)), (3, .int (L 3))]) hx hb dX12_copied_53 hl (by decide) rfl (fun ls hl => ?_)
        exact ih.2.2.2.2.1 (upd L 4 0) σ r h H locs ls hP hD hS (lv_sub hl [1, 2, 3, 4, 0] rfl)
      · intro L σ r h H locs ls hP hD hS hl
        rw [x_copied] at h
        refine lv_iload hx hb dX12_copied_55 (lv_at hl 4 rfl) ?_
        refine lv_iload_n hx hb dX12_copied_57 rfl (lv_at hl 2 rfl) ?_
        refine lv_icmp_ge (tgt := 85) hx hb dX12_copied_58 (by decide) (fun c1 => ?_) (fun c1 => ?_)
        · rw [if_pos c1] at h
          exact ih.2.2.2.2.2.2.1 L σ r h H locs ls hP hD hS (lv_sub hl [0, 1, 2, 3, 4] rfl)
        · rw [if_neg c1] at h
          refine lv_aload_n hx hb dX12_copied_61 rfl (lv_at hl 0 rfl) ?_
          refine ng_53 hx hb hts in_x_copied hown hK hP (hts _ (List.mem_cons_of_mem _ (List.mem_append_left _ (List.mem_append_left _ (List.mem_of_getElem? (i := 0) rfl))))) dX12_copied_62 ?_
          refine lv_iload_n hx hb dX12_copied_65 rfl (lv_at hl 3 rfl) ?_
          refine lv_iload hx hb dX12_copied_66 (lv_at hl 4 rfl) ?_
          refine lv_iadd hx hb dX12_copied_68 ?_
          refine lv_aload_n hx hb dX12_copied_69 rfl (lv_at hl 0 rfl) ?_
          refine ng_53 hx hb hts in_x_copied hown hK hP (hts _ (List.mem_cons_of_mem _ (List.mem_append_left _ (List.mem_append_left _ (List.mem_of_getElem? (i := 0) rfl))))) dX12_copied_70 ?_
          refine lv_iload_n hx hb dX12_copied_73 rfl (lv_at hl 1 rfl) ?_
          refine lv_iload hx hb dX12_copied_74 (lv_at hl 4 rfl) ?_
          refine lv_iadd hx hb dX12_copied_76 ?_
          obtain ⟨q2, h⟩ := nb_ite1 h
          refine nl_28 hx hb hK hP q2 dX12_copied_77 ?_
          obtain ⟨q3, h⟩ := nb_ite1 h
          refine ns_28 hx hb hK hP hD hS q3 dX12_copied_78 (fun H locs hP hD hS => ?_)
          exact ih.2.2.2.2.2.1 L (σ.1, σ.2.1, updG σ.2.2 28 (upd (σ.2.2 28) ((((L 3)) + ((L 4)))).toNatClampNeg ((σ.2.2 28 ((((L 1)) + ((L 4)))).toNatClampNeg)))) r h H locs ls hP hD hS (lv_sub hl [0, 1, 2, 3, 4] rfl)
      · intro L σ r h H locs ls hP hD hS hl
        rw [x_copied] at h
        refine lv_iinc (v := ((L 4)) + 1) (lv' := [(4, .int (((L 4)) + 1)), (0, .ref (a 0)), (1, .int (L 1)), (2, .int (L 2)), (3, .int (L 3))]) hx hb dX12_copied_79 hl (k := 4) rfl rfl (by decide) rfl (fun ls hl => ?_)
        refine lv_goto (tgt := 55) hx hb dX12_copied_82 (by decide) ?_
        exact ih.2.2.2.2.1 (upd L 4 (((L 4)) + 1)) σ r h H locs ls hP hD hS (lv_sub hl [1, 2, 3, 4, 0] rfl)
      · intro L σ r h H locs ls hP hD hS hl
        rw [x_copied] at h
        refine lv_aload_n hx hb dX12_copied_85 rfl (lv_at hl 0 rfl) ?_
        refine ng_53 hx hb hts in_x_copied hown hK hP (hts _ (List.mem_cons_of_mem _ (List.mem_append_left _ (List.mem_append_left _ (List.mem_of_getElem? (i := 0) rfl))))) dX12_copied_86 ?_
        refine lv_iload_n hx hb dX12_copied_89 rfl (lv_at hl 1 rfl) ?_
        refine lv_iconst (v := (-1)) hx hb dX12_copied_90 (by decide) ?_
        obtain ⟨q1, h⟩ := nb_ite1 h
        refine ns_28 hx hb hK hP hD hS q1 dX12_copied_91 (fun H locs hP hD hS => ?_)
        exact ih.2.2.2.2.2.2.2.1 L (σ.1, σ.2.1, updG σ.2.2 28 (upd (σ.2.2 28) ((L 1)).toNatClampNeg ((-1)))) r h H locs ls hP hD hS (lv_sub hl [0, 1, 2, 3, 4] rfl)
      · intro L σ r h H locs ls hP hD hS hl
        rw [x_copied] at h
        refine lv_aload_n hx hb dX12_copied_92 rfl (lv_at hl 0 rfl) ?_
        refine ng_53 hx hb hts in_x_copied hown hK hP (hts _ (List.mem_cons_of_mem _ (List.mem_append_left _ (List.mem_append_left _ (List.mem_of_getElem? (i := 0) rfl))))) dX12_copied_93 ?_
        refine lv_iload_n hx hb dX12_copied_96 rfl (lv_at hl 1 rfl) ?_
        refine lv_iconst (v := 1) hx hb dX12_copied_97 (by decide) ?_
        refine lv_iadd hx hb dX12_copied_98 ?_
        refine lv_iload_n hx hb dX12_copied_99 rfl (lv_at hl 3 rfl) ?_
        obtain ⟨q1, h⟩ := nb_ite1 h
        refine ns_28 hx hb hK hP hD hS q1 dX12_copied_100 (fun H locs hP hD hS => ?_)
        exact ih.2.2.2.2.2.2.2.2 L (σ.1, σ.2.1, updG σ.2.2 28 (upd (σ.2.2 28) ((((L 1)) + 1)).toNatClampNeg ((L 3)))) r h H locs ls hP hD hS (lv_sub hl [0, 1, 2, 3, 4] rfl)
      · intro L σ r h H locs ls hP hD hS hl
        rw [x_copied] at h
        refine lv_iload_n hx hb dX12_copied_101 rfl (lv_at hl 3 rfl) ?_
        cases h
        exact W.iret (v := (L 3)) hx hb hr (fun t ht hW => ⟨⟨(L 3), (), rfl, rfl, by rw [ht]; exact hP, va_K.moved hW.alike hK, hD⟩, hS.F ht⟩) hS.2.2 dX12_copied_102
  exact (blk k0).1 L0 σ0 r0 h0 s.heap [] ls hP hD hS hl
/-! copyRow__29 -/
def x_copyRow__29 : Nat → Nat → (Nat → Int32) → MS → Option (Int32 × MS)
  | 0, _, _, _ => none
  | k + 1, 0, L, σ => x_copyRow__29 k 1 (upd L 4 ((L 2))) σ
  | k + 1, 1, L, σ => if ((((L 2)) + ((L 3)))) ≤ ((L 4)) then (x_copyRow__29 k 3 L σ) else (if ¬ (((L 4)) < 0 ∨ 185000 ≤ ((L 4)).toNatClampNeg) then (ob (x_copied k 0 (upd (fun _ => 0) 1 ((σ.2.2 29 ((L 4)).toNatClampNeg))) σ) (fun r3 => if ¬ (((L 4)) < 0 ∨ 185000 ≤ ((L 4)).toNatClampNeg) then (x_copyRow__29 k 2 L (r3.2.1, r3.2.2.1, updG r3.2.2.2 29 (upd (r3.2.2.2 29) ((L 4)).toNatClampNeg r3.1))) else none)) else none)
  | k + 1, 2, L, σ => x_copyRow__29 k 1 (upd L 4 (((L 4)) + 1)) σ
  | k + 1, 3, L, σ => some (0, σ)
  | _ + 1, _ + 4, _, _ => none
def o_x_copyRow__29 : List Cond := [.methodLink RX12 388 yX12_copied, .instanceMethod yX12_copied, .selects RX12 yX12_copied yX12_copied, .initialized RX12]
theorem o_x_copyRow__29_good : o_x_copyRow__29.all goodWord = true := by decide +kernel
def p_x_copyRow__29 : List Cond := o_x_copyRow__29 ++ ((.code yX12_copied cX12_copied 5 (some .int) :: p_x_copied) ++ [])
theorem p_x_copyRow__29_good : p_x_copyRow__29.all goodWord = true := nb_all2 o_x_copyRow__29_good (nb_all2 (nb_allc (by decide +kernel) p_x_copied_good) rfl)
def w_x_copyRow__29 : List Cond := .code yX12_copyRow cX12_copyRow 5 none :: (p_x_copyRow__29 ++ fM)
theorem w_x_copyRow__29_good : w_x_copyRow__29.all goodWord = true := nb_allc (by decide +kernel) (nb_all2 p_x_copyRow__29_good fM_good)
theorem in_x_copyRow__29 : ∀ w ∈ wsX120, w ∈ w_x_copyRow__29 := fun _ h => List.mem_cons_of_mem _ (List.mem_append_right _ h)
theorem hd_x_copyRow__29 : yX12_copyRow.cls = RX12 ∧ yX12_copyRow.cls ≠ "java/lang/invoke/MethodHandle" ∧ yX12_copyRow.cls ≠ "java/lang/invoke/VarHandle" ∧ (parseMethodDescriptor yX12_copyRow.desc).map (fun d => d.parameters.length) = some 3 := by decide +kernel
theorem gg_x_copyRow__29_copied : GoodIn w_x_copyRow__29 w_x_copied := goodIn_sub (fun w h => (List.mem_cons.mp h).elim (fun e => (List.mem_cons_of_mem _ (List.mem_append_left _ (List.mem_append_right _ (List.mem_append_left _ (List.mem_cons.mpr (Or.inl e))))))) (fun h => (List.mem_append.mp h).elim (fun h => (List.mem_cons_of_mem _ (List.mem_append_left _ (List.mem_append_right _ (List.mem_append_left _ (List.mem_cons_of_mem _ h)))))) (fun h => List.mem_cons_of_mem _ (List.mem_append_right _ h)))) w_x_copied_good
theorem g_x_copyRow__29_copied_388 : GoodIn w_x_copyRow__29 (wsV RX12 388 RX12 yX12_copied w_x_copied) := goodIn_app (nb_g4 (List.mem_cons_of_mem _ (List.mem_append_left _ (List.mem_append_left _ (List.mem_of_getElem? (i := 0) rfl)))) (List.mem_cons_of_mem _ (List.mem_append_left _ (List.mem_append_left _ (List.mem_of_getElem? (i := 1) rfl)))) (List.mem_cons_of_mem _ (List.mem_append_left _ (List.mem_append_left _ (List.mem_of_getElem? (i := 2) rfl)))) (List.mem_cons_of_mem _ (List.mem_append_left _ (List.mem_append_left _ (List.mem_of_getElem? (i := 3) rfl)))) (by decide +kernel)) gg_x_copyRow__29_copied
set_option maxHeartbeats 40000000 in
set_option maxRecDepth 100000 in
theorem c_x_copyRow__29 (l : Launch) (dC : Nat → ClassId) (dI : Nat → Nat → Nat) (cy : Nat → ClassId) (a : Nat → Nat) (k0 : Nat) (L0 : Nat → Int32) (σ0 : MS) (r0 : Int32 × MS) (h0 : x_copyRow__29 k0 0 L0 σ0 = some r0) (sz : Nat) : Met l yX12_copyRow w_x_copyRow__29 ({ frames := 1, cells := 0, slots := 0, locals := 24 }) (va_Pc [.ref (a 0), .ref (a 29), .int (L0 2), .int (L0 3)] (nIn (dC, dI) cy sz (vM cy a σ0))) (va_Qv (fun _ : Unit => True) (fun _ t => nOut (dC, dI) cy (va_A (vM cy a σ0) sz) (vM cy a r0.2) t) (va_A (vM cy a σ0) sz)) 0 0 (va_A (vM cy a σ0) sz) := by
  refine Met.ofW (cc := cX12_copyRow) (maxL := 5) (ret := none) (by decide) rfl ?_
  intro p e s m args below meth c s₁ B hml hv
  obtain ⟨rfl, hsz, hP, hK, hD0, hG⟩ := hv
  have hx := B.exec
  have hb := B.bytes
  have hr := B.returns
  have hts := atoms_spec (ws := w_x_copyRow__29) B.pre
  have hown : s.vm.findClass RX12 = some m.cls := findClass_of_methodNamed B.named
  have hlocks := B.notSynchronized
  subst hsz
  have hD := hD0.self (sz := s.heap.size)
  generalize hAe : va_A (vM cy a σ0) s.heap.size = A at hD ⊢
  have hA : ∀ q : Nat, s.heap.size ≤ q → A q := fun q h => by rw [← hAe]; exact Or.inr h
  have hS : va_S A s.heap s.heap [] := va_S.rf
  have hl := lv_entry ([.ref (a 0), .ref (a 29), .int (L0 2), .int (L0 3)]) (n := 5) (Nat.le_of_ble_eq_true rfl)
  rw [lg_entry_eq]
  generalize (lg_sl ([.ref (a 0), .ref (a 29), .int (L0 2), .int (L0 3)]) ++ List.replicate (5 - (lg_sl ([.ref (a 0), .ref (a 29), .int (L0 2), .int (L0 3)])).length) Slot.unset).toArray = ls at hl ⊢
  have hl : lv_has ls 5 [(0, .ref (a 0)), (1, .ref (a 29)), (2, .int (L0 2)), (3, .int (L0 3))] := hl
  have blk : ∀ k : Nat, (bT p l e (headSpec w_x_copyRow__29 ({ frames := 1, cells := 0, slots := 0, locals := 24 })).room s m #[.ref (a 0), .ref (a 29), .int (L0 2), .int (L0 3)] below meth c dC dI cy a A (qV dC dI cy a A below #[.ref (a 0), .ref (a 29), .int (L0 2), .int (L0 3)] s) 5 (x_copyRow__29 k 0) (fun L => [(0, .ref (a 0)), (1, .ref (a 29)), (2, .int (L 2)), (3, .int (L 3))]) 0 (fun L => [])) ∧ (bT p l e (headSpec w_x_copyRow__29 ({ frames := 1, cells := 0, slots := 0, locals := 24 })).room s m #[.ref (a 0), .ref (a 29), .int (L0 2), .int (L0 3)] below meth c dC dI cy a A (qV dC dI cy a A below #[.ref (a 0), .ref (a 29), .int (L0 2), .int (L0 3)] s) 5 (x_copyRow__29 k 1) (fun L => [(0, .ref (a 0)), (1, .ref (a 29)), (2, .int (L 2)), (3, .int (L 3)), (4, .int (L 4))]) 3 (fun L => [])) ∧ (bT p l e (headSpec w_x_copyRow__29 ({ frames := 1, cells := 0, slots := 0, locals := 24 })).room s m #[.ref (a 0), .ref (a 29), .int (L0 2), .int (L0 3)] below meth c dC dI cy a A (qV dC dI cy a A below #[.ref (a 0), .ref (a 29), .int (L0 2), .int (L0 3)] s) 5 (x_copyRow__29 k 2) (fun L => [(0, .ref (a 0)), (1, .ref (a 29)), (2, .int (L 2)), (3, .int (L 3)), (4, .int (L 4))]) 23 (fun L => [])) ∧ (bT p l e (headSpec w_x_copyRow__29 ({ frames := 1, cells := 0, slots := 0, locals := 24 })).room s m #[.ref (a 0), .ref (a 29), .int (L0 2), .int (L0 3)] below meth c dC dI cy a A (qV dC dI cy a A below #[.ref (a 0), .ref (a 29), .int (L0 2), .int (L0 3)] s) 5 (x_copyRow__29 k 3) (fun L => [(0, .ref (a 0)), (1, .ref (a 29)), (2, .int (L 2)), (3, .int (L 3)), (4, .int (L 4))]) 29 (fun L => [])) := by
    intro k
    induction k with
    | zero => exact ⟨fun L σ r h => (by cases h), fun L σ r h => (by cases h), fun L σ r h => (by cases h), fun L σ r h => (by cases h)⟩
    | succ k ih =>
      refine ⟨?_, ?_, ?_, ?_⟩
      · intro L σ r h H locs ls hP hD hS hl
        rw [x_copyRow__29] at h
        refine lv_iload_n hx hb dX12_copyRow_0 rfl (lv_at hl 2 rfl) ?_
        refine lv_istore (lv' := [(4, .int (L 2)), (0, .ref (a 0)), (1, .ref (a 29)), (2, .int (L 2)), (3, .int (L 3))]) hx hb dX12_copyRow_1 hl (by decide) rfl (fun ls hl => ?_)
        exact ih.2.1 (upd L 4 ((L 2))) σ r h H locs ls hP hD hS (lv_sub hl [1, 2, 3, 4, 0] rfl)
      · intro L σ r h H locs ls hP hD hS hl
        rw [x_copyRow__29] at h
        refine lv_iload hx hb dX12_copyRow_3 (lv_at hl 4 rfl) ?_
        refine lv_iload_n hx hb dX12_copyRow_5 rfl (lv_at hl 2 rfl) ?_
        refine lv_iload_n hx hb dX12_copyRow_6 rfl (lv_at hl 3 rfl) ?_
        refine lv_iadd hx hb dX12_copyRow_7 ?_
        refine lv_icmp_ge (tgt := 29) hx hb dX12_copyRow_8 (by decide) (fun c1 => ?_) (fun c1 => ?_)
        · rw [if_pos c1] at h
          exact ih.2.2.2 L σ r h H locs ls hP hD hS (lv_sub hl [0, 1, 2, 3, 4] rfl)
        · rw [if_neg c1] at h
          refine lv_aload_n hx hb dX12_copyRow_11 rfl (lv_at hl 1 rfl) ?_
          refine lv_iload hx hb dX12_copyRow_12 (lv_at hl 4 rfl) ?_
          refine lv_aload_n hx hb dX12_copyRow_14 rfl (lv_at hl 0 rfl) ?_
          refine lv_aload_n hx hb dX12_copyRow_15 rfl (lv_at hl 1 rfl) ?_
          refine lv_iload hx hb dX12_copyRow_16 (lv_at hl 4 rfl) ?_
          obtain ⟨q2, h⟩ := nb_ite1 h
          refine nl_29 hx hb hK hP q2 dX12_copyRow_18 ?_
          obtain ⟨r3, hc3, h⟩ := ob_ex h
          refine nc_Vi (As := [.int (σ.2.2 29 ((L 4)).toNatClampNeg)]) (rest := [.int (L 4), .ref (a 29)]) ⟨hx, hb, hml, hown, hts⟩ (c_x_copied l dC dI cy a k (upd (fun _ => 0) 1 ((σ.2.2 29 ((L 4)).toNatClampNeg))) σ r3 hc3 H.size) (cwV 1 hts g_x_copyRow__29_copied_388 rfl rfl rfl hd_x_copied ⟨Nat.le_of_ble_eq_true rfl, Nat.le_of_ble_eq_true rfl⟩) hK hG hA hP hD hS rfl hl.1 rfl (Nat.le_of_ble_eq_true rfl) dX12_copyRow_19 ⟨Nat.le_refl _, Nat.le_refl _⟩ (fun H locs hP hD hS => ?_)
          obtain ⟨q4, h⟩ := nb_ite1 h
          refine ns_29 hx hb hK hP hD hS q4 dX12_copyRow_22 (fun H locs hP hD hS => ?_)
          exact ih.2.2.1 L (r3.2.1, r3.2.2.1, updG r3.2.2.2 29 (upd (r3.2.2.2 29) ((L 4)).toNatClampNeg r3.1)) r h H locs ls hP hD hS (lv_sub hl [0, 1, 2, 3, 4] rfl)
      · intro L σ r h H locs ls hP hD hS hl
        rw [x_copyRow__29] at h
        refine lv_iinc (v := ((L 4)) + 1) (lv' := [(4, .int (((L 4)) + 1)), (0, .ref (a 0)), (1, .ref (a 29)), (2, .int (L 2)), (3, .int (L 3))]) hx hb dX12_copyRow_23 hl (k := 4) rfl rfl (by decide) rfl (fun ls hl => ?_)
        refine lv_goto (tgt := 3) hx hb dX12_copyRow_26 (by decide) ?_
        exact ih.2.1 (upd L 4 (((L 4)) + 1)) σ r h H locs ls hP hD hS (lv_sub hl [1, 2, 3, 4, 0] rfl)
      · intro L σ r h H locs ls hP hD hS hl
        rw [x_copyRow__29] at h
        cases h
        exact W.vret hx hb hr (fun t ht hW => ⟨⟨(), rfl, trivial, by rw [ht]; exact hP, va_K.moved hW.alike hK, hD⟩, hS.F ht⟩) hS.2.2 dX12_copyRow_29
  exact (blk k0).1 L0 σ0 r0 h0 s.heap [] ls hP hD hS hl
/-! copyRow__30 -/
def x_copyRow__30 : Nat → Nat → (Nat → Int32) → MS → Option (Int32 × MS)
  | 0, _, _, _ => none
  | k + 1, 0, L, σ => x_copyRow__30 k 1 (upd L 4 ((L 2))) σ
  | k + 1, 1, L, σ => if ((((L 2)) + ((L 3)))) ≤ ((L 4)) then (x_copyRow__30 k 3 L σ) else (if ¬ (((L 4)) < 0 ∨ 11514 ≤ ((L 4)).toNatClampNeg) then (ob (x_copied k 0 (upd (fun _ => 0) 1 ((σ.2.2 30 ((L 4)).toNatClampNeg))) σ) (fun r3 => if ¬ (((L 4)) < 0 ∨ 11514 ≤ ((L 4)).toNatClampNeg) then (x_copyRow__30 k 2 L (r3.2.1, r3.2.2.1, updG r3.2.2.2 30 (upd (r3.2.2.2 30) ((L 4)).toNatClampNeg r3.1))) else none)) else none)
  | k + 1, 2, L, σ => x_copyRow__30 k 1 (upd L 4 (((L 4)) + 1)) σ
  | k + 1, 3, L, σ => some (0, σ)
  | _ + 1, _ + 4, _, _ => none
def o_x_copyRow__30 : List Cond := [.methodLink RX12 388 yX12_copied, .instanceMethod yX12_copied, .selects RX12 yX12_copied yX12_copied, .initialized RX12]
theorem o_x_copyRow__30_good : o_x_copyRow__30.all goodWord = true := by decide +kernel
def p_x_copyRow__30 : List Cond := o_x_copyRow__30 ++ ((.code yX12_copied cX12_copied 5 (some .int) :: p_x_copied) ++ [])
theorem p_x_copyRow__30_good : p_x_copyRow__30.all goodWord = true := nb_all2 o_x_copyRow__30_good (nb_all2 (nb_allc (by decide +kernel) p_x_copied_good) rfl)
def w_x_copyRow__30 : List Cond := .code yX12_copyRow cX12_copyRow 5 none :: (p_x_copyRow__30 ++ fM)
theorem w_x_copyRow__30_good : w_x_copyRow__30.all goodWord = true := nb_allc (by decide +kernel) (nb_all2 p_x_copyRow__30_good fM_good)
theorem in_x_copyRow__30 : ∀ w ∈ wsX120, w ∈ w_x_copyRow__30 := fun _ h => List.mem_cons_of_mem _ (List.mem_append_right _ h)
theorem hd_x_copyRow__30 : yX12_copyRow.cls = RX12 ∧ yX12_copyRow.cls ≠ "java/lang/invoke/MethodHandle" ∧ yX12_copyRow.cls ≠ "java/lang/invoke/VarHandle" ∧ (parseMethodDescriptor yX12_copyRow.desc).map (fun d => d.parameters.length) = some 3 := by decide +kernel
theorem gg_x_copyRow__30_copied : GoodIn w_x_copyRow__30 w_x_copied := goodIn_sub (fun w h => (List.mem_cons.mp h).elim (fun e => (List.mem_cons_of_mem _ (List.mem_append_left _ (List.mem_append_right _ (List.mem_append_left _ (List.mem_cons.mpr (Or.inl e))))))) (fun h => (List.mem_append.mp h).elim (fun h => (List.mem_cons_of_mem _ (List.mem_append_left _ (List.mem_append_right _ (List.mem_append_left _ (List.mem_cons_of_mem _ h)))))) (fun h => List.mem_cons_of_mem _ (List.mem_append_right _ h)))) w_x_copied_good
theorem g_x_copyRow__30_copied_388 : GoodIn w_x_copyRow__30 (wsV RX12 388 RX12 yX12_copied w_x_copied) := goodIn_app (nb_g4 (List.mem_cons_of_mem _ (List.mem_append_left _ (List.mem_append_left _ (List.mem_of_getElem? (i := 0) rfl)))) (List.mem_cons_of_mem _ (List.mem_append_left _ (List.mem_append_left _ (List.mem_of_getElem? (i := 1) rfl)))) (List.mem_cons_of_mem _ (List.mem_append_left _ (List.mem_append_left _ (List.mem_of_getElem? (i := 2) rfl)))) (List.mem_cons_of_mem _ (List.mem_append_left _ (List.mem_append_left _ (List.mem_of_getElem? (i := 3) rfl)))) (by decide +kernel)) gg_x_copyRow__30_copied
set_option maxHeartbeats 40000000 in
set_option maxRecDepth 100000 in
theorem c_x_copyRow__30 (l : Launch) (dC : Nat → ClassId) (dI : Nat → Nat → Nat) (cy : Nat → ClassId) (a : Nat → Nat) (k0 : Nat) (L0 : Nat → Int32) (σ0 : MS) (r0 : Int32 × MS) (h0 : x_copyRow__30 k0 0 L0 σ0 = some r0) (sz : Nat) : Met l yX12_copyRow w_x_copyRow__30 ({ frames := 1, cells := 0, slots := 0, locals := 24 }) (va_Pc [.ref (a 0), .ref (a 30), .int (L0 2), .int (L0 3)] (nIn (dC, dI) cy sz (vM cy a σ0))) (va_Qv (fun _ : Unit => True) (fun _ t => nOut (dC, dI) cy (va_A (vM cy a σ0) sz) (vM cy a r0.2) t) (va_A (vM cy a σ0) sz)) 0 0 (va_A (vM cy a σ0) sz) := by
  refine Met.ofW (cc := cX12_copyRow) (maxL := 5) (ret := none) (by decide) rfl ?_
  intro p e s m args below meth c s₁ B hml hv
  obtain ⟨rfl, hsz, hP, hK, hD0, hG⟩ := hv
  have hx := B.exec
  have hb := B.bytes
  have hr := B.returns
  have hts := atoms_spec (ws := w_x_copyRow__30) B.pre
  have hown : s.vm.findClass RX12 = some m.cls := findClass_of_methodNamed B.named
  have hlocks := B.notSynchronized
  subst hsz
  have hD := hD0.self (sz := s.heap.size)
  generalize hAe : va_A (vM cy a σ0) s.heap.size = A at hD ⊢
  have hA : ∀ q : Nat, s.heap.size ≤ q → A q := fun q h => by rw [← hAe]; exact Or.inr h
  have hS : va_S A s.heap s.heap [] := va_S.rf
  have hl := lv_entry ([.ref (a 0), .ref (a 30), .int (L0 2), .int (L0 3)]) (n := 5) (Nat.le_of_ble_eq_true rfl)
  rw [lg_entry_eq]
  generalize (lg_sl ([.ref (a 0), .ref (a 30), .int (L0 2), .int (L0 3)]) ++ List.replicate (5 - (lg_sl ([.ref (a 0), .ref (a 30), .int (L0 2), .int (L0 3)])).length) Slot.unset).toArray = ls at hl ⊢
  have hl : lv_has ls 5 [(0, .ref (a 0)), (1, .ref (a 30)), (2, .int (L0 2)), (3, .int (L0 3))] := hl
  have blk : ∀ k : Nat, (bT p l e (headSpec w_x_copyRow__30 ({ frames := 1, cells := 0, slots := 0, locals := 24 })).room s m #[.ref (a 0), .ref (a 30), .int (L0 2), .int (L0 3)] below meth c dC dI cy a A (qV dC dI cy a A below #[.ref (a 0), .ref (a 30), .int (L0 2), .int (L0 3)] s) 5 (x_copyRow__30 k 0) (fun L => [(0, .ref (a 0)), (1, .ref (a 30)), (2, .int (L 2)), (3, .int (L 3))]) 0 (fun L => [])) ∧ (bT p l e (headSpec w_x_copyRow__30 ({ frames := 1, cells := 0, slots := 0, locals := 24 })).room s m #[.ref (a 0), .ref (a 30), .int (L0 2), .int (L0 3)] below meth c dC dI cy a A (qV dC dI cy a A below #[.ref (a 0), .ref (a 30), .int (L0 2), .int (L0 3)] s) 5 (x_copyRow__30 k 1) (fun L => [(0, .ref (a 0)), (1, .ref (a 30)), (2, .int (L 2)), (3, .int (L 3)), (4, .int (L 4))]) 3 (fun L => [])) ∧ (bT p l e (headSpec w_x_copyRow__30 ({ frames := 1, cells := 0, slots := 0, locals := 24 })).room s m #[.ref (a 0), .ref (a 30), .int (L0 2), .int (L0 3)] below meth c dC dI cy a A (qV dC dI cy a A below #[.ref (a 0), .ref (a 30), .int (L0 2), .int (L0 3)] s) 5 (x_copyRow__30 k 2) (fun L => [(0, .ref (a 0)), (1, .ref (a 30)), (2, .int (L 2)), (3, .int (L 3)), (4, .int (L 4))]) 23 (fun L => [])) ∧ (bT p l e (headSpec w_x_copyRow__30 ({ frames := 1, cells := 0, slots := 0, locals := 24 })).room s m #[.ref (a 0), .ref (a 30), .int (L0 2), .int (L0 3)] below meth c dC dI cy a A (qV dC dI cy a A below #[.ref (a 0), .ref (a 30), .int (L0 2), .int (L0 3)] s) 5 (x_copyRow__30 k 3) (fun L => [(0, .ref (a 0)), (1, .ref (a 30)), (2, .int (L 2)), (3, .int (L 3)), (4, .int (L 4))]) 29 (fun L => [])) := by
    intro k
    induction k with
    | zero => exact ⟨fun L σ r h => (by cases h), fun L σ r h => (by cases h), fun L σ r h => (by cases h), fun L σ r h => (by cases h)⟩
    | succ k ih =>
      refine ⟨?_, ?_, ?_, ?_⟩
      · intro L σ r h H locs ls hP hD hS hl
        rw [x_copyRow__30] at h
        refine lv_iload_n hx hb dX12_copyRow_0 rfl (lv_at hl 2 rfl) ?_
        refine lv_istore (lv' := [(4, .int (L 2)), (0, .ref (a 0)), (1, .ref (a 30)), (2, .int (L 2)), (3, .int (L 3))]) hx hb dX12_copyRow_1 hl (by decide) rfl (fun ls hl => ?_)
        exact ih.2.1 (upd L 4 ((L 2))) σ r h H locs ls hP hD hS (lv_sub hl [1, 2, 3, 4, 0] rfl)
      · intro L σ r h H locs ls hP hD hS hl
        rw [x_copyRow__30] at h
        refine lv_iload hx hb dX12_copyRow_3 (lv_at hl 4 rfl) ?_
        refine lv_iload_n hx hb dX12_copyRow_5 rfl (lv_at hl 2 rfl) ?_
        refine lv_iload_n hx hb dX12_copyRow_6 rfl (lv_at hl 3 rfl) ?_
        refine lv_iadd hx hb dX12_copyRow_7 ?_
        refine lv_icmp_ge (tgt := 29) hx hb dX12_copyRow_8 (by decide) (fun c1 => ?_) (fun c1 => ?_)
        · rw [if_pos c1] at h
          exact ih.2.2.2 L σ r h H locs ls hP hD hS (lv_sub hl [0, 1, 2, 3, 4] rfl)
        · rw [if_neg c1] at h
          refine lv_aload_n hx hb dX12_copyRow_11 rfl (lv_at hl 1 rfl) ?_
          refine lv_iload hx hb dX12_copyRow_12 (lv_at hl 4 rfl) ?_
          refine lv_aload_n hx hb dX12_copyRow_14 rfl (lv_at hl 0 rfl) ?_
          refine lv_aload_n hx hb dX12_copyRow_15 rfl (lv_at hl 1 rfl) ?_
          refine lv_iload hx hb dX12_copyRow_16 (lv_at hl 4 rfl) ?_
          obtain ⟨q2, h⟩ := nb_ite1 h
          refine nl_30 hx hb hK hP q2 dX12_copyRow_18 ?_
          obtain ⟨r3, hc3, h⟩ := ob_ex h
          refine nc_Vi (As := [.int (σ.2.2 30 ((L 4)).toNatClampNeg)]) (rest := [.int (L 4), .ref (a 30)]) ⟨hx, hb, hml, hown, hts⟩ (c_x_copied l dC dI cy a k (upd (fun _ => 0) 1 ((σ.2.2 30 ((L 4)).toNatClampNeg))) σ r3 hc3 H.size) (cwV 1 hts g_x_copyRow__30_copied_388 rfl rfl rfl hd_x_copied ⟨Nat.le_of_ble_eq_true rfl, Nat.le_of_ble_eq_true rfl⟩) hK hG hA hP hD hS rfl hl.1 rfl (Nat.le_of_ble_eq_true rfl) dX12_copyRow_19 ⟨Nat.le_refl _, Nat.le_refl _⟩ (fun H locs hP hD hS => ?_)
          obtain ⟨q4, h⟩ := nb_ite1 h
          refine ns_30 hx hb hK hP hD hS q4 dX12_copyRow_22 (fun H locs hP hD hS => ?_)
          exact ih.2.2.1 L (r3.2.1, r3.2.2.1, updG r3.2.2.2 30 (upd (r3.2.2.2 30) ((L 4)).toNatClampNeg r3.1)) r h H locs ls hP hD hS (lv_sub hl [0, 1, 2, 3, 4] rfl)
      · intro L σ r h H locs ls hP hD hS hl
        rw [x_copyRow__30] at h
        refine lv_iinc (v := ((L 4)) + 1) (lv' := [(4, .int (((L 4)) + 1)), (0, .ref (a 0)), (1, .ref (a 30)), (2, .int (L 2)), (3, .int (L 3))]) hx hb dX12_copyRow_23 hl (k := 4) rfl rfl (by decide) rfl (fun ls hl => ?_)
        refine lv_goto (tgt := 3) hx hb dX12_copyRow_26 (by decide) ?_
        exact ih.2.1 (upd L 4 (((L 4)) + 1)) σ r h H locs ls hP hD hS (lv_sub hl [1, 2, 3, 4, 0] rfl)
      · intro L σ r h H locs ls hP hD hS hl
        rw [x_copyRow__30] at h
        cases h
        exact W.vret hx hb hr (fun t ht hW => ⟨⟨(), rfl, trivial, by rw [ht]; exact hP, va_K.moved hW.alike hK, hD⟩, hS.F ht⟩) hS.2.2 dX12_copyRow_29
  exact (blk k0).1 L0 σ0 r0 h0 s.heap [] ls hP hD hS hl
/-! copyState__30 -/
def x_copyState__30 : Nat → Nat → (Nat → Int32) → MS → Option (Int32 × MS)
  | 0, _, _, _ => none
  | k + 1, 0, L, σ => ob (x_copyRow__30 k 0 (upd (upd (fun _ => 0) 2 ((((L 2)) + 4))) 3 60) σ) (fun r1 => if ¬ (((((L 2)) + 1)) < 0 ∨ 11514 ≤ ((((L 2)) + 1)).toNatClampNeg) then (ob (x_copyRow__30 k 0 (upd (upd (fun _ => 0) 2 ((((L 2)) + 214))) 3 ((60 * ((r1.2.2.2 30 ((((L 2)) + 1)).toNatClampNeg))))) r1.2) (fun r3 => if ¬ (((((L 2)) + 3)) < 0 ∨ 11514 ≤ ((((L 2)) + 3)).toNatClampNeg) then (ob (x_copyRow__30 k 0 (upd (upd (fun _ => 0) 2 ((((L 2)) + 5314))) 3 ((r3.2.2.2 30 ((((L 2)) + 3)).toNatClampNeg))) r3.2) (fun r5 => some (0, r5.2))) else none)) else none)
  | _ + 1, _ + 1, _, _ => none
def o_x_copyState__30 : List Cond := [.methodLink RX12 391 yX12_copyRow, .instanceMethod yX12_copyRow, .selects RX12 yX12_copyRow yX12_copyRow, .initialized RX12]
theorem o_x_copyState__30_good : o_x_copyState__30.all goodWord = true := by decide +kernel
def p_x_copyState__30 : List Cond := o_x_copyState__30 ++ ((.code yX12_copyRow cX12_copyRow 5 none :: p_x_copyRow__30) ++ [])
theorem p_x_copyState__30_good : p_x_copyState__30.all goodWord = true := nb_all2 o_x_copyState__30_good (nb_all2 (nb_allc (by decide +kernel) p_x_copyRow__30_good) rfl)
def w_x_copyState__30 : List Cond := .code yX12_copyState cX12_copyState 3 none :: (p_x_copyState__30 ++ fM)
theorem w_x_copyState__30_good : w_x_copyState__30.all goodWord = true := nb_allc (by decide +kernel) (nb_all2 p_x_copyState__30_good fM_good)
theorem in_x_copyState__30 : ∀ w ∈ wsX120, w ∈ w_x_copyState__30 := fun _ h => List.mem_cons_of_mem _ (List.mem_append_right _ h)
theorem hd_x_copyState__30 : yX12_copyState.cls = RX12 ∧ yX12_copyState.cls ≠ "java/lang/invoke/MethodHandle" ∧ yX12_copyState.cls ≠ "java/lang/invoke/VarHandle" ∧ (parseMethodDescriptor yX12_copyState.desc).map (fun d => d.parameters.length) = some 2 := by decide +kernel
theorem gg_x_copyState__30_copyRow__30 : GoodIn w_x_copyState__30 w_x_copyRow__30 := goodIn_sub (fun w h => (List.mem_cons.mp h).elim (fun e => (List.mem_cons_of_mem _ (List.mem_append_left _ (List.mem_append_right _ (List.mem_append_left _ (List.mem_cons.mpr (Or.inl e))))))) (fun h => (List.mem_append.mp h).elim (fun h => (List.mem_cons_of_mem _ (List.mem_append_left _ (List.mem_append_right _ (List.mem_append_left _ (List.mem_cons_of_mem _ h)))))) (fun h => List.mem_cons_of_mem _ (List.mem_append_right _ h)))) w_x_copyRow__30_good
theorem g_x_copyState__30_copyRow__30_391 : GoodIn w_x_copyState__30 (wsV RX12 391 RX12 yX12_copyRow w_x_copyRow__30) := goodIn_app (nb_g4 (List.mem_cons_of_mem _ (List.mem_append_left _ (List.mem_append_left _ (List.mem_of_getElem? (i := 0) rfl)))) (List.mem_cons_of_mem _ (List.mem_append_left _ (List.mem_append_left _ (List.mem_of_getElem? (i := 1) rfl)))) (List.mem_cons_of_mem _ (List.mem_append_left _ (List.mem_append_left _ (List.mem_of_getElem? (i := 2) rfl)))) (List.mem_cons_of_mem _ (List.mem_append_left _ (List.mem_append_left _ (List.mem_of_getElem? (i := 3) rfl)))) (by decide +kernel)) gg_x_copyState__30_copyRow__30
set_option maxHeartbeats 40000000 in
set_option maxRecDepth 100000 in
theorem c_x_copyState__30 (l : Launch) (dC : Nat → ClassId) (dI : Nat → Nat → Nat) (cy : Nat → ClassId) (a : Nat → Nat) (k0 : Nat) (L0 : Nat → Int32) (σ0 : MS) (r0 : Int32 × MS) (h0 : x_copyState__30 k0 0 L0 σ0 = some r0) (sz : Nat) : Met l yX12_copyState w_x_copyState__30 ({ frames := 2, cells := 0, slots := 0, locals := 48 }) (va_Pc [.ref (a 0), .ref (a 30), .int (L0 2)] (nIn (dC, dI) cy sz (vM cy a σ0))) (va_Qv (fun _ : Unit => True) (fun _ t => nOut (dC, dI) cy (va_A (vM cy a σ0) sz) (vM cy a r0.2) t) (va_A (vM cy a σ0) sz)) 0 0 (va_A (vM cy a σ0) sz) := by
  refine Met.ofW (cc := cX12_copyState) (maxL := 3) (ret := none) (by decide) rfl ?_
  intro p e s m args below meth c s₁ B hml hv
  obtain ⟨rfl, hsz, hP, hK, hD0, hG⟩ := hv
  have hx := B.exec
  have hb := B.bytes
  have hr := B.returns
  have hts := atoms_spec (ws := w_x_copyState__30) B.pre
  have hown : s.vm.findClass RX12 = some m.cls := findClass_of_methodNamed B.named
  have hlocks := B.notSynchronized
  subst hsz
  have hD := hD0.self (sz := s.heap.size)
  generalize hAe : va_A (vM cy a σ0) s.heap.size = A at hD ⊢
  have hA : ∀ q : Nat, s.heap.size ≤ q → A q := fun q h => by rw [← hAe]; exact Or.inr h
  have hS : va_S A s.heap s.heap [] := va_S.rf
  have hl := lv_entry ([.ref (a 0), .ref (a 30), .int (L0 2)]) (n := 3) (Nat.le_of_ble_eq_true rfl)
  rw [lg_entry_eq]
  generalize (lg_sl ([.ref (a 0), .ref (a 30), .int (L0 2)]) ++ List.replicate (3 - (lg_sl ([.ref (a 0), .ref (a 30), .int (L0 2)])).length) Slot.unset).toArray = ls at hl ⊢
  have hl : lv_has ls 3 [(0, .ref (a 0)), (1, .ref (a 30)), (2, .int (L0 2))] := hl
  have blk : ∀ k : Nat, (bT p l e (headSpec w_x_copyState__30 ({ frames := 2, cells := 0, slots := 0, locals := 48 })).room s m #[.ref (a 0), .ref (a 30), .int (L0 2)] below meth c dC dI cy a A (qV dC dI cy a A below #[.ref (a 0), .ref (a 30), .int (L0 2)] s) 3 (x_copyState__30 k 0) (fun L => [(0, .ref (a 0)), (1, .ref (a 30)), (2, .int (L 2))]) 0 (fun L => [])) := by
    intro k
    induction k with
    | zero => exact fun L σ r h => (by cases h)
    | succ k ih =>
      skip
      · intro L σ r h H locs ls hP hD hS hl
        rw [x_copyState__30] at h
        refine lv_aload_n hx hb dX12_copyState_0 rfl (lv_at hl 0 rfl) ?_
        refine lv_aload_n hx hb dX12_copyState_1 rfl (lv_at hl 1 rfl) ?_
        refine lv_iload_n hx hb dX12_copyState_2 rfl (lv_at hl 2 rfl) ?_
        refine lv_iconst (v := 4) hx hb dX12_copyState_3 (by decide) ?_
        refine lv_iadd hx hb dX12_copyState_4 ?_
        refine lv_bipush (v := 60) hx hb dX12_copyState_5 (by decide) ?_
        obtain ⟨r1, hc1, h⟩ := ob_ex h
        refine nc_Vv (As := [.ref (a 30), .int (((L 2)) + 4), .int 60]) (rest := []) ⟨hx, hb, hml, hown, hts⟩ (c_x_copyRow__30 l dC dI cy a k (upd (upd (fun _ => 0) 2 ((((L 2)) + 4))) 3 60) σ r1 hc1 H.size) (cwV 3 hts g_x_copyState__30_copyRow__30_391 rfl rfl rfl hd_x_copyRow__30 ⟨Nat.le_of_ble_eq_true rfl, Nat.le_of_ble_eq_true rfl⟩) hK hG hA hP hD hS rfl hl.1 rfl (Nat.le_of_ble_eq_true rfl) dX12_copyState_7 ⟨Nat.le_refl _, Nat.le_refl _⟩ (fun H locs hP hD hS => ?_)
        refine lv_aload_n hx hb dX12_copyState_10 rfl (lv_at hl 0 rfl) ?_
        refine lv_aload_n hx hb dX12_copyState_11 rfl (lv_at hl 1 rfl) ?_
        refine lv_iload_n hx hb dX12_copyState_12 rfl (lv_at hl 2 rfl) ?_
        refine lv_sipush (v := 214) hx hb dX12_copyState_13 (by decide) ?_
        refine lv_iadd hx hb dX12_copyState_16 ?_
        refine lv_bipush (v := 60) hx hb dX12_copyState_17 (by decide) ?_
        refine lv_aload_n hx hb dX12_copyState_19 rfl (lv_at hl 1 rfl) ?_
        refine lv_iload_n hx hb dX12_copyState_20 rfl (lv_at hl 2 rfl) ?_
        refine lv_iconst (v := 1) hx hb dX12_copyState_21 (by decide) ?_
        refine lv_iadd hx hb dX12_copyState_22 ?_
        obtain ⟨q2, h⟩ := nb_ite1 h
        refine nl_30 hx hb hK hP q2 dX12_copyState_23 ?_
        refine lv_imul hx hb dX12_copyState_24 ?_
        obtain ⟨r3, hc3, h⟩ := ob_ex h
        refine nc_Vv (As := [.ref (a 30), .int (((L 2)) + 214), .int (60 * ((r1.2.2.2 30 ((((L 2)) + 1)).toNatClampNeg)))]) (rest := []) ⟨hx, hb, hml, hown, hts⟩ (c_x_copyRow__30 l dC dI cy a k (upd (upd (fun _ => 0) 2 ((((L 2)) + 214))) 3 ((60 * ((r1.2.2.2 30 ((((L 2)) + 1)).toNatClampNeg))))) r1.2 r3 hc3 H.size) (cwV 3 hts g_x_copyState__30_copyRow__30_391 rfl rfl rfl hd_x_copyRow__30 ⟨Nat.le_of_ble_eq_true rfl, Nat.le_of_ble_eq_true rfl⟩) hK hG hA hP hD hS rfl hl.1 rfl (Nat.le_of_ble_eq_true rfl) dX12_copyState_25 ⟨Nat.le_refl _, Nat.le_refl _⟩ (fun H locs hP hD hS => ?_)
        refine lv_aload_n hx hb dX12_copyState_28 rfl (lv_at hl 0 rfl) ?_
        refine lv_aload_n hx hb dX12_copyState_29 rfl (lv_at hl 1 rfl) ?_
        refine lv_iload_n hx hb dX12_copyState_30 rfl (lv_at hl 2 rfl) ?_
        refine lv_sipush (v := 5314) hx hb dX12_copyState_31 (by decide) ?_
        refine lv_iadd hx hb dX12_copyState_34 ?_
        refine lv_aload_n hx hb dX12_copyState_35 rfl (lv_at hl 1 rfl) ?_
        refine lv_iload_n hx hb dX12_copyState_36 rfl (lv_at hl 2 rfl) ?_
        refine lv_iconst (v := 3) hx hb dX12_copyState_37 (by decide) ?_
        refine lv_iadd hx hb dX12_copyState_38 ?_
        obtain ⟨q4, h⟩ := nb_ite1 h
        refine nl_30 hx hb hK hP q4 dX12_copyState_39 ?_
        obtain ⟨r5, hc5, h⟩ := ob_ex h
        refine nc_Vv (As := [.ref (a 30), .int (((L 2)) + 5314), .int (r3.2.2.2 30 ((((L 2)) + 3)).toNatClampNeg)]) (rest := []) ⟨hx, hb, hml, hown, hts⟩ (c_x_copyRow__30 l dC dI cy a k (upd (upd (fun _ => 0) 2 ((((L 2)) + 5314))) 3 ((r3.2.2.2 30 ((((L 2)) + 3)).toNatClampNeg))) r3.2 r5 hc5 H.size) (cwV 3 hts g_x_copyState__30_copyRow__30_391 rfl rfl rfl hd_x_copyRow__30 ⟨Nat.le_of_ble_eq_true rfl, Nat.le_of_ble_eq_true rfl⟩) hK hG hA hP hD hS rfl hl.1 rfl (Nat.le_of_ble_eq_true rfl) dX12_copyState_40 ⟨Nat.le_refl _, Nat.le_refl _⟩ (fun H locs hP hD hS => ?_)
        cases h
        exact W.vret hx hb hr (fun t ht hW => ⟨⟨(), rfl, trivial, by rw [ht]; exact hP, va_K.moved hW.alike hK, hD⟩, hS.F ht⟩) hS.2.2 dX12_copyState_43
  exact (blk k0) L0 σ0 r0 h0 s.heap [] ls hP hD hS hl
/-! copyRow__31 -/
def x_copyRow__31 : Nat → Nat → (Nat → Int32) → MS → Option (Int32 × MS)
  | 0, _, _, _ => none
  | k + 1, 0, L, σ => x_copyRow__31 k 1 (upd L 4 ((L 2))) σ
  | k + 1, 1, L, σ => if ((((L 2)) + ((L 3)))) ≤ ((L 4)) then (x_copyRow__31 k 3 L σ) else (if ¬ (((L 4)) < 0 ∨ 230280 ≤ ((L 4)).toNatClampNeg) then (ob (x_copied k 0 (upd (fun _ => 0) 1 ((σ.2.2 31 ((L 4)).toNatClampNeg))) σ) (fun r3 => if ¬ (((L 4)) < 0 ∨ 230280 ≤ ((L 4)).toNatClampNeg) then (x_copyRow__31 k 2 L (r3.2.1, r3.2.2.1, updG r3.2.2.2 31 (upd (r3.2.2.2 31) ((L 4)).toNatClampNeg r3.1))) else none)) else none)
  | k + 1, 2, L, σ => x_copyRow__31 k 1 (upd L 4 (((L 4)) + 1)) σ
  | k + 1, 3, L, σ => some (0, σ)
  | _ + 1, _ + 4, _, _ => none
def o_x_copyRow__31 : List Cond := [.methodLink RX12 388 yX12_copied, .instanceMethod yX12_copied, .selects RX12 yX12_copied yX12_copied, .initialized RX12]
theorem o_x_copyRow__31_good : o_x_copyRow__31.all goodWord = true := by decide +kernel
def p_x_copyRow__31 : List Cond := o_x_copyRow__31 ++ ((.code yX12_copied cX12_copied 5 (some .int) :: p_x_copied) ++ [])
theorem p_x_copyRow__31_good : p_x_copyRow__31.all goodWord = true := nb_all2 o_x_copyRow__31_good (nb_all2 (nb_allc (by decide +kernel) p_x_copied_good) rfl)
def w_x_copyRow__31 : List Cond := .code yX12_copyRow cX12_copyRow 5 none :: (p_x_copyRow__31 ++ fM)
theorem w_x_copyRow__31_good : w_x_copyRow__31.all goodWord = true := nb_allc (by decide +kernel) (nb_all2 p_x_copyRow__31_good fM_good)
theorem in_x_copyRow__31 : ∀ w ∈ wsX120, w ∈ w_x_copyRow__31 := fun _ h => List.mem_cons_of_mem _ (List.mem_append_right _ h)
theorem hd_x_copyRow__31 : yX12_copyRow.cls = RX12 ∧ yX12_copyRow.cls ≠ "java/lang/invoke/MethodHandle" ∧ yX12_copyRow.cls ≠ "java/lang/invoke/VarHandle" ∧ (parseMethodDescriptor yX12_copyRow.desc).map (fun d => d.parameters.length) = some 3 := by decide +kernel
theorem gg_x_copyRow__31_copied : GoodIn w_x_copyRow__31 w_x_copied := goodIn_sub (fun w h => (List.mem_cons.mp h).elim (fun e => (List.mem_cons_of_mem _ (List.mem_append_left _ (List.mem_append_right _ (List.mem_append_left _ (List.mem_cons.mpr (Or.inl e))))))) (fun h => (List.mem_append.mp h).elim (fun h => (List.mem_cons_of_mem _ (List.mem_append_left _ (List.mem_append_right _ (List.mem_append_left _ (List.mem_cons_of_mem _ h)))))) (fun h => List.mem_cons_of_mem _ (List.mem_append_right _ h)))) w_x_copied_good
theorem g_x_copyRow__31_copied_388 : GoodIn w_x_copyRow__31 (wsV RX12 388 RX12 yX12_copied w_x_copied) := goodIn_app (nb_g4 (List.mem_cons_of_mem _ (List.mem_append_left _ (List.mem_append_left _ (List.mem_of_getElem? (i := 0) rfl)))) (List.mem_cons_of_mem _ (List.mem_append_left _ (List.mem_append_left _ (List.mem_of_getElem? (i := 1) rfl)))) (List.mem_cons_of_mem _ (List.mem_append_left _ (List.mem_append_left _ (List.mem_of_getElem? (i := 2) rfl)))) (List.mem_cons_of_mem _ (List.mem_append_left _ (List.mem_append_left _ (List.mem_of_getElem? (i := 3) rfl)))) (by decide +kernel)) gg_x_copyRow__31_copied
set_option maxHeartbeats 40000000 in
set_option maxRecDepth 100000 in
theorem c_x_copyRow__31 (l : Launch) (dC : Nat → ClassId) (dI : Nat → Nat → Nat) (cy : Nat → ClassId) (a : Nat → Nat) (k0 : Nat) (L0 : Nat → Int32) (σ0 : MS) (r0 : Int32 × MS) (h0 : x_copyRow__31 k0 0 L0 σ0 = some r0) (sz : Nat) : Met l yX12_copyRow w_x_copyRow__31 ({ frames := 1, cells := 0, slots := 0, locals := 24 }) (va_Pc [.ref (a 0), .ref (a 31), .int (L0 2), .int (L0 3)] (nIn (dC, dI) cy sz (vM cy a σ0))) (va_Qv (fun _ : Unit => True) (fun _ t => nOut (dC, dI) cy (va_A (vM cy a σ0) sz) (vM cy a r0.2) t) (va_A (vM cy a σ0) sz)) 0 0 (va_A (vM cy a σ0) sz) := by
  refine Met.ofW (cc := cX12_copyRow) (maxL := 5) (ret := none) (by decide) rfl ?_
  intro p e s m args below meth c s₁ B hml hv
  obtain ⟨rfl, hsz, hP, hK, hD0, hG⟩ := hv
  have hx := B.exec
  have hb := B.bytes
  have hr := B.returns
  have hts := atoms_spec (ws := w_x_copyRow__31) B.pre
  have hown : s.vm.findClass RX12 = some m.cls := findClass_of_methodNamed B.named
  have hlocks := B.notSynchronized
  subst hsz
  have hD := hD0.self (sz := s.heap.size)
  generalize hAe : va_A (vM cy a σ0) s.heap.size = A at hD ⊢
  have hA : ∀ q : Nat, s.heap.size ≤ q → A q := fun q h => by rw [← hAe]; exact Or.inr h
  have hS : va_S A s.heap s.heap [] := va_S.rf
  have hl := lv_entry ([.ref (a 0), .ref (a 31), .int (L0 2), .int (L0 3)]) (n := 5) (Nat.le_of_ble_eq_true rfl)
  rw [lg_entry_eq]
  generalize (lg_sl ([.ref (a 0), .ref (a 31), .int (L0 2), .int (L0 3)]) ++ List.replicate (5 - (lg_sl ([.ref (a 0), .ref (a 31), .int (L0 2), .int (L0 3)])).length) Slot.unset).toArray = ls at hl ⊢
  have hl : lv_has ls 5 [(0, .ref (a 0)), (1, .ref (a 31)), (2, .int (L0 2)), (3, .int (L0 3))] := hl
  have blk : ∀ k : Nat, (bT p l e (headSpec w_x_copyRow__31 ({ frames := 1, cells := 0, slots := 0, locals := 24 })).room s m #[.ref (a 0), .ref (a 31), .int (L0 2), .int (L0 3)] below meth c dC dI cy a A (qV dC dI cy a A below #[.ref (a 0), .ref (a 31), .int (L0 2), .int (L0 3)] s) 5 (x_copyRow__31 k 0) (fun L => [(0, .ref (a 0)), (1, .ref (a 31)), (2, .int (L 2)), (3, .int (L 3))]) 0 (fun L => [])) ∧ (bT p l e (headSpec w_x_copyRow__31 ({ frames := 1, cells := 0, slots := 0, locals := 24 })).room s m #[.ref (a 0), .ref (a 31), .int (L0 2), .int (L0 3)] below meth c dC dI cy a A (qV dC dI cy a A below #[.ref (a 0), .ref (a 31), .int (L0 2), .int (L0 3)] s) 5 (x_copyRow__31 k 1) (fun L => [(0, .ref (a 0)), (1, .ref (a 31)), (2, .int (L 2)), (3, .int (L 3)), (4, .int (L 4))]) 3 (fun L => [])) ∧ (bT p l e (headSpec w_x_copyRow__31 ({ frames := 1, cells := 0, slots := 0, locals := 24 })).room s m #[.ref (a 0), .ref (a 31), .int (L0 2), .int (L0 3)] below meth c dC dI cy a A (qV dC dI cy a A below #[.ref (a 0), .ref (a 31), .int (L0 2), .int (L0 3)] s) 5 (x_copyRow__31 k 2) (fun L => [(0, .ref (a 0)), (1, .ref (a 31)), (2, .int (L 2)), (3, .int (L 3)), (4, .int (L 4))]) 23 (fun L => [])) ∧ (bT p l e (headSpec w_x_copyRow__31 ({ frames := 1, cells := 0, slots := 0, locals := 24 })).room s m #[.ref (a 0), .ref (a 31), .int (L0 2), .int (L0 3)] below meth c dC dI cy a A (qV dC dI cy a A below #[.ref (a 0), .ref (a 31), .int (L0 2), .int (L0 3)] s) 5 (x_copyRow__31 k 3) (fun L => [(0, .ref (a 0)), (1, .ref (a 31)), (2, .int (L 2)), (3, .int (L 3)), (4, .int (L 4))]) 29 (fun L => [])) := by
    intro k
    induction k with
    | zero => exact ⟨fun L σ r h => (by cases h), fun L σ r h => (by cases h), fun L σ r h => (by cases h), fun L σ r h => (by cases h)⟩
    | succ k ih =>
      refine ⟨?_, ?_, ?_, ?_⟩
      · intro L σ r h H locs ls hP hD hS hl
        rw [x_copyRow__31] at h
        refine lv_iload_n hx hb dX12_copyRow_0 rfl (lv_at hl 2 rfl) ?_
        refine lv_istore (lv' := [(4, .int (L 2)), (0, .ref (a 0)), (1, .ref (a 31)), (2, .int (L 2)), (3, .int (L 3))]) hx hb dX12_copyRow_1 hl (by decide) rfl (fun ls hl => ?_)
        exact ih.2.1 (upd L 4 ((L 2))) σ r h H locs ls hP hD hS (lv_sub hl [1, 2, 3, 4, 0] rfl)
      · intro L σ r h H locs ls hP hD hS hl
        rw [x_copyRow__31] at h
        refine lv_iload hx hb dX12_copyRow_3 (lv_at hl 4 rfl) ?_
        refine lv_iload_n hx hb dX12_copyRow_5 rfl (lv_at hl 2 rfl) ?_
        refine lv_iload_n hx hb dX12_copyRow_6 rfl (lv_at hl 3 rfl) ?_
        refine lv_iadd hx hb dX12_copyRow_7 ?_
        refine lv_icmp_ge (tgt := 29) hx hb dX12_copyRow_8 (by decide) (fun c1 => ?_) (fun c1 => ?_)
        · rw [if_pos c1] at h
          exact ih.2.2.2 L σ r h H locs ls hP hD hS (lv_sub hl [0, 1, 2, 3, 4] rfl)
        · rw [if_neg c1] at h
          refine lv_aload_n hx hb dX12_copyRow_11 rfl (lv_at hl 1 rfl) ?_
          refine lv_iload hx hb dX12_copyRow_12 (lv_at hl 4 rfl) ?_
          refine lv_aload_n hx hb dX12_copyRow_14 rfl (lv_at hl 0 rfl) ?_
          refine lv_aload_n hx hb dX12_copyRow_15 rfl (lv_at hl 1 rfl) ?_
          refine lv_iload hx hb dX12_copyRow_16 (lv_at hl 4 rfl) ?_
          obtain ⟨q2, h⟩ := nb_ite1 h
          refine nl_31 hx hb hK hP q2 dX12_copyRow_18 ?_
          obtain ⟨r3, hc3, h⟩ := ob_ex h
          refine nc_Vi (As := [.int (σ.2.2 31 ((L 4)).toNatClampNeg)]) (rest := [.int (L 4), .ref (a 31)]) ⟨hx, hb, hml, hown, hts⟩ (c_x_copied l dC dI cy a k (upd (fun _ => 0) 1 ((σ.2.2 31 ((L 4)).toNatClampNeg))) σ r3 hc3 H.size) (cwV 1 hts g_x_copyRow__31_copied_388 rfl rfl rfl hd_x_copied ⟨Nat.le_of_ble_eq_true rfl, Nat.le_of_ble_eq_true rfl⟩) hK hG hA hP hD hS rfl hl.1 rfl (Nat.le_of_ble_eq_true rfl) dX12_copyRow_19 ⟨Nat.le_refl _, Nat.le_refl _⟩ (fun H locs hP hD hS => ?_)
          obtain ⟨q4, h⟩ := nb_ite1 h
          refine ns_31 hx hb hK hP hD hS q4 dX12_copyRow_22 (fun H locs hP hD hS => ?_)
          exact ih.2.2.1 L (r3.2.1, r3.2.2.1, updG r3.2.2.2 31 (upd (r3.2.2.2 31) ((L 4)).toNatClampNeg r3.1)) r h H locs ls hP hD hS (lv_sub hl [0, 1, 2, 3, 4] rfl)
      · intro L σ r h H locs ls hP hD hS hl
        rw [x_copyRow__31] at h
        refine lv_iinc (v := ((L 4)) + 1) (lv' := [(4, .int (((L 4)) + 1)), (0, .ref (a 0)), (1, .ref (a 31)), (2, .int (L 2)), (3, .int (L 3))]) hx hb dX12_copyRow_23 hl (k := 4) rfl rfl (by decide) rfl (fun ls hl => ?_)
        refine lv_goto (tgt := 3) hx hb dX12_copyRow_26 (by decide) ?_
        exact ih.2.1 (upd L 4 (((L 4)) + 1)) σ r h H locs ls hP hD hS (lv_sub hl [1, 2, 3, 4, 0] rfl)
      · intro L σ r h H locs ls hP hD hS hl
        rw [x_copyRow__31] at h
        cases h
        exact W.vret hx hb hr (fun t ht hW => ⟨⟨(), rfl, trivial, by rw [ht]; exact hP, va_K.moved hW.alike hK, hD⟩, hS.F ht⟩) hS.2.2 dX12_copyRow_29
  exact (blk k0).1 L0 σ0 r0 h0 s.heap [] ls hP hD hS hl
/-! copyState__31 -/
def x_copyState__31 : Nat → Nat → (Nat → Int32) → MS → Option (Int32 × MS)
  | 0, _, _, _ => none
  | k + 1, 0, L, σ => ob (x_copyRow__31 k 0 (upd (upd (fun _ => 0) 2 ((((L 2)) + 4))) 3 60) σ) (fun r1 => if ¬ (((((L 2)) + 1)) < 0 ∨ 230280 ≤ ((((L 2)) + 1)).toNatClampNeg) then (ob (x_copyRow__31 k 0 (upd (upd (fun _ => 0) 2 ((((L 2)) + 214))) 3 ((60 * ((r1.2.2.2 31 ((((L 2)) + 1)).toNatClampNeg))))) r1.2) (fun r3 => if ¬ (((((L 2)) + 3)) < 0 ∨ 230280 ≤ ((((L 2)) + 3)).toNatClampNeg) then (ob (x_copyRow__31 k 0 (upd (upd (fun _ => 0) 2 ((((L 2)) + 5314))) 3 ((r3.2.2.2 31 ((((L 2)) + 3)).toNatClampNeg))) r3.2) (fun r5 => some (0, r5.2))) else none)) else none)
  | _ + 1, _ + 1, _, _ => none
def o_x_copyState__31 : List Cond := [.methodLink RX12 391 yX12_copyRow, .instanceMethod yX12_copyRow, .selects RX12 yX12_copyRow yX12_copyRow, .initialized RX12]
theorem o_x_copyState__31_good : o_x_copyState__31.all goodWord = true := by decide +kernel
def p_x_copyState__31 : List Cond := o_x_copyState__31 ++ ((.code yX12_copyRow cX12_copyRow 5 none :: p_x_copyRow__31) ++ [])
theorem p_x_copyState__31_good : p_x_copyState__31.all goodWord = true := nb_all2 o_x_copyState__31_good (nb_all2 (nb_allc (by decide +kernel) p_x_copyRow__31_good) rfl)
def w_x_copyState__31 : List Cond := .code yX12_copyState cX12_copyState 3 none :: (p_x_copyState__31 ++ fM)
theorem w_x_copyState__31_good : w_x_copyState__31.all goodWord = true := nb_allc (by decide +kernel) (nb_all2 p_x_copyState__31_good fM_good)
theorem in_x_copyState__31 : ∀ w ∈ wsX120, w ∈ w_x_copyState__31 := fun _ h => List.mem_cons_of_mem _ (List.mem_append_right _ h)
theorem hd_x_copyState__31 : yX12_copyState.cls = RX12 ∧ yX12_copyState.cls ≠ "java/lang/invoke/MethodHandle" ∧ yX12_copyState.cls ≠ "java/lang/invoke/VarHandle" ∧ (parseMethodDescriptor yX12_copyState.desc).map (fun d => d.parameters.length) = some 2 := by decide +kernel
theorem gg_x_copyState__31_copyRow__31 : GoodIn w_x_copyState__31 w_x_copyRow__31 := goodIn_sub (fun w h => (List.mem_cons.mp h).elim (fun e => (List.mem_cons_of_mem _ (List.mem_append_left _ (List.mem_append_right _ (List.mem_append_left _ (List.mem_cons.mpr (Or.inl e))))))) (fun h => (List.mem_append.mp h).elim (fun h => (List.mem_cons_of_mem _ (List.mem_append_left _ (List.mem_append_right _ (List.mem_append_left _ (List.mem_cons_of_mem _ h)))))) (fun h => List.mem_cons_of_mem _ (List.mem_append_right _ h)))) w_x_copyRow__31_good
theorem g_x_copyState__31_copyRow__31_391 : GoodIn w_x_copyState__31 (wsV RX12 391 RX12 yX12_copyRow w_x_copyRow__31) := goodIn_app (nb_g4 (List.mem_cons_of_mem _ (List.mem_append_left _ (List.mem_append_left _ (List.mem_of_getElem? (i := 0) rfl)))) (List.mem_cons_of_mem _ (List.mem_append_left _ (List.mem_append_left _ (List.mem_of_getElem? (i := 1) rfl)))) (List.mem_cons_of_mem _ (List.mem_append_left _ (List.mem_append_left _ (List.mem_of_getElem? (i := 2) rfl)))) (List.mem_cons_of_mem _ (List.mem_append_left _ (List.mem_append_left _ (List.mem_of_getElem? (i := 3) rfl)))) (by decide +kernel)) gg_x_copyState__31_copyRow__31
set_option maxHeartbeats 40000000 in
set_option maxRecDepth 100000 in
theorem c_x_copyState__31 (l : Launch) (dC : Nat → ClassId) (dI : Nat → Nat → Nat) (cy : Nat → ClassId) (a : Nat → Nat) (k0 : Nat) (L0 : Nat → Int32) (σ0 : MS) (r0 : Int32 × MS) (h0 : x_copyState__31 k0 0 L0 σ0 = some r0) (sz : Nat) : Met l yX12_copyState w_x_copyState__31 ({ frames := 2, cells := 0, slots := 0, locals := 48 }) (va_Pc [.ref (a 0), .ref (a 31), .int (L0 2)] (nIn (dC, dI) cy sz (vM cy a σ0))) (va_Qv (fun _ : Unit => True) (fun _ t => nOut (dC, dI) cy (va_A (vM cy a σ0) sz) (vM cy a r0.2) t) (va_A (vM cy a σ0) sz)) 0 0 (va_A (vM cy a σ0) sz) := by
  refine Met.ofW (cc := cX12_copyState) (maxL := 3) (ret := none) (by decide) rfl ?_
  intro p e s m args below meth c s₁ B hml hv
  obtain ⟨rfl, hsz, hP, hK, hD0, hG⟩ := hv
  have hx := B.exec
  have hb := B.bytes
  have hr := B.returns
  have hts := atoms_spec (ws := w_x_copyState__31) B.pre
  have hown : s.vm.findClass RX12 = some m.cls := findClass_of_methodNamed B.named
  have hlocks := B.notSynchronized
  subst hsz
  have hD := hD0.self (sz := s.heap.size)
  generalize hAe : va_A (vM cy a σ0) s.heap.size = A at hD ⊢
  have hA : ∀ q : Nat, s.heap.size ≤ q → A q := fun q h => by rw [← hAe]; exact Or.inr h
  have hS : va_S A s.heap s.heap [] := va_S.rf
  have hl := lv_entry ([.ref (a 0), .ref (a 31), .int (L0 2)]) (n := 3) (Nat.le_of_ble_eq_true rfl)
  rw [lg_entry_eq]
  generalize (lg_sl ([.ref (a 0), .ref (a 31), .int (L0 2)]) ++ List.replicate (3 - (lg_sl ([.ref (a 0), .ref (a 31), .int (L0 2)])).length) Slot.unset).toArray = ls at hl ⊢
  have hl : lv_has ls 3 [(0, .ref (a 0)), (1, .ref (a 31)), (2, .int (L0 2))] := hl
  have blk : ∀ k : Nat, (bT p l e (headSpec w_x_copyState__31 ({ frames := 2, cells := 0, slots := 0, locals := 48 })).room s m #[.ref (a 0), .ref (a 31), .int (L0 2)] below meth c dC dI cy a A (qV dC dI cy a A below #[.ref (a 0), .ref (a 31), .int (L0 2)] s) 3 (x_copyState__31 k 0) (fun L => [(0, .ref (a 0)), (1, .ref (a 31)), (2, .int (L 2))]) 0 (fun L => [])) := by
    intro k
    induction k with
    | zero => exact fun L σ r h => (by cases h)
    | succ k ih =>
      skip
      · intro L σ r h H locs ls hP hD hS hl
        rw [x_copyState__31] at h
        refine lv_aload_n hx hb dX12_copyState_0 rfl (lv_at hl 0 rfl) ?_
        refine lv_aload_n hx hb dX12_copyState_1 rfl (lv_at hl 1 rfl) ?_
        refine lv_iload_n hx hb dX12_copyState_2 rfl (lv_at hl 2 rfl) ?_
        refine lv_iconst (v := 4) hx hb dX12_copyState_3 (by decide) ?_
        refine lv_iadd hx hb dX12_copyState_4 ?_
        refine lv_bipush (v := 60) hx hb dX12_copyState_5 (by decide) ?_
        obtain ⟨r1, hc1, h⟩ := ob_ex h
        refine nc_Vv (As := [.ref (a 31), .int (((L 2)) + 4), .int 60]) (rest := []) ⟨hx, hb, hml, hown, hts⟩ (c_x_copyRow__31 l dC dI cy a k (upd (upd (fun _ => 0) 2 ((((L 2)) + 4))) 3 60) σ r1 hc1 H.size) (cwV 3 hts g_x_copyState__31_copyRow__31_391 rfl rfl rfl hd_x_copyRow__31 ⟨Nat.le_of_ble_eq_true rfl, Nat.le_of_ble_eq_true rfl⟩) hK hG hA hP hD hS rfl hl.1 rfl (Nat.le_of_ble_eq_true rfl) dX12_copyState_7 ⟨Nat.le_refl _, Nat.le_refl _⟩ (fun H locs hP hD hS => ?_)
        refine lv_aload_n hx hb dX12_copyState_10 rfl (lv_at hl 0 rfl) ?_
        refine lv_aload_n hx hb dX12_copyState_11 rfl (lv_at hl 1 rfl) ?_
        refine lv_iload_n hx hb dX12_copyState_12 rfl (lv_at hl 2 rfl) ?_
        refine lv_sipush (v := 214) hx hb dX12_copyState_13 (by decide) ?_
        refine lv_iadd hx hb dX12_copyState_16 ?_
        refine lv_bipush (v := 60) hx hb dX12_copyState_17 (by decide) ?_
        refine lv_aload_n hx hb dX12_copyState_19 rfl (lv_at hl 1 rfl) ?_
        refine lv_iload_n hx hb dX12_copyState_20 rfl (lv_at hl 2 rfl) ?_
        refine lv_iconst (v := 1) hx hb dX12_copyState_21 (by decide) ?_
        refine lv_iadd hx hb dX12_copyState_22 ?_
        obtain ⟨q2, h⟩ := nb_ite1 h
        refine nl_31 hx hb hK hP q2 dX12_copyState_23 ?_
        refine lv_imul hx hb dX12_copyState_24 ?_
        obtain ⟨r3, hc3, h⟩ := ob_ex h
        refine nc_Vv (As := [.ref (a 31), .int (((L 2)) + 214), .int (60 * ((r1.2.2.2 31 ((((L 2)) + 1)).toNatClampNeg)))]) (rest := []) ⟨hx, hb, hml, hown, hts⟩ (c_x_copyRow__31 l dC dI cy a k (upd (upd (fun _ => 0) 2 ((((L 2)) + 214))) 3 ((60 * ((r1.2.2.2 31 ((((L 2)) + 1)).toNatClampNeg))))) r1.2 r3 hc3 H.size) (cwV 3 hts g_x_copyState__31_copyRow__31_391 rfl rfl rfl hd_x_copyRow__31 ⟨Nat.le_of_ble_eq_true rfl, Nat.le_of_ble_eq_true rfl⟩) hK hG hA hP hD hS rfl hl.1 rfl (Nat.le_of_ble_eq_true rfl) dX12_copyState_25 ⟨Nat.le_refl _, Nat.le_refl _⟩ (fun H locs hP hD hS => ?_)
        refine lv_aload_n hx hb dX12_copyState_28 rfl (lv_at hl 0 rfl) ?_
        refine lv_aload_n hx hb dX12_copyState_29 rfl (lv_at hl 1 rfl) ?_
        refine lv_iload_n hx hb dX12_copyState_30 rfl (lv_at hl 2 rfl) ?_
        refine lv_sipush (v := 5314) hx hb dX12_copyState_31 (by decide) ?_
        refine lv_iadd hx hb dX12_copyState_34 ?_
        refine lv_aload_n hx hb dX12_copyState_35 rfl (lv_at hl 1 rfl) ?_
        refine lv_iload_n hx hb dX12_copyState_36 rfl (lv_at hl 2 rfl) ?_
        refine lv_iconst (v := 3) hx hb dX12_copyState_37 (by decide) ?_
        refine lv_iadd hx hb dX12_copyState_38 ?_
        obtain ⟨q4, h⟩ := nb_ite1 h
        refine nl_31 hx hb hK hP q4 dX12_copyState_39 ?_
        obtain ⟨r5, hc5, h⟩ := ob_ex h
        refine nc_Vv (As := [.ref (a 31), .int (((L 2)) + 5314), .int (r3.2.2.2 31 ((((L 2)) + 3)).toNatClampNeg)]) (rest := []) ⟨hx, hb, hml, hown, hts⟩ (c_x_copyRow__31 l dC dI cy a k (upd (upd (fun _ => 0) 2 ((((L 2)) + 5314))) 3 ((r3.2.2.2 31 ((((L 2)) + 3)).toNatClampNeg))) r3.2 r5 hc5 H.size) (cwV 3 hts g_x_copyState__31_copyRow__31_391 rfl rfl rfl hd_x_copyRow__31 ⟨Nat.le_of_ble_eq_true rfl, Nat.le_of_ble_eq_true rfl⟩) hK hG hA hP hD hS rfl hl.1 rfl (Nat.le_of_ble_eq_true rfl) dX12_copyState_40 ⟨Nat.le_refl _, Nat.le_refl _⟩ (fun H locs hP hD hS => ?_)
        cases h
        exact W.vret hx hb hr (fun t ht hW => ⟨⟨(), rfl, trivial, by rw [ht]; exact hP, va_K.moved hW.alike hK, hD⟩, hS.F ht⟩) hS.2.2 dX12_copyState_43
  exact (blk k0) L0 σ0 r0 h0 s.heap [] ls hP hD hS hl
/-! copyRow__33 -/
def x_copyRow__33 : Nat → Nat → (Nat → Int32) → MS → Option (Int32 × MS)
  | 0, _, _, _ => none
  | k + 1, 0, L, σ => x_copyRow__33 k 1 (upd L 4 ((L 2))) σ
  | k + 1, 1, L, σ => if ((((L 2)) + ((L 3)))) ≤ ((L 4)) then (x_copyRow__33 k 3 L σ) else (if ¬ (((L 4)) < 0 ∨ 1380 ≤ ((L 4)).toNatClampNeg) then (ob (x_copied k 0 (upd (fun _ => 0) 1 ((σ.2.2 33 ((L 4)).toNatClampNeg))) σ) (fun r3 => if ¬ (((L 4)) < 0 ∨ 1380 ≤ ((L 4)).toNatClampNeg) then (x_copyRow__33 k 2 L (r3.2.1, r3.2.2.1, updG r3.2.2.2 33 (upd (r3.2.2.2 33) ((L 4)).toNatClampNeg r3.1))) else none)) else none)
  | k + 1, 2, L, σ => x_copyRow__33 k 1 (upd L 4 (((L 4)) + 1)) σ
  | k + 1, 3, L, σ => some (0, σ)
  | _ + 1, _ + 4, _, _ => none
def o_x_copyRow__33 : List Cond := [.methodLink RX12 388 yX12_copied, .instanceMethod yX12_copied, .selects RX12 yX12_copied yX12_copied, .initialized RX12]
theorem o_x_copyRow__33_good : o_x_copyRow__33.all goodWord = true := by decide +kernel
def p_x_copyRow__33 : List Cond := o_x_copyRow__33 ++ ((.code yX12_copied cX12_copied 5 (some .int) :: p_x_copied) ++ [])
theorem p_x_copyRow__33_good : p_x_copyRow__33.all goodWord = true := nb_all2 o_x_copyRow__33_good (nb_all2 (nb_allc (by decide +kernel) p_x_copied_good) rfl)
def w_x_copyRow__33 : List Cond := .code yX12_copyRow cX12_copyRow 5 none :: (p_x_copyRow__33 ++ fM)
theorem w_x_copyRow__33_good : w_x_copyRow__33.all goodWord = true := nb_allc (by decide +kernel) (nb_all2 p_x_copyRow__33_good fM_good)
theorem in_x_copyRow__33 : ∀ w ∈ wsX120, w ∈ w_x_copyRow__33 := fun _ h => List.mem_cons_of_mem _ (List.mem_append_right _ h)
theorem hd_x_copyRow__33 : yX12_copyRow.cls = RX12 ∧ yX12_copyRow.cls ≠ "java/lang/invoke/MethodHandle" ∧ yX12_copyRow.cls ≠ "java/lang/invoke/VarHandle" ∧ (parseMethodDescriptor yX12_copyRow.desc).map (fun d => d.parameters.length) = some 3 := by decide +kernel
theorem gg_x_copyRow__33_copied : GoodIn w_x_copyRow__33 w_x_copied := goodIn_sub (fun w h => (List.mem_cons.mp h).elim (fun e => (List.mem_cons_of_mem _ (List.mem_append_left _ (List.mem_append_right _ (List.mem_append_left _ (List.mem_cons.mpr (Or.inl e))))))) (fun h => (List.mem_append.mp h).elim (fun h => (List.mem_cons_of_mem _ (List.mem_append_left _ (List.mem_append_right _ (List.mem_append_left _ (List.mem_cons_of_mem _ h)))))) (fun h => List.mem_cons_of_mem _ (List.mem_append_right _ h)))) w_x_copied_good
theorem g_x_copyRow__33_copied_388 : GoodIn w_x_copyRow__33 (wsV RX12 388 RX12 yX12_copied w_x_copied) := goodIn_app (nb_g4 (List.mem_cons_of_mem _ (List.mem_append_left _ (List.mem_append_left _ (List.mem_of_getElem? (i := 0) rfl)))) (List.mem_cons_of_mem _ (List.mem_append_left _ (List.mem_append_left _ (List.mem_of_getElem? (i := 1) rfl)))) (List.mem_cons_of_mem _ (List.mem_append_left _ (List.mem_append_left _ (List.mem_of_getElem? (i := 2) rfl)))) (List.mem_cons_of_mem _ (List.mem_append_left _ (List.mem_append_left _ (List.mem_of_getElem? (i := 3) rfl)))) (by decide +kernel)) gg_x_copyRow__33_copied
set_option maxHeartbeats 40000000 in
set_option maxRecDepth 100000 in
theorem c_x_copyRow__33 (l : Launch) (dC : Nat → ClassId) (dI : Nat → Nat → Nat) (cy : Nat → ClassId) (a : Nat → Nat) (k0 : Nat) (L0 : Nat → Int32) (σ0 : MS) (r0 : Int32 × MS) (h0 : x_copyRow__33 k0 0 L0 σ0 = some r0) (sz : Nat) : Met l yX12_copyRow w_x_copyRow__33 ({ frames := 1, cells := 0, slots := 0, locals := 24 }) (va_Pc [.ref (a 0), .ref (a 33), .int (L0 2), .int (L0 3)] (nIn (dC, dI) cy sz (vM cy a σ0))) (va_Qv (fun _ : Unit => True) (fun _ t => nOut (dC, dI) cy (va_A (vM cy a σ0) sz) (vM cy a r0.2) t) (va_A (vM cy a σ0) sz)) 0 0 (va_A (vM cy a σ0) sz) := by
  refine Met.ofW (cc := cX12_copyRow) (maxL := 5) (ret := none) (by decide) rfl ?_
  intro p e s m args below meth c s₁ B hml hv
  obtain ⟨rfl, hsz, hP, hK, hD0, hG⟩ := hv
  have hx := B.exec
  have hb := B.bytes
  have hr := B.returns
  have hts := atoms_spec (ws := w_x_copyRow__33) B.pre
  have hown : s.vm.findClass RX12 = some m.cls := findClass_of_methodNamed B.named
  have hlocks := B.notSynchronized
  subst hsz
  have hD := hD0.self (sz := s.heap.size)
  generalize hAe : va_A (vM cy a σ0) s.heap.size = A at hD ⊢
  have hA : ∀ q : Nat, s.heap.size ≤ q → A q := fun q h => by rw [← hAe]; exact Or.inr h
  have hS : va_S A s.heap s.heap [] := va_S.rf
  have hl := lv_entry ([.ref (a 0), .ref (a 33), .int (L0 2), .int (L0 3)]) (n := 5) (Nat.le_of_ble_eq_true rfl)
  rw [lg_entry_eq]
  generalize (lg_sl ([.ref (a 0), .ref (a 33), .int (L0 2), .int (L0 3)]) ++ List.replicate (5 - (lg_sl ([.ref (a 0), .ref (a 33), .int (L0 2), .int (L0 3)])).length) Slot.unset).toArray = ls at hl ⊢
  have hl : lv_has ls 5 [(0, .ref (a 0)), (1, .ref (a 33)), (2, .int (L0 2)), (3, .int (L0 3))] := hl
  have blk : ∀ k : Nat, (bT p l e (headSpec w_x_copyRow__33 ({ frames := 1, cells := 0, slots := 0, locals := 24 })).room s m #[.ref (a 0), .ref (a 33), .int (L0 2), .int (L0 3)] below meth c dC dI cy a A (qV dC dI cy a A below #[.ref (a 0), .ref (a 33), .int (L0 2), .int (L0 3)] s) 5 (x_copyRow__33 k 0) (fun L => [(0, .ref (a 0)), (1, .ref (a 33)), (2, .int (L 2)), (3, .int (L 3))]) 0 (fun L => [])) ∧ (bT p l e (headSpec w_x_copyRow__33 ({ frames := 1, cells := 0, slots := 0, locals := 24 })).room s m #[.ref (a 0), .ref (a 33), .int (L0 2), .int (L0 3)] below meth c dC dI cy a A (qV dC dI cy a A below #[.ref (a 0), .ref (a 33), .int (L0 2), .int (L0 3)] s) 5 (x_copyRow__33 k 1) (fun L => [(0, .ref (a 0)), (1, .ref (a 33)), (2, .int (L 2)), (3, .int (L 3)), (4, .int (L 4))]) 3 (fun L => [])) ∧ (bT p l e (headSpec w_x_copyRow__33 ({ frames := 1, cells := 0, slots := 0, locals := 24 })).room s m #[.ref (a 0), .ref (a 33), .int (L0 2), .int (L0 3)] below meth c dC dI cy a A (qV dC dI cy a A below #[.ref (a 0), .ref (a 33), .int (L0 2), .int (L0 3)] s) 5 (x_copyRow__33 k 2) (fun L => [(0, .ref (a 0)), (1, .ref (a 33)), (2, .int (L 2)), (3, .int (L 3)), (4, .int (L 4))]) 23 (fun L => [])) ∧ (bT p l e (headSpec w_x_copyRow__33 ({ frames := 1, cells := 0, slots := 0, locals := 24 })).room s m #[.ref (a 0), .ref (a 33), .int (L0 2), .int (L0 3)] below meth c dC dI cy a A (qV dC dI cy a A below #[.ref (a 0), .ref (a 33), .int (L0 2), .int (L0 3)] s) 5 (x_copyRow__33 k 3) (fun L => [(0, .ref (a 0)), (1, .ref (a 33)), (2, .int (L 2)), (3, .int (L 3)), (4, .int (L 4))]) 29 (fun L => [])) := by
    intro k
    induction k with
    | zero => exact ⟨fun L σ r h => (by cases h), fun L σ r h => (by cases h), fun L σ r h => (by cases h), fun L σ r h => (by cases h)⟩
    | succ k ih =>
      refine ⟨?_, ?_, ?_, ?_⟩
      · intro L σ r h H locs ls hP hD hS hl
        rw [x_copyRow__33] at h
        refine lv_iload_n hx hb dX12_copyRow_0 rfl (lv_at hl 2 rfl) ?_
        refine lv_istore (lv' := [(4, .int (L 2)), (0, .ref (a 0)), (1, .ref (a 33)), (2, .int (L 2)), (3, .int (L 3))]) hx hb dX12_copyRow_1 hl (by decide) rfl (fun ls hl => ?_)
        exact ih.2.1 (upd L 4 ((L 2))) σ r h H locs ls hP hD hS (lv_sub hl [1, 2, 3, 4, 0] rfl)
      · intro L σ r h H locs ls hP hD hS hl
        rw [x_copyRow__33] at h
        refine lv_iload hx hb dX12_copyRow_3 (lv_at hl 4 rfl) ?_
        refine lv_iload_n hx hb dX12_copyRow_5 rfl (lv_at hl 2 rfl) ?_
        refine lv_iload_n hx hb dX12_copyRow_6 rfl (lv_at hl 3 rfl) ?_
        refine lv_iadd hx hb dX12_copyRow_7 ?_
        refine lv_icmp_ge (tgt := 29) hx hb dX12_copyRow_8 (by decide) (fun c1 => ?_) (fun c1 => ?_)
        · rw [if_pos c1] at h
          exact ih.2.2.2 L σ r h H locs ls hP hD hS (lv_sub hl [0, 1, 2, 3, 4] rfl)
        · rw [if_neg c1] at h
          refine lv_aload_n hx hb dX12_copyRow_11 rfl (lv_at hl 1 rfl) ?_
          refine lv_iload hx hb dX12_copyRow_12 (lv_at hl 4 rfl) ?_
          refine lv_aload_n hx hb dX12_copyRow_14 rfl (lv_at hl 0 rfl) ?_
          refine lv_aload_n hx hb dX12_copyRow_15 rfl (lv_at hl 1 rfl) ?_
          refine lv_iload hx hb dX12_copyRow_16 (lv_at hl 4 rfl) ?_
          obtain ⟨q2, h⟩ := nb_ite1 h
          refine nl_33 hx hb hK hP q2 dX12_copyRow_18 ?_
          obtain ⟨r3, hc3, h⟩ := ob_ex h
          refine nc_Vi (As := [.int (σ.2.2 33 ((L 4)).toNatClampNeg)]) (rest := [.int (L 4), .ref (a 33)]) ⟨hx, hb, hml, hown, hts⟩ (c_x_copied l dC dI cy a k (upd (fun _ => 0) 1 ((σ.2.2 33 ((L 4)).toNatClampNeg))) σ r3 hc3 H.size) (cwV 1 hts g_x_copyRow__33_copied_388 rfl rfl rfl hd_x_copied ⟨Nat.le_of_ble_eq_true rfl, Nat.le_of_ble_eq_true rfl⟩) hK hG hA hP hD hS rfl hl.1 rfl (Nat.le_of_ble_eq_true rfl) dX12_copyRow_19 ⟨Nat.le_refl _, Nat.le_refl _⟩ (fun H locs hP hD hS => ?_)
          obtain ⟨q4, h⟩ := nb_ite1 h
          refine ns_33 hx hb hK hP hD hS q4 dX12_copyRow_22 (fun H locs hP hD hS => ?_)
          exact ih.2.2.1 L (r3.2.1, r3.2.2.1, updG r3.2.2.2 33 (upd (r3.2.2.2 33) ((L 4)).toNatClampNeg r3.1)) r h H locs ls hP hD hS (lv_sub hl [0, 1, 2, 3, 4] rfl)
      · intro L σ r h H locs ls hP hD hS hl
        rw [x_copyRow__33] at h
        refine lv_iinc (v := ((L 4)) + 1) (lv' := [(4, .int (((L 4)) + 1)), (0, .ref (a 0)), (1, .ref (a 33)), (2, .int (L 2)), (3, .int (L 3))]) hx hb dX12_copyRow_23 hl (k := 4) rfl rfl (by decide) rfl (fun ls hl => ?_)
        refine lv_goto (tgt := 3) hx hb dX12_copyRow_26 (by decide) ?_
        exact ih.2.1 (upd L 4 (((L 4)) + 1)) σ r h H locs ls hP hD hS (lv_sub hl [1, 2, 3, 4, 0] rfl)
      · intro L σ r h H locs ls hP hD hS hl
        rw [x_copyRow__33] at h
        cases h
        exact W.vret hx hb hr (fun t ht hW => ⟨⟨(), rfl, trivial, by rw [ht]; exact hP, va_K.moved hW.alike hK, hD⟩, hS.F ht⟩) hS.2.2 dX12_copyRow_29
  exact (blk k0).1 L0 σ0 r0 h0 s.heap [] ls hP hD hS hl
/-! copyRow__34 -/
def x_copyRow__34 : Nat → Nat → (Nat → Int32) → MS → Option (Int32 × MS)
  | 0, _, _, _ => none
  | k + 1, 0, L, σ => x_copyRow__34 k 1 (upd L 4 ((L 2))) σ
  | k + 1, 1, L, σ => if ((((L 2)) + ((L 3)))) ≤ ((L 4)) then (x_copyRow__34 k 3 L σ) else (if ¬ (((L 4)) < 0 ∨ 4000 ≤ ((L 4)).toNatClampNeg) then (ob (x_copied k 0 (upd (fun _ => 0) 1 ((σ.2.2 34 ((L 4)).toNatClampNeg))) σ) (fun r3 => if ¬ (((L 4)) < 0 ∨ 4000 ≤ ((L 4)).toNatClampNeg) then (x_copyRow__34 k 2 L (r3.2.1, r3.2.2.1, updG r3.2.2.2 34 (upd (r3.2.2.2 34) ((L 4)).toNatClampNeg r3.1))) else none)) else none)
  | k + 1, 2, L, σ => x_copyRow__34 k 1 (upd L 4 (((L 4)) + 1)) σ
  | k + 1, 3, L, σ => some (0, σ)
  | _ + 1, _ + 4, _, _ => none
def o_x_copyRow__34 : List Cond := [.methodLink RX12 388 yX12_copied, .instanceMethod yX12_copied, .selects RX12 yX12_copied yX12_copied, .initialized RX12]
theorem o_x_copyRow__34_good : o_x_copyRow__34.all goodWord = true := by decide +kernel
def p_x_copyRow__34 : List Cond := o_x_copyRow__34 ++ ((.code yX12_copied cX12_copied 5 (some .int) :: p_x_copied) ++ [])
theorem p_x_copyRow__34_good : p_x_copyRow__34.all goodWord = true := nb_all2 o_x_copyRow__34_good (nb_all2 (nb_allc (by decide +kernel) p_x_copied_good) rfl)
def w_x_copyRow__34 : List Cond := .code yX12_copyRow cX12_copyRow 5 none :: (p_x_copyRow__34 ++ fM)
theorem w_x_copyRow__34_good : w_x_copyRow__34.all goodWord = true := nb_allc (by decide +kernel) (nb_all2 p_x_copyRow__34_good fM_good)
theorem in_x_copyRow__34 : ∀ w ∈ wsX120, w ∈ w_x_copyRow__34 := fun _ h => List.mem_cons_of_mem _ (List.mem_append_right _ h)
theorem hd_x_copyRow__34 : yX12_copyRow.cls = RX12 ∧ yX12_copyRow.cls ≠ "java/lang/invoke/MethodHandle" ∧ yX12_copyRow.cls ≠ "java/lang/invoke/VarHandle" ∧ (parseMethodDescriptor yX12_copyRow.desc).map (fun d => d.parameters.length) = some 3 := by decide +kernel
theorem gg_x_copyRow__34_copied : GoodIn w_x_copyRow__34 w_x_copied := goodIn_sub (fun w h => (List.mem_cons.mp h).elim (fun e => (List.mem_cons_of_mem _ (List.mem_append_left _ (List.mem_append_right _ (List.mem_append_left _ (List.mem_cons.mpr (Or.inl e))))))) (fun h => (List.mem_append.mp h).elim (fun h => (List.mem_cons_of_mem _ (List.mem_append_left _ (List.mem_append_right _ (List.mem_append_left _ (List.mem_cons_of_mem _ h)))))) (fun h => List.mem_cons_of_mem _ (List.mem_append_right _ h)))) w_x_copied_good
theorem g_x_copyRow__34_copied_388 : GoodIn w_x_copyRow__34 (wsV RX12 388 RX12 yX12_copied w_x_copied) := goodIn_app (nb_g4 (List.mem_cons_of_mem _ (List.mem_append_left _ (List.mem_append_left _ (List.mem_of_getElem? (i := 0) rfl)))) (List.mem_cons_of_mem _ (List.mem_append_left _ (List.mem_append_left _ (List.mem_of_getElem? (i := 1) rfl)))) (List.mem_cons_of_mem _ (List.mem_append_left _ (List.mem_append_left _ (List.mem_of_getElem? (i := 2) rfl)))) (List.mem_cons_of_mem _ (List.mem_append_left _ (List.mem_append_left _ (List.mem_of_getElem? (i := 3) rfl)))) (by decide +kernel)) gg_x_copyRow__34_copied
set_option maxHeartbeats 40000000 in
set_option maxRecDepth 100000 in
theorem c_x_copyRow__34 (l : Launch) (dC : Nat → ClassId) (dI : Nat → Nat → Nat) (cy : Nat → ClassId) (a : Nat → Nat) (k0 : Nat) (L0 : Nat → Int32) (σ0 : MS) (r0 : Int32 × MS) (h0 : x_copyRow__34 k0 0 L0 σ0 = some r0) (sz : Nat) : Met l yX12_copyRow w_x_copyRow__34 ({ frames := 1, cells := 0, slots := 0, locals := 24 }) (va_Pc [.ref (a 0), .ref (a 34), .int (L0 2), .int (L0 3)] (nIn (dC, dI) cy sz (vM cy a σ0))) (va_Qv (fun _ : Unit => True) (fun _ t => nOut (dC, dI) cy (va_A (vM cy a σ0) sz) (vM cy a r0.2) t) (va_A (vM cy a σ0) sz)) 0 0 (va_A (vM cy a σ0) sz) := by
  refine Met.ofW (cc := cX12_copyRow) (maxL := 5) (ret := none) (by decide) rfl ?_
  intro p e s m args below meth c s₁ B hml hv
  obtain ⟨rfl, hsz, hP, hK, hD0, hG⟩ := hv
  have hx := B.exec
  have hb := B.bytes
  have hr := B.returns
  have hts := atoms_spec (ws := w_x_copyRow__34) B.pre
  have hown : s.vm.findClass RX12 = some m.cls := findClass_of_methodNamed B.named
  have hlocks := B.notSynchronized
  subst hsz
  have hD := hD0.self (sz := s.heap.size)
  generalize hAe : va_A (vM cy a σ0) s.heap.size = A at hD ⊢
  have hA : ∀ q : Nat, s.heap.size ≤ q → A q := fun q h => by rw [← hAe]; exact Or.inr h
  have hS : va_S A s.heap s.heap [] := va_S.rf
  have hl := lv_entry ([.ref (a 0), .ref (a 34), .int (L0 2), .int (L0 3)]) (n := 5) (Nat.le_of_ble_eq_true rfl)
  rw [lg_entry_eq]
  generalize (lg_sl ([.ref (a 0), .ref (a 34), .int (L0 2), .int (L0 3)]) ++ List.replicate (5 - (lg_sl ([.ref (a 0), .ref (a 34), .int (L0 2), .int (L0 3)])).length) Slot.unset).toArray = ls at hl ⊢
  have hl : lv_has ls 5 [(0, .ref (a 0)), (1, .ref (a 34)), (2, .int (L0 2)), (3, .int (L0 3))] := hl
  have blk : ∀ k : Nat, (bT p l e (headSpec w_x_copyRow__34 ({ frames := 1, cells := 0, slots := 0, locals := 24 })).room s m #[.ref (a 0), .ref (a 34), .int (L0 2), .int (L0 3)] below meth c dC dI cy a A (qV dC dI cy a A below #[.ref (a 0), .ref (a 34), .int (L0 2), .int (L0 3)] s) 5 (x_copyRow__34 k 0) (fun L => [(0, .ref (a 0)), (1, .ref (a 34)), (2, .int (L 2)), (3, .int (L 3))]) 0 (fun L => [])) ∧ (bT p l e (headSpec w_x_copyRow__34 ({ frames := 1, cells := 0, slots := 0, locals := 24 })).room s m #[.ref (a 0), .ref (a 34), .int (L0 2), .int (L0 3)] below meth c dC dI cy a A (qV dC dI cy a A below #[.ref (a 0), .ref (a 34), .int (L0 2), .int (L0 3)] s) 5 (x_copyRow__34 k 1) (fun L => [(0, .ref (a 0)), (1, .ref (a 34)), (2, .int (L 2)), (3, .int (L 3)), (4, .int (L 4))]) 3 (fun L => [])) ∧ (bT p l e (headSpec w_x_copyRow__34 ({ frames := 1, cells := 0, slots := 0, locals := 24 })).room s m #[.ref (a 0), .ref (a 34), .int (L0 2), .int (L0 3)] below meth c dC dI cy a A (qV dC dI cy a A below #[.ref (a 0), .ref (a 34), .int (L0 2), .int (L0 3)] s) 5 (x_copyRow__34 k 2) (fun L => [(0, .ref (a 0)), (1, .ref (a 34)), (2, .int (L 2)), (3, .int (L 3)), (4, .int (L 4))]) 23 (fun L => [])) ∧ (bT p l e (headSpec w_x_copyRow__34 ({ frames := 1, cells := 0, slots := 0, locals := 24 })).room s m #[.ref (a 0), .ref (a 34), .int (L0 2), .int (L0 3)] below meth c dC dI cy a A (qV dC dI cy a A below #[.ref (a 0), .ref (a 34), .int (L0 2), .int (L0 3)] s) 5 (x_copyRow__34 k 3) (fun L => [(0, .ref (a 0)), (1, .ref (a 34)), (2, .int (L 2)), (3, .int (L 3)), (4, .int (L 4))]) 29 (fun L => [])) := by
    intro k
    induction k with
    | zero => exact ⟨fun L σ r h => (by cases h), fun L σ r h => (by cases h), fun L σ r h => (by cases h), fun L σ r h => (by cases h)⟩
    | succ k ih =>
      refine ⟨?_, ?_, ?_, ?_⟩
      · intro L σ r h H locs ls hP hD hS hl
        rw [x_copyRow__34] at h
        refine lv_iload_n hx hb dX12_copyRow_0 rfl (lv_at hl 2 rfl) ?_
        refine lv_istore (lv' := [(4, .int (L 2)), (0, .ref (a 0)), (1, .ref (a 34)), (2, .int (L 2)), (3, .int (L 3))]) hx hb dX12_copyRow_1 hl (by decide) rfl (fun ls hl => ?_)
        exact ih.2.1 (upd L 4 ((L 2))) σ r h H locs ls hP hD hS (lv_sub hl [1, 2, 3, 4, 0] rfl)
      · intro L σ r h H locs ls hP hD hS hl
        rw [x_copyRow__34] at h
        refine lv_iload hx hb dX12_copyRow_3 (lv_at hl 4 rfl) ?_
        refine lv_iload_n hx hb dX12_copyRow_5 rfl (lv_at hl 2 rfl) ?_
        refine lv_iload_n hx hb dX12_copyRow_6 rfl (lv_at hl 3 rfl) ?_
        refine lv_iadd hx hb dX12_copyRow_7 ?_
        refine lv_icmp_ge (tgt := 29) hx hb dX12_copyRow_8 (by decide) (fun c1 => ?_) (fun c1 => ?_)
        · rw [if_pos c1] at h
          exact ih.2.2.2 L σ r h H locs ls hP hD hS (lv_sub hl [0, 1, 2, 3, 4] rfl)
        · rw [if_neg c1] at h
          refine lv_aload_n hx hb dX12_copyRow_11 rfl (lv_at hl 1 rfl) ?_
          refine lv_iload hx hb dX12_copyRow_12 (lv_at hl 4 rfl) ?_
          refine lv_aload_n hx hb dX12_copyRow_14 rfl (lv_at hl 0 rfl) ?_
          refine lv_aload_n hx hb dX12_copyRow_15 rfl (lv_at hl 1 rfl) ?_
          refine lv_iload hx hb dX12_copyRow_16 (lv_at hl 4 rfl) ?_
          obtain ⟨q2, h⟩ := nb_ite1 h
          refine nl_34 hx hb hK hP q2 dX12_copyRow_18 ?_
          obtain ⟨r3, hc3, h⟩ := ob_ex h
          refine nc_Vi (As := [.int (σ.2.2 34 ((L 4)).toNatClampNeg)]) (rest := [.int (L 4), .ref (a 34)]) ⟨hx, hb, hml, hown, hts⟩ (c_x_copied l dC dI cy a k (upd (fun _ => 0) 1 ((σ.2.2 34 ((L 4)).toNatClampNeg))) σ r3 hc3 H.size) (cwV 1 hts g_x_copyRow__34_copied_388 rfl rfl rfl hd_x_copied ⟨Nat.le_of_ble_eq_true rfl, Nat.le_of_ble_eq_true rfl⟩) hK hG hA hP hD hS rfl hl.1 rfl (Nat.le_of_ble_eq_true rfl) dX12_copyRow_19 ⟨Nat.le_refl _, Nat.le_refl _⟩ (fun H locs hP hD hS => ?_)
          obtain ⟨q4, h⟩ := nb_ite1 h
          refine ns_34 hx hb hK hP hD hS q4 dX12_copyRow_22 (fun H locs hP hD hS => ?_)
          exact ih.2.2.1 L (r3.2.1, r3.2.2.1, updG r3.2.2.2 34 (upd (r3.2.2.2 34) ((L 4)).toNatClampNeg r3.1)) r h H locs ls hP hD hS (lv_sub hl [0, 1, 2, 3, 4] rfl)
      · intro L σ r h H locs ls hP hD hS hl
        rw [x_copyRow__34] at h
        refine lv_iinc (v := ((L 4)) + 1) (lv' := [(4, .int (((L 4)) + 1)), (0, .ref (a 0)), (1, .ref (a 34)), (2, .int (L 2)), (3, .int (L 3))]) hx hb dX12_copyRow_23 hl (k := 4) rfl rfl (by decide) rfl (fun ls hl => ?_)
        refine lv_goto (tgt := 3) hx hb dX12_copyRow_26 (by decide) ?_
        exact ih.2.1 (upd L 4 (((L 4)) + 1)) σ r h H locs ls hP hD hS (lv_sub hl [1, 2, 3, 4, 0] rfl)
      · intro L σ r h H locs ls hP hD hS hl
        rw [x_copyRow__34] at h
        cases h
        exact W.vret hx hb hr (fun t ht hW => ⟨⟨(), rfl, trivial, by rw [ht]; exact hP, va_K.moved hW.alike hK, hD⟩, hS.F ht⟩) hS.2.2 dX12_copyRow_29
  exact (blk k0).1 L0 σ0 r0 h0 s.heap [] ls hP hD hS hl
/-! copyRow__36 -/
def x_copyRow__36 : Nat → Nat → (Nat → Int32) → MS → Option (Int32 × MS)
  | 0, _, _, _ => none
  | k + 1, 0, L, σ => x_copyRow__36 k 1 (upd L 4 ((L 2))) σ
  | k + 1, 1, L, σ => if ((((L 2)) + ((L 3)))) ≤ ((L 4)) then (x_copyRow__36 k 3 L σ) else (if ¬ (((L 4)) < 0 ∨ 8 ≤ ((L 4)).toNatClampNeg) then (ob (x_copied k 0 (upd (fun _ => 0) 1 ((σ.2.2 36 ((L 4)).toNatClampNeg))) σ) (fun r3 => if ¬ (((L 4)) < 0 ∨ 8 ≤ ((L 4)).toNatClampNeg) then (x_copyRow__36 k 2 L (r3.2.1, r3.2.2.1, updG r3.2.2.2 36 (upd (r3.2.2.2 36) ((L 4)).toNatClampNeg r3.1))) else none)) else none)
  | k + 1, 2, L, σ => x_copyRow__36 k 1 (upd L 4 (((L 4)) + 1)) σ
  | k + 1, 3, L, σ => some (0, σ)
  | _ + 1, _ + 4, _, _ => none
def o_x_copyRow__36 : List Cond := [.methodLink RX12 388 yX12_copied, .instanceMethod yX12_copied, .selects RX12 yX12_copied yX12_copied, .initialized RX12]
theorem o_x_copyRow__36_good : o_x_copyRow__36.all goodWord = true := by decide +kernel
def p_x_copyRow__36 : List Cond := o_x_copyRow__36 ++ ((.code yX12_copied cX12_copied 5 (some .int) :: p_x_copied) ++ [])
theorem p_x_copyRow__36_good : p_x_copyRow__36.all goodWord = true := nb_all2 o_x_copyRow__36_good (nb_all2 (nb_allc (by decide +kernel) p_x_copied_good) rfl)
def w_x_copyRow__36 : List Cond := .code yX12_copyRow cX12_copyRow 5 none :: (p_x_copyRow__36 ++ fM)
theorem w_x_copyRow__36_good : w_x_copyRow__36.all goodWord = true := nb_allc (by decide +kernel) (nb_all2 p_x_copyRow__36_good fM_good)
theorem in_x_copyRow__36 : ∀ w ∈ wsX120, w ∈ w_x_copyRow__36 := fun _ h => List.mem_cons_of_mem _ (List.mem_append_right _ h)
theorem hd_x_copyRow__36 : yX12_copyRow.cls = RX12 ∧ yX12_copyRow.cls ≠ "java/lang/invoke/MethodHandle" ∧ yX12_copyRow.cls ≠ "java/lang/invoke/VarHandle" ∧ (parseMethodDescriptor yX12_copyRow.desc).map (fun d => d.parameters.length) = some 3 := by decide +kernel
theorem gg_x_copyRow__36_copied : GoodIn w_x_copyRow__36 w_x_copied := goodIn_sub (fun w h => (List.mem_cons.mp h).elim (fun e => (List.mem_cons_of_mem _ (List.mem_append_left _ (List.mem_append_right _ (List.mem_append_left _ (List.mem_cons.mpr (Or.inl e))))))) (fun h => (List.mem_append.mp h).elim (fun h => (List.mem_cons_of_mem _ (List.mem_append_left _ (List.mem_append_right _ (List.mem_append_left _ (List.mem_cons_of_mem _ h)))))) (fun h => List.mem_cons_of_mem _ (List.mem_append_right _ h)))) w_x_copied_good
theorem g_x_copyRow__36_copied_388 : GoodIn w_x_copyRow__36 (wsV RX12 388 RX12 yX12_copied w_x_copied) := goodIn_app (nb_g4 (List.mem_cons_of_mem _ (List.mem_append_left _ (List.mem_append_left _ (List.mem_of_getElem? (i := 0) rfl)))) (List.mem_cons_of_mem _ (List.mem_append_left _ (List.mem_append_left _ (List.mem_of_getElem? (i := 1) rfl)))) (List.mem_cons_of_mem _ (List.mem_append_left _ (List.mem_append_left _ (List.mem_of_getElem? (i := 2) rfl)))) (List.mem_cons_of_mem _ (List.mem_append_left _ (List.mem_append_left _ (List.mem_of_getElem? (i := 3) rfl)))) (by decide +kernel)) gg_x_copyRow__36_copied
set_option maxHeartbeats 40000000 in
set_option maxRecDepth 100000 in
theorem c_x_copyRow__36 (l : Launch) (dC : Nat → ClassId) (dI : Nat → Nat → Nat) (cy : Nat → ClassId) (a : Nat → Nat) (k0 : Nat) (L0 : Nat → Int32) (σ0 : MS) (r0 : Int32 × MS) (h0 : x_copyRow__36 k0 0 L0 σ0 = some r0) (sz : Nat) : Met l yX12_copyRow w_x_copyRow__36 ({ frames := 1, cells := 0, slots := 0, locals := 24 }) (va_Pc [.ref (a 0), .ref (a 36), .int (L0 2), .int (L0 3)] (nIn (dC, dI) cy sz (vM cy a σ0))) (va_Qv (fun _ : Unit => True) (fun _ t => nOut (dC, dI) cy (va_A (vM cy a σ0) sz) (vM cy a r0.2) t) (va_A (vM cy a σ0) sz)) 0 0 (va_A (vM cy a σ0) sz) := by
  refine Met.ofW (cc := cX12_copyRow) (maxL := 5) (ret := none) (by decide) rfl ?_
  intro p e s m args below meth c s₁ B hml hv
  obtain ⟨rfl, hsz, hP, hK, hD0, hG⟩ := hv
  have hx := B.exec
  have hb := B.bytes
  have hr := B.returns
  have hts := atoms_spec (ws := w_x_copyRow__36) B.pre
  have hown : s.vm.findClass RX12 = some m.cls := findClass_of_methodNamed B.named
  have hlocks := B.notSynchronized
  subst hsz
  have hD := hD0.self (sz := s.heap.size)
  generalize hAe : va_A (vM cy a σ0) s.heap.size = A at hD ⊢
  have hA : ∀ q : Nat, s.heap.size ≤ q → A q := fun q h => by rw [← hAe]; exact Or.inr h
  have hS : va_S A s.heap s.heap [] := va_S.rf
  have hl := lv_entry ([.ref (a 0), .ref (a 36), .int (L0 2), .int (L0 3)]) (n := 5) (Nat.le_of_ble_eq_true rfl)
  rw [lg_entry_eq]
  generalize (lg_sl ([.ref (a 0), .ref (a 36), .int (L0 2), .int (L0 3)]) ++ List.replicate (5 - (lg_sl ([.ref (a 0), .ref (a 36), .int (L0 2), .int (L0 3)])).length) Slot.unset).toArray = ls at hl ⊢
  have hl : lv_has ls 5 [(0, .ref (a 0)), (1, .ref (a 36)), (2, .int (L0 2)), (3, .int (L0 3))] := hl
  have blk : ∀ k : Nat, (bT p l e (headSpec w_x_copyRow__36 ({ frames := 1, cells := 0, slots := 0, locals := 24 })).room s m #[.ref (a 0), .ref (a 36), .int (L0 2), .int (L0 3)] below meth c dC dI cy a A (qV dC dI cy a A below #[.ref (a 0), .ref (a 36), .int (L0 2), .int (L0 3)] s) 5 (x_copyRow__36 k 0) (fun L => [(0, .ref (a 0)), (1, .ref (a 36)), (2, .int (L 2)), (3, .int (L 3))]) 0 (fun L => [])) ∧ (bT p l e (headSpec w_x_copyRow__36 ({ frames := 1, cells := 0, slots := 0, locals := 24 })).room s m #[.ref (a 0), .ref (a 36), .int (L0 2), .int (L0 3)] below meth c dC dI cy a A (qV dC dI cy a A below #[.ref (a 0), .ref (a 36), .int (L0 2), .int (L0 3)] s) 5 (x_copyRow__36 k 1) (fun L => [(0, .ref (a 0)), (1, .ref (a 36)), (2, .int (L 2)), (3, .int (L 3)), (4, .int (L 4))]) 3 (fun L => [])) ∧ (bT p l e (headSpec w_x_copyRow__36 ({ frames := 1, cells := 0, slots := 0, locals := 24 })).room s m #[.ref (a 0), .ref (a 36), .int (L0 2), .int (L0 3)] below meth c dC dI cy a A (qV dC dI cy a A below #[.ref (a 0), .ref (a 36), .int (L0 2), .int (L0 3)] s) 5 (x_copyRow__36 k 2) (fun L => [(0, .ref (a 0)), (1, .ref (a 36)), (2, .int (L 2)), (3, .int (L 3)), (4, .int (L 4))]) 23 (fun L => [])) ∧ (bT p l e (headSpec w_x_copyRow__36 ({ frames := 1, cells := 0, slots := 0, locals := 24 })).room s m #[.ref (a 0), .ref (a 36), .int (L0 2), .int (L0 3)] below meth c dC dI cy a A (qV dC dI cy a A below #[.ref (a 0), .ref (a 36), .int (L0 2), .int (L0 3)] s) 5 (x_copyRow__36 k 3) (fun L => [(0, .ref (a 0)), (1, .ref (a 36)), (2, .int (L 2)), (3, .int (L 3)), (4, .int (L 4))]) 29 (fun L => [])) := by
    intro k
    induction k with
    | zero => exact ⟨fun L σ r h => (by cases h), fun L σ r h => (by cases h), fun L σ r h => (by cases h), fun L σ r h => (by cases h)⟩
    | succ k ih =>
      refine ⟨?_, ?_, ?_, ?_⟩
      · intro L σ r h H locs ls hP hD hS hl
        rw [x_copyRow__36] at h
        refine lv_iload_n hx hb dX12_copyRow_0 rfl (lv_at hl 2 rfl) ?_
        refine lv_istore (lv' := [(4, .int (L 2)), (0, .ref (a 0)), (1, .ref (a 36)), (2, .int (L 2)), (3, .int (L 3))]) hx hb dX12_copyRow_1 hl (by decide) rfl (fun ls hl => ?_)
        exact ih.2.1 (upd L 4 ((L 2))) σ r h H locs ls hP hD hS (lv_sub hl [1, 2, 3, 4, 0] rfl)
      · intro L σ r h H locs ls hP hD hS hl
        rw [x_copyRow__36] at h
        refine lv_iload hx hb dX12_copyRow_3 (lv_at hl 4 rfl) ?_
        refine lv_iload_n hx hb dX12_copyRow_5 rfl (lv_at hl 2 rfl) ?_
        refine lv_iload_n hx hb dX12_copyRow_6 rfl (lv_at hl 3 rfl) ?_
        refine lv_iadd hx hb dX12_copyRow_7 ?_
        refine lv_icmp_ge (tgt := 29) hx hb dX12_copyRow_8 (by decide) (fun c1 => ?_) (fun c1 => ?_)
        · rw [if_pos c1] at h
          exact ih.2.2.2 L σ r h H locs ls hP hD hS (lv_sub hl [0, 1, 2, 3, 4] rfl)
        · rw [if_neg c1] at h
          refine lv_aload_n hx hb dX12_copyRow_11 rfl (lv_at hl 1 rfl) ?_
          refine lv_iload hx hb dX12_copyRow_12 (lv_at hl 4 rfl) ?_
          refine lv_aload_n hx hb dX12_copyRow_14 rfl (lv_at hl 0 rfl) ?_
          refine lv_aload_n hx hb dX12_copyRow_15 rfl (lv_at hl 1 rfl) ?_
          refine lv_iload hx hb dX12_copyRow_16 (lv_at hl 4 rfl) ?_
          obtain ⟨q2, h⟩ := nb_ite1 h
          refine nl_36 hx hb hK hP q2 dX12_copyRow_18 ?_
          obtain ⟨r3, hc3, h⟩ := ob_ex h
          refine nc_Vi (As := [.int (σ.2.2 36 ((L 4)).toNatClampNeg)]) (rest := [.int (L 4), .ref (a 36)]) ⟨hx, hb, hml, hown, hts⟩ (c_x_copied l dC dI cy a k (upd (fun _ => 0) 1 ((σ.2.2 36 ((L 4)).toNatClampNeg))) σ r3 hc3 H.size) (cwV 1 hts g_x_copyRow__36_copied_388 rfl rfl rfl hd_x_copied ⟨Nat.le_of_ble_eq_true rfl, Nat.le_of_ble_eq_true rfl⟩) hK hG hA hP hD hS rfl hl.1 rfl (Nat.le_of_ble_eq_true rfl) dX12_copyRow_19 ⟨Nat.le_refl _, Nat.le_refl _⟩ (fun H locs hP hD hS => ?_)
          obtain ⟨q4, h⟩ := nb_ite1 h
          refine ns_36 hx hb hK hP hD hS q4 dX12_copyRow_22 (fun H locs hP hD hS => ?_)
          exact ih.2.2.1 L (r3.2.1, r3.2.2.1, updG r3.2.2.2 36 (upd (r3.2.2.2 36) ((L 4)).toNatClampNeg r3.1)) r h H locs ls hP hD hS (lv_sub hl [0, 1, 2, 3, 4] rfl)
      · intro L σ r h H locs ls hP hD hS hl
        rw [x_copyRow__36] at h
        refine lv_iinc (v := ((L 4)) + 1) (lv' := [(4, .int (((L 4)) + 1)), (0, .ref (a 0)), (1, .ref (a 36)), (2, .int (L 2)), (3, .int (L 3))]) hx hb dX12_copyRow_23 hl (k := 4) rfl rfl (by decide) rfl (fun ls hl => ?_)
        refine lv_goto (tgt := 3) hx hb dX12_copyRow_26 (by decide) ?_
        exact ih.2.1 (upd L 4 (((L 4)) + 1)) σ r h H locs ls hP hD hS (lv_sub hl [1, 2, 3, 4, 0] rfl)
      · intro L σ r h H locs ls hP hD hS hl
        rw [x_copyRow__36] at h
        cases h
        exact W.vret hx hb hr (fun t ht hW => ⟨⟨(), rfl, trivial, by rw [ht]; exact hP, va_K.moved hW.alike hK, hD⟩, hS.F ht⟩) hS.2.2 dX12_copyRow_29
  exact (blk k0).1 L0 σ0 r0 h0 s.heap [] ls hP hD hS hl
/-! copyRow__37 -/
def x_copyRow__37 : Nat → Nat → (Nat → Int32) → MS → Option (Int32 × MS)
  | 0, _, _, _ => none
  | k + 1, 0, L, σ => x_copyRow__37 k 1 (upd L 4 ((L 2))) σ
  | k + 1, 1, L, σ => if ((((L 2)) + ((L 3)))) ≤ ((L 4)) then (x_copyRow__37 k 3 L σ) else (if ¬ (((L 4)) < 0 ∨ 8 ≤ ((L 4)).toNatClampNeg) then (ob (x_copied k 0 (upd (fun _ => 0) 1 ((σ.2.2 37 ((L 4)).toNatClampNeg))) σ) (fun r3 => if ¬ (((L 4)) < 0 ∨ 8 ≤ ((L 4)).toNatClampNeg) then (x_copyRow__37 k 2 L (r3.2.1, r3.2.2.1, updG r3.2.2.2 37 (upd (r3.2.2.2 37) ((L 4)).toNatClampNeg r3.1))) else none)) else none)
  | k + 1, 2, L, σ => x_copyRow__37 k 1 (upd L 4 (((L 4)) + 1)) σ
  | k + 1, 3, L, σ => some (0, σ)
  | _ + 1, _ + 4, _, _ => none
def o_x_copyRow__37 : List Cond := [.methodLink RX12 388 yX12_copied, .instanceMethod yX12_copied, .selects RX12 yX12_copied yX12_copied, .initialized RX12]
theorem o_x_copyRow__37_good : o_x_copyRow__37.all goodWord = true := by decide +kernel
def p_x_copyRow__37 : List Cond := o_x_copyRow__37 ++ ((.code yX12_copied cX12_copied 5 (some .int) :: p_x_copied) ++ [])
theorem p_x_copyRow__37_good : p_x_copyRow__37.all goodWord = true := nb_all2 o_x_copyRow__37_good (nb_all2 (nb_allc (by decide +kernel) p_x_copied_good) rfl)
def w_x_copyRow__37 : List Cond := .code yX12_copyRow cX12_copyRow 5 none :: (p_x_copyRow__37 ++ fM)
theorem w_x_copyRow__37_good : w_x_copyRow__37.all goodWord = true := nb_allc (by decide +kernel) (nb_all2 p_x_copyRow__37_good fM_good)
theorem in_x_copyRow__37 : ∀ w ∈ wsX120, w ∈ w_x_copyRow__37 := fun _ h => List.mem_cons_of_mem _ (List.mem_append_right _ h)
theorem hd_x_copyRow__37 : yX12_copyRow.cls = RX12 ∧ yX12_copyRow.cls ≠ "java/lang/invoke/MethodHandle" ∧ yX12_copyRow.cls ≠ "java/lang/invoke/VarHandle" ∧ (parseMethodDescriptor yX12_copyRow.desc).map (fun d => d.parameters.length) = some 3 := by decide +kernel
theorem gg_x_copyRow__37_copied : GoodIn w_x_copyRow__37 w_x_copied := goodIn_sub (fun w h => (List.mem_cons.mp h).elim (fun e => (List.mem_cons_of_mem _ (List.mem_append_left _ (List.mem_append_right _ (List.mem_append_left _ (List.mem_cons.mpr (Or.inl e))))))) (fun h => (List.mem_append.mp h).elim (fun h => (List.mem_cons_of_mem _ (List.mem_append_left _ (List.mem_append_right _ (List.mem_append_left _ (List.mem_cons_of_mem _ h)))))) (fun h => List.mem_cons_of_mem _ (List.mem_append_right _ h)))) w_x_copied_good
theorem g_x_copyRow__37_copied_388 : GoodIn w_x_copyRow__37 (wsV RX12 388 RX12 yX12_copied w_x_copied) := goodIn_app (nb_g4 (List.mem_cons_of_mem _ (List.mem_append_left _ (List.mem_append_left _ (List.mem_of_getElem? (i := 0) rfl)))) (List.mem_cons_of_mem _ (List.mem_append_left _ (List.mem_append_left _ (List.mem_of_getElem? (i := 1) rfl)))) (List.mem_cons_of_mem _ (List.mem_append_left _ (List.mem_append_left _ (List.mem_of_getElem? (i := 2) rfl)))) (List.mem_cons_of_mem _ (List.mem_append_left _ (List.mem_append_left _ (List.mem_of_getElem? (i := 3) rfl)))) (by decide +kernel)) gg_x_copyRow__37_copied
set_option maxHeartbeats 40000000 in
set_option maxRecDepth 100000 in
theorem c_x_copyRow__37 (l : Launch) (dC : Nat → ClassId) (dI : Nat → Nat → Nat) (cy : Nat → ClassId) (a : Nat → Nat) (k0 : Nat) (L0 : Nat → Int32) (σ0 : MS) (r0 : Int32 × MS) (h0 : x_copyRow__37 k0 0 L0 σ0 = some r0) (sz : Nat) : Met l yX12_copyRow w_x_copyRow__37 ({ frames := 1, cells := 0, slots := 0, locals := 24 }) (va_Pc [.ref (a 0), .ref (a 37), .int (L0 2), .int (L0 3)] (nIn (dC, dI) cy sz (vM cy a σ0))) (va_Qv (fun _ : Unit => True) (fun _ t => nOut (dC, dI) cy (va_A (vM cy a σ0) sz) (vM cy a r0.2) t) (va_A (vM cy a σ0) sz)) 0 0 (va_A (vM cy a σ0) sz) := by
  refine Met.ofW (cc := cX12_copyRow) (maxL := 5) (ret := none) (by decide) rfl ?_
  intro p e s m args below meth c s₁ B hml hv
  obtain ⟨rfl, hsz, hP, hK, hD0, hG⟩ := hv
  have hx := B.exec
  have hb := B.bytes
  have hr := B.returns
  have hts := atoms_spec (ws := w_x_copyRow__37) B.pre
  have hown : s.vm.findClass RX12 = some m.cls := findClass_of_methodNamed B.named
  have hlocks := B.notSynchronized
  subst hsz
  have hD := hD0.self (sz := s.heap.size)
  generalize hAe : va_A (vM cy a σ0) s.heap.size = A at hD ⊢
  have hA : ∀ q : Nat, s.heap.size ≤ q → A q := fun q h => by rw [← hAe]; exact Or.inr h
  have hS : va_S A s.heap s.heap [] := va_S.rf
  have hl := lv_entry ([.ref (a 0), .ref (a 37), .int (L0 2), .int (L0 3)]) (n := 5) (Nat.le_of_ble_eq_true rfl)
  rw [lg_entry_eq]
  generalize (lg_sl ([.ref (a 0), .ref (a 37), .int (L0 2), .int (L0 3)]) ++ List.replicate (5 - (lg_sl ([.ref (a 0), .ref (a 37), .int (L0 2), .int (L0 3)])).length) Slot.unset).toArray = ls at hl ⊢
  have hl : lv_has ls 5 [(0, .ref (a 0)), (1, .ref (a 37)), (2, .int (L0 2)), (3, .int (L0 3))] := hl
  have blk : ∀ k : Nat, (bT p l e (headSpec w_x_copyRow__37 ({ frames := 1, cells := 0, slots := 0, locals := 24 })).room s m #[.ref (a 0), .ref (a 37), .int (L0 2), .int (L0 3)] below meth c dC dI cy a A (qV dC dI cy a A below #[.ref (a 0), .ref (a 37), .int (L0 2), .int (L0 3)] s) 5 (x_copyRow__37 k 0) (fun L => [(0, .ref (a 0)), (1, .ref (a 37)), (2, .int (L 2)), (3, .int (L 3))]) 0 (fun L => [])) ∧ (bT p l e (headSpec w_x_copyRow__37 ({ frames := 1, cells := 0, slots := 0, locals := 24 })).room s m #[.ref (a 0), .ref (a 37), .int (L0 2), .int (L0 3)] below meth c dC dI cy a A (qV dC dI cy a A below #[.ref (a 0), .ref (a 37), .int (L0 2), .int (L0 3)] s) 5 (x_copyRow__37 k 1) (fun L => [(0, .ref (a 0)), (1, .ref (a 37)), (2, .int (L 2)), (3, .int (L 3)), (4, .int (L 4))]) 3 (fun L => [])) ∧ (bT p l e (headSpec w_x_copyRow__37 ({ frames := 1, cells := 0, slots := 0, locals := 24 })).room s m #[.ref (a 0), .ref (a 37), .int (L0 2), .int (L0 3)] below meth c dC dI cy a A (qV dC dI cy a A below #[.ref (a 0), .ref (a 37), .int (L0 2), .int (L0 3)] s) 5 (x_copyRow__37 k 2) (fun L => [(0, .ref (a 0)), (1, .ref (a 37)), (2, .int (L 2)), (3, .int (L 3)), (4, .int (L 4))]) 23 (fun L => [])) ∧ (bT p l e (headSpec w_x_copyRow__37 ({ frames := 1, cells := 0, slots := 0, locals := 24 })).room s m #[.ref (a 0), .ref (a 37), .int (L0 2), .int (L0 3)] below meth c dC dI cy a A (qV dC dI cy a A below #[.ref (a 0), .ref (a 37), .int (L0 2), .int (L0 3)] s) 5 (x_copyRow__37 k 3) (fun L => [(0, .ref (a 0)), (1, .ref (a 37)), (2, .int (L 2)), (3, .int (L 3)), (4, .int (L 4))]) 29 (fun L => [])) := by
    intro k
    induction k with
    | zero => exact ⟨fun L σ r h => (by cases h), fun L σ r h => (by cases h), fun L σ r h => (by cases h), fun L σ r h => (by cases h)⟩
    | succ k ih =>
      refine ⟨?_, ?_, ?_, ?_⟩
      · intro L σ r h H locs ls hP hD hS hl
        rw [x_copyRow__37] at h
        refine lv_iload_n hx hb dX12_copyRow_0 rfl (lv_at hl 2 rfl) ?_
        refine lv_istore (lv' := [(4, .int (L 2)), (0, .ref (a 0)), (1, .ref (a 37)), (2, .int (L 2)), (3, .int (L 3))]) hx hb dX12_copyRow_1 hl (by decide) rfl (fun ls hl => ?_)
        exact ih.2.1 (upd L 4 ((L 2))) σ r h H locs ls hP hD hS (lv_sub hl [1, 2, 3, 4, 0] rfl)
      · intro L σ r h H locs ls hP hD hS hl
        rw [x_copyRow__37] at h
        refine lv_iload hx hb dX12_copyRow_3 (lv_at hl 4 rfl) ?_
        refine lv_iload_n hx hb dX12_copyRow_5 rfl (lv_at hl 2 rfl) ?_
        refine lv_iload_n hx hb dX12_copyRow_6 rfl (lv_at hl 3 rfl) ?_
        refine lv_iadd hx hb dX12_copyRow_7 ?_
        refine lv_icmp_ge (tgt := 29) hx hb dX12_copyRow_8 (by decide) (fun c1 => ?_) (fun c1 => ?_)
        · rw [if_pos c1] at h
          exact ih.2.2.2 L σ r h H locs ls hP hD hS (lv_sub hl [0, 1, 2, 3, 4] rfl)
        · rw [if_neg c1] at h
          refine lv_aload_n hx hb dX12_copyRow_11 rfl (lv_at hl 1 rfl) ?_
          refine lv_iload hx hb dX12_copyRow_12 (lv_at hl 4 rfl) ?_
          refine lv_aload_n hx hb dX12_copyRow_14 rfl (lv_at hl 0 rfl) ?_
          refine lv_aload_n hx hb dX12_copyRow_15 rfl (lv_at hl 1 rfl) ?_
          refine lv_iload hx hb dX12_copyRow_16 (lv_at hl 4 rfl) ?_
          obtain ⟨q2, h⟩ := nb_ite1 h
          refine nl_37 hx hb hK hP q2 dX12_copyRow_18 ?_
          obtain ⟨r3, hc3, h⟩ := ob_ex h
          refine nc_Vi (As := [.int (σ.2.2 37 ((L 4)).toNatClampNeg)]) (rest := [.int (L 4), .ref (a 37)]) ⟨hx, hb, hml, hown, hts⟩ (c_x_copied l dC dI cy a k (upd (fun _ => 0) 1 ((σ.2.2 37 ((L 4)).toNatClampNeg))) σ r3 hc3 H.size) (cwV 1 hts g_x_copyRow__37_copied_388 rfl rfl rfl hd_x_copied ⟨Nat.le_of_ble_eq_true rfl, Nat.le_of_ble_eq_true rfl⟩) hK hG hA hP hD hS rfl hl.1 rfl (Nat.le_of_ble_eq_true rfl) dX12_copyRow_19 ⟨Nat.le_refl _, Nat.le_refl _⟩ (fun H locs hP hD hS => ?_)
          obtain ⟨q4, h⟩ := nb_ite1 h
          refine ns_37 hx hb hK hP hD hS q4 dX12_copyRow_22 (fun H locs hP hD hS => ?_)
          exact ih.2.2.1 L (r3.2.1, r3.2.2.1, updG r3.2.2.2 37 (upd (r3.2.2.2 37) ((L 4)).toNatClampNeg r3.1)) r h H locs ls hP hD hS (lv_sub hl [0, 1, 2, 3, 4] rfl)
      · intro L σ r h H locs ls hP hD hS hl
        rw [x_copyRow__37] at h
        refine lv_iinc (v := ((L 4)) + 1) (lv' := [(4, .int (((L 4)) + 1)), (0, .ref (a 0)), (1, .ref (a 37)), (2, .int (L 2)), (3, .int (L 3))]) hx hb dX12_copyRow_23 hl (k := 4) rfl rfl (by decide) rfl (fun ls hl => ?_)
        refine lv_goto (tgt := 3) hx hb dX12_copyRow_26 (by decide) ?_
        exact ih.2.1 (upd L 4 (((L 4)) + 1)) σ r h H locs ls hP hD hS (lv_sub hl [1, 2, 3, 4, 0] rfl)
      · intro L σ r h H locs ls hP hD hS hl
        rw [x_copyRow__37] at h
        cases h
        exact W.vret hx hb hr (fun t ht hW => ⟨⟨(), rfl, trivial, by rw [ht]; exact hP, va_K.moved hW.alike hK, hD⟩, hS.F ht⟩) hS.2.2 dX12_copyRow_29
  exact (blk k0).1 L0 σ0 r0 h0 s.heap [] ls hP hD hS hl

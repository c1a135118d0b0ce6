/-! fail -/
def x_fail : Nat → Nat → (Nat → Int32) → MS → Option (Int32 × MS)
  | 0, _, _, _ => none
  | k + 1, 0, L, σ => if ((σ.1 56)) = 0 then (x_fail k 2 (upd L 100 ((L 1))) σ) else (x_fail k 1 L σ)
  | k + 1, 1, L, σ => x_fail k 2 (upd L 100 ((σ.1 56))) σ
  | k + 1, 2, L, σ => some (0, (upd σ.1 56 ((L 100)), σ.2.1, σ.2.2))
  | _ + 1, _ + 3, _, _ => none
def o_x_fail : List Cond := [.fieldLink RX12 362 "SetHouseModel" "err" "I"]
theorem o_x_fail_good : o_x_fail.all goodWord = true := by decide +kernel
def p_x_fail : List Cond := o_x_fail ++ []
theorem p_x_fail_good : p_x_fail.all goodWord = true := nb_all2 o_x_fail_good rfl
def w_x_fail : List Cond := .code yX12_fail cX12_fail 2 none :: (p_x_fail ++ fM)
theorem w_x_fail_good : w_x_fail.all goodWord = true := nb_allc (by decide +kernel) (nb_all2 p_x_fail_good fM_good)
theorem in_x_fail : ∀ w ∈ wsX120, w ∈ w_x_fail := fun _ h => List.mem_cons_of_mem _ (List.mem_append_right _ h)
set_option maxHeartbeats 40000000 in
set_option maxRecDepth 100000 in
theorem c_x_fail (l : Launch) (dC : Nat → ClassId) (dI : Nat → Nat → Nat) (cy : Nat → ClassId) (a : Nat → Nat) (k0 : Nat) (L0 : Nat → Int32) (σ0 : MS) (r0 : Int32 × MS) (h0 : x_fail k0 0 L0 σ0 = some r0) (sz : Nat) : Met l yX12_fail w_x_fail ({ frames := 0, cells := 0, slots := 0, locals := 0 }) (va_Pc [.ref (a 0), .int (L0 1)] (nIn (dC, dI) cy sz (vM cy a σ0))) (va_Qv (fun _ : Unit => True) (fun _ t => nOut (dC, dI) cy (va_A (vM cy a σ0) sz) (vM cy a r0.2) t) (va_A (vM cy a σ0) sz)) 0 0 (va_A (vM cy a σ0) sz) := by
  refine Met.ofW (cc := cX12_fail) (maxL := 2) (ret := none) (by decide) rfl ?_
  intro p e s m args below meth c s₁ B hml hv
  obtain ⟨rfl, hsz, hP, hK, hD0, hG⟩ := hv
  have hx := B.exec
  have hb := B.bytes
  have hr := B.returns
  have hts := atoms_spec (ws := w_x_fail) B.pre
  have hown : s.vm.findClass RX12 = some m.cls := findClass_of_methodNamed B.named
  have hlocks := B.notSynchronized
  subst hsz
  have hD := hD0.self (sz := s.heap.size)
  generalize hAe : va_A (vM cy a σ0) s.heap.size = A at hD ⊢
  have hA : ∀ q : Nat, s.heap.size ≤ q → A q := fun q h => by rw [← hAe]; exact Or.inr h
  have hS : va_S A s.heap s.heap [] := va_S.rf
  have hl := lv_entry ([.ref (a 0), .int (L0 1)]) (n := 2) (Nat.le_of_ble_eq_true rfl)
  rw [lg_entry_eq]
  generalize (lg_sl ([.ref (a 0), .int (L0 1)]) ++ List.replicate (2 - (lg_sl ([.ref (a 0), .int (L0 1)])).length) Slot.unset).toArray = ls at hl ⊢
  have hl : lv_has ls 2 [(0, .ref (a 0)), (1, .int (L0 1))] := hl
  have blk : ∀ k : Nat, (∀ (L : Nat → Int32) (σ : MS) (r : Int32 × MS), x_fail k 0 L σ = some r → ∀ (H : Heap) (locs : List Loc) (ls : Array Slot), va_P (dC, dI) nCl (vM cy a σ) H → va_D A (vM cy a σ) → va_S A s.heap H locs → lv_has ls 2 [(0, .ref (a 0)), (1, .int (L 1))] → W p l e (headSpec w_x_fail ({ frames := 0, cells := 0, slots := 0, locals := 0 })).room s m #[.ref (a 0), .int (L0 1)] below meth c H locs 0 0 (MQ below (va_Qv (fun _ : Unit => True) (fun _ t => nOut (dC, dI) cy A (vM cy a r.2) t) A) #[.ref (a 0), .int (L0 1)] s 0 0 A) (F0 m 0 ls [])) ∧ (∀ (L : Nat → Int32) (σ : MS) (r : Int32 × MS), x_fail k 1 L σ = some r → ∀ (H : Heap) (locs : List Loc) (ls : Array Slot), va_P (dC, dI) nCl (vM cy a σ) H → va_D A (vM cy a σ) → va_S A s.heap H locs → lv_has ls 2 [(0, .ref (a 0)), (1, .int (L 1))] → W p l e (headSpec w_x_fail ({ frames := 0, cells := 0, slots := 0, locals := 0 })).room s m #[.ref (a 0), .int (L0 1)] below meth c H locs 0 0 (MQ below (va_Qv (fun _ : Unit => True) (fun _ t => nOut (dC, dI) cy A (vM cy a r.2) t) A) #[.ref (a 0), .int (L0 1)] s 0 0 A) (F0 m 12 ls [.ref (a 0)])) ∧ (∀ (L : Nat → Int32) (σ : MS) (r : Int32 × MS), x_fail k 2 L σ = some r → ∀ (H : Heap) (locs : List Loc) (ls : Array Slot), va_P (dC, dI) nCl (vM cy a σ) H → va_D A (vM cy a σ) → va_S A s.heap H locs → lv_has ls 2 [(0, .ref (a 0)), (1, .int (L 1))] → W p l e (headSpec w_x_fail ({ frames := 0, cells := 0, slots := 0, locals := 0 })).room s m #[.ref (a 0), .int (L0 1)] below meth c H locs 0 0 (MQ below (va_Qv (fun _ : Unit => True) (fun _ t => nOut (dC, dI) cy A (vM cy a r.2) t) A) #[.ref (a 0), .int (L0 1)] s 0 0 A) (F0 m 16 ls [.int (L 100), .ref (a 0)])) := by
    intro k
    induction k with
    | zero => exact ⟨fun L σ r h => (by cases h), fun L σ r h => (by cases h), fun L σ r h => (by cases h)⟩
    | succ k ih =>
      refine ⟨?_, ?_, ?_⟩
      · intro L σ r h H locs ls hP hD hS hl
        rw [x_fail] at h
        refine lv_aload_n hx hb dX12_fail_0 rfl (lv_at hl 0 rfl) ?_
        refine lv_aload_n hx hb dX12_fail_1 rfl (lv_at hl 0 rfl) ?_
        refine va_get (D := (dC, dI)) (ci := 11) (v := .int (σ.1 56)) (C := RX12) (T := TX12) (N := 121) hx hb hts in_x_fail hown hK hP 0 rfl rfl 56 (by decide) (hts _ (List.mem_cons_of_mem _ (List.mem_append_left _ (List.mem_append_left _ (List.mem_of_getElem? (i := 0) rfl))))) (fun _ h9 => h9) rfl dX12_fail_2 ?_
        refine lv_if_ne (tgt := 12) hx hb dX12_fail_5 (by decide) (fun c1 => ?_) (fun c1 => ?_)
        · rw [if_neg c1] at h
          exact ih.2.1 L σ r h H locs ls hP hD hS (lv_sub hl [0, 1] rfl)
        · rw [if_pos c1] at h
          refine lv_iload_n hx hb dX12_fail_8 rfl (lv_at hl 1 rfl) ?_
          refine lv_goto (tgt := 16) hx hb dX12_fail_9 (by decide) ?_
          exact ih.2.2 (upd L 100 ((L 1))) σ r h H locs ls hP hD hS (lv_sub hl [0, 1] rfl)
      · intro L σ r h H locs ls hP hD hS hl
        rw [x_fail] at h
        refine lv_aload_n hx hb dX12_fail_12 rfl (lv_at hl 0 rfl) ?_
        refine va_get (D := (dC, dI)) (ci := 11) (v := .int (σ.1 56)) (C := RX12) (T := TX12) (N := 121) hx hb hts in_x_fail hown hK hP 0 rfl rfl 56 (by decide) (hts _ (List.mem_cons_of_mem _ (List.mem_append_left _ (List.mem_append_left _ (List.mem_of_getElem? (i := 0) rfl))))) (fun _ h9 => h9) rfl dX12_fail_13 ?_
        exact ih.2.2 (upd L 100 ((σ.1 56))) σ r h H locs ls hP hD hS (lv_sub hl [0, 1] rfl)
      · intro L σ r h H locs ls hP hD hS hl
        rw [x_fail] at h
        refine va_put (D := (dC, dI)) (ci := 11) (v := .int (L 100)) (ty := .int) (C := RX12) (T := TX12) (N := 121) hx hb hts in_x_fail tyX12 tyX12_ok nmX12 hown hK hP hD hS 0 rfl rfl 56 (by decide) (hts _ (List.mem_cons_of_mem _ (List.mem_append_left _ (List.mem_append_left _ (List.mem_of_getElem? (i := 0) rfl))))) (fun _ h9 => h9) rfl (by decide +kernel) rfl rfl (Nat.le_of_ble_eq_true rfl) dX12_fail_16 (fun H locs hP hD hS => ?_)
        have hP : va_P (dC, dI) nCl (vM cy a (upd σ.1 56 ((L 100)), σ.2.1, σ.2.2)) H := hP
        have hD : va_D A (vM cy a (upd σ.1 56 ((L 100)), σ.2.1, σ.2.2)) := hD
        cases h
        exact W.vret hx hb hr (fun t ht hW => ⟨⟨(), rfl, trivial, by rw [ht]; exact hP, va_K.moved hW.alike hK, hD⟩, hS.F ht⟩) hS.2.2 dX12_fail_19
  exact (blk k0).1 L0 σ0 r0 h0 s.heap [] ls hP hD hS hl
/-! worked -/
def x_worked : Nat → Nat → (Nat → Int32) → MS → Option (Int32 × MS)
  | 0, _, _, _ => none
  | k + 1, 0, L, σ => x_worked k 1 L (upd σ.1 57 ((((σ.1 57)) + ((L 1)))), σ.2.1, σ.2.2)
  | k + 1, 1, L, σ => if ((σ.1 57)) ≤ 60000 then (x_worked k 2 L σ) else (ob (x_fail k 0 (upd (fun _ => 0) 1 11) σ) (fun r2 => x_worked k 2 L r2.2))
  | k + 1, 2, L, σ => some (0, σ)
  | _ + 1, _ + 3, _, _ => none
def o_x_worked : List Cond := [.fieldLink RX12 365 "SetHouseModel" "work" "I", .constant RX12 368 (60000), .methodLink RX12 369 yX12_fail, .instanceMethod yX12_fail, .selects RX12 yX12_fail yX12_fail, .initialized RX12]
theorem o_x_worked_good : o_x_worked.all goodWord = true := by decide +kernel
def p_x_worked : List Cond := o_x_worked ++ ((.code yX12_fail cX12_fail 2 none :: p_x_fail) ++ [])
theorem p_x_worked_good : p_x_worked.all goodWord = true := nb_all2 o_x_worked_good (nb_all2 (nb_allc (by decide +kernel) p_x_fail_good) rfl)
def w_x_worked : List Cond := .code yX12_worked cX12_worked 2 none :: (p_x_worked ++ fM)
theorem w_x_worked_good : w_x_worked.all goodWord = true := nb_allc (by decide +kernel) (nb_all2 p_x_worked_good fM_good)
theorem in_x_worked : ∀ w ∈ wsX120, w ∈ w_x_worked := fun _ h => List.mem_cons_of_mem _ (List.mem_append_right _ h)
theorem gg_x_worked_fail : GoodIn w_x_worked w_x_fail := goodIn_sub (fun w h => (List.mem_cons.mp h).elim (fun e => (List.mem_cons_of_mem _ (List.mem_append_left _ (List.mem_append_right _ (List.mem_append_left _ (List.mem_cons.mpr (Or.inl e))))))) (fun h => (List.mem_append.mp h).elim (fun h => (List.mem_cons_of_mem _ (List.mem_append_left _ (List.mem_append_right _ (List.mem_append_left _ (List.mem_cons_of_mem _ h)))))) (fun h => List.mem_cons_of_mem _ (List.mem_append_right _ h)))) w_x_fail_good
theorem g_x_worked_fail_369 : GoodIn w_x_worked (wsV RX12 369 RX12 yX12_fail w_x_fail) := goodIn_app (nb_g4 (List.mem_cons_of_mem _ (List.mem_append_left _ (List.mem_append_left _ (List.mem_of_getElem? (i := 2) rfl)))) (List.mem_cons_of_mem _ (List.mem_append_left _ (List.mem_append_left _ (List.mem_of_getElem? (i := 3) rfl)))) (List.mem_cons_of_mem _ (List.mem_append_left _ (List.mem_append_left _ (List.mem_of_getElem? (i := 4) rfl)))) (List.mem_cons_of_mem _ (List.mem_append_left _ (List.mem_append_left _ (List.mem_of_getElem? (i := 5) rfl)))) (by decide +kernel)) gg_x_worked_fail
set_option maxHeartbeats 40000000 in
set_option maxRecDepth 100000 in
theorem c_x_worked (l : Launch) (dC : Nat → ClassId) (dI : Nat → Nat → Nat) (cy : Nat → ClassId) (a : Nat → Nat) (k0 : Nat) (L0 : Nat → Int32) (σ0 : MS) (r0 : Int32 × MS) (h0 : x_worked k0 0 L0 σ0 = some r0) (sz : Nat) : Met l yX12_worked w_x_worked ({ frames := 1, cells := 0, slots := 0, locals := 21 }) (va_Pc [.ref (a 0), .int (L0 1)] (nIn (dC, dI) cy sz (vM cy a σ0))) (va_Qv (fun _ : Unit => True) (fun _ t => nOut (dC, dI) cy (va_A (vM cy a σ0) sz) (vM cy a r0.2) t) (va_A (vM cy a σ0) sz)) 0 0 (va_A (vM cy a σ0) sz) := by
  refine Met.ofW (cc := cX12_worked) (maxL := 2) (ret := none) (by decide) rfl ?_
  intro p e s m args below meth c s₁ B hml hv
  obtain ⟨rfl, hsz, hP, hK, hD0, hG⟩ := hv
  have hx := B.exec
  have hb := B.bytes
  have hr := B.returns
  have hts := atoms_spec (ws := w_x_worked) B.pre
  have hown : s.vm.findClass RX12 = some m.cls := findClass_of_methodNamed B.named
  have hlocks := B.notSynchronized
  subst hsz
  have hD := hD0.self (sz := s.heap.size)
  generalize hAe : va_A (vM cy a σ0) s.heap.size = A at hD ⊢
  have hA : ∀ q : Nat, s.heap.size ≤ q → A q := fun q h => by rw [← hAe]; exact Or.inr h
  have hS : va_S A s.heap s.heap [] := va_S.rf
  have hl := lv_entry ([.ref (a 0), .int (L0 1)]) (n := 2) (Nat.le_of_ble_eq_true rfl)
  rw [lg_entry_eq]
  generalize (lg_sl ([.ref (a 0), .int (L0 1)]) ++ List.replicate (2 - (lg_sl ([.ref (a 0), .int (L0 1)])).length) Slot.unset).toArray = ls at hl ⊢
  have hl : lv_has ls 2 [(0, .ref (a 0)), (1, .int (L0 1))] := hl
  have blk : ∀ k : Nat, (∀ (L : Nat → Int32) (σ : MS) (r : Int32 × MS), x_worked k 0 L σ = some r → ∀ (H : Heap) (locs : List Loc) (ls : Array Slot), va_P (dC, dI) nCl (vM cy a σ) H → va_D A (vM cy a σ) → va_S A s.heap H locs → lv_has ls 2 [(0, .ref (a 0)), (1, .int (L 1))] → W p l e (headSpec w_x_worked ({ frames := 1, cells := 0, slots := 0, locals := 21 })).room s m #[.ref (a 0), .int (L0 1)] below meth c H locs 0 0 (MQ below (va_Qv (fun _ : Unit => True) (fun _ t => nOut (dC, dI) cy A (vM cy a r.2) t) A) #[.ref (a 0), .int (L0 1)] s 0 0 A) (F0 m 0 ls [])) ∧ (∀ (L : Nat → Int32) (σ : MS) (r : Int32 × MS), x_worked k 1 L σ = some r → ∀ (H : Heap) (locs : List Loc) (ls : Array Slot), va_P (dC, dI) nCl (vM cy a σ) H → va_D A (vM cy a σ) → va_S A s.heap H locs → lv_has ls 2 [(0, .ref (a 0)), (1, .int (L 1))] → W p l e (headSpec w_x_worked ({ frames := 1, cells := 0, slots := 0, locals := 21 })).room s m #[.ref (a 0), .int (L0 1)] below meth c H locs 0 0 (MQ below (va_Qv (fun _ : Unit => True) (fun _ t => nOut (dC, dI) cy A (vM cy a r.2) t) A) #[.ref (a 0), .int (L0 1)] s 0 0 A) (F0 m 10 ls [])) ∧ (∀ (L : Nat → Int32) (σ : MS) (r : Int32 × MS), x_worked k 2 L σ = some r → ∀ (H : Heap) (locs : List Loc) (ls : Array Slot), va_P (dC, dI) nCl (vM cy a σ) H → va_D A (vM cy a σ) → va_S A s.heap H locs → lv_has ls 2 [(0, .ref (a 0)), (1, .int (L 1))] → W p l e (headSpec w_x_worked ({ frames := 1, cells := 0, slots := 0, locals := 21 })).room s m #[.ref (a 0), .int (L0 1)] below meth c H locs 0 0 (MQ below (va_Qv (fun _ : Unit => True) (fun _ t => nOut (dC, dI) cy A (vM cy a r.2) t) A) #[.ref (a 0), .int (L0 1)] s 0 0 A) (F0 m 26 ls [])) := by
    intro k
    induction k with
    | zero => exact ⟨fun L σ r h => (by cases h), fun L σ r h => (by cases h), fun L σ r h => (by cases h)⟩
    | succ k ih =>
      refine ⟨?_, ?_, ?_⟩
      · intro L σ r h H locs ls hP hD hS hl
        rw [x_worked] at h
        refine lv_aload_n hx hb dX12_worked_0 rfl (lv_at hl 0 rfl) ?_
        refine lv_dup hx hb dX12_worked_1 rfl ?_
        refine va_get (D := (dC, dI)) (ci := 11) (v := .int (σ.1 57)) (C := RX12) (T := TX12) (N := 121) hx hb hts in_x_worked hown hK hP 0 rfl rfl 57 (by decide) (hts _ (List.mem_cons_of_mem _ (List.mem_append_left _ (List.mem_append_left _ (List.mem_of_getElem? (i := 0) rfl))))) (fun _ h9 => h9) rfl dX12_worked_2 ?_
        refine lv_iload_n hx hb dX12_worked_5 rfl (lv_at hl 1 rfl) ?_
        refine lv_iadd hx hb dX12_worked_6 ?_
        refine va_put (D := (dC, dI)) (ci := 11) (v := .int (((σ.1 57)) + ((L 1)))) (ty := .int) (C := RX12) (T := TX12) (N := 121) hx hb hts in_x_worked tyX12 tyX12_ok nmX12 hown hK hP hD hS 0 rfl rfl 57 (by decide) (hts _ (List.mem_cons_of_mem _ (List.mem_append_left _ (List.mem_append_left _ (List.mem_of_getElem? (i := 0) rfl))))) (fun _ h9 => h9) rfl (by decide +kernel) rfl rfl (Nat.le_of_ble_eq_true rfl) dX12_worked_7 (fun H locs hP hD hS => ?_)
        have hP : va_P (dC, dI) nCl (vM cy a (upd σ.1 57 ((((σ.1 57)) + ((L 1)))), σ.2.1, σ.2.2)) H := hP
        have hD : va_D A (vM cy a (upd σ.1 57 ((((σ.1 57)) + ((L 1)))), σ.2.1, σ.2.2)) := hD
        exact ih.2.1 L (upd σ.1 57 ((((σ.1 57)) + ((L 1)))), σ.2.1, σ.2.2) r h H locs ls hP hD hS (lv_sub hl [0, 1] rfl)
      · intro L σ r h H locs ls hP hD hS hl
        rw [x_worked] at h
        refine lv_aload_n hx hb dX12_worked_10 rfl (lv_at hl 0 rfl) ?_
        refine va_get (D := (dC, dI)) (ci := 11) (v := .int (σ.1 57)) (C := RX12) (T := TX12) (N := 121) hx hb hts in_x_worked hown hK hP 0 rfl rfl 57 (by decide) (hts _ (List.mem_cons_of_mem _ (List.mem_append_left _ (List.mem_append_left _ (List.mem_of_getElem? (i := 0) rfl))))) (fun _ h9 => h9) rfl dX12_worked_11 ?_
        refine lv_ldcw (v := 60000) hx hb hown (hts _ (List.mem_cons_of_mem _ (List.mem_append_left _ (List.mem_append_left _ (List.mem_of_getElem? (i := 1) rfl))))) dX12_worked_14 ?_
        refine lv_icmp_le (tgt := 26) hx hb dX12_worked_17 (by decide) (fun c1 => ?_) (fun c1 => ?_)
        · rw [if_pos c1] at h
          exact ih.2.2 L σ r h H locs ls hP hD hS (lv_sub hl [0, 1] rfl)
        · rw [if_neg c1] at h
          refine lv_aload_n hx hb dX12_worked_20 rfl (lv_at hl 0 rfl) ?_
          refine lv_bipush (v := 11) hx hb dX12_worked_21 (by decide) ?_
          cases hc2 : x_fail k 0 (upd (fun _ => 0) 1 11) σ with
          | none => rw [hc2, ob_none] at h; cases h
          | some r2 =>
            rw [hc2, ob_some] at h
            have hFc := va_free (wc := vM cy a σ) hD hS hA [0, 1, 2, 3, 4, 5, 6, 7, 8, 9, 10, 11, 12, 13, 14, 15, 16, 17, 18, 19, 20, 21, 22, 23, 24, 25, 26, 27, 28, 29, 30, 31, 32, 33, 34, 35, 36, 37, 38, 39, 40, 41, 42, 43, 44, 45, 46, 47, 48, 49, 50, 51, 52, 53, 54, 55, 56, 57] rfl
            refine va_callv (va_runV (As := [.int 11]) (rest := []) ⟨hx, hb, hml, hown, hts⟩ (c_x_fail l dC dI cy a k (upd (fun _ => 0) 1 11) σ r2 hc2 H.size) (cwV 1 hts g_x_worked_fail_369 rfl rfl rfl (by decide +kernel) ⟨Nat.le_of_ble_eq_true rfl, Nat.le_of_ble_eq_true rfl⟩) ⟨nb_blind, va_recv hK hP (ci := 11) (q0 := 0) rfl rfl, fun U hU hW => ⟨rfl, by rw [hU], by rw [hU]; exact hP, va_K.moved hW.alike hK, hD.weaken (fun _ _ _ _ => trivial), hG.warm hW⟩⟩ rfl rfl hl.1 rfl (lv_room (Nat.le_of_ble_eq_true rfl)) dX12_worked_23 ⟨Nat.le_of_ble_eq_true rfl, Nat.le_of_ble_eq_true rfl⟩) hS (fun q _ h => hFc q h) hFc (fun _ t H1 locs ht hvm hw hB hz1 hk1 hS => ?_)
            obtain ⟨hP1, hK1, hD1⟩ := hB
            rw [ht] at hP1
            obtain ⟨hP, hD⟩ := va_join (wr := []) (w1 := vM cy a r2.2) hP hD [0, 1, 2, 3, 4, 5, 6, 7, 8, 9, 10, 11, 12, 13, 14, 15, 16, 17, 18, 19, 20, 21, 22, 23, 24, 25, 26, 27, 28, 29, 30, 31, 32, 33, 34, 35, 36, 37, 38, 39, 40, 41, 42, 43, 44, 45, 46, 47, 48, 49, 50, 51, 52, 53, 54, 55, 56, 57] [] rfl rfl (by decide) (by decide) hk1 hFc hP1 hD1
            generalize H1 = H at hP hS ⊢
            have hP : va_P (dC, dI) nCl (vM cy a r2.2) H := hP
            have hD : va_D A (vM cy a r2.2) := hD
            exact ih.2.2 L r2.2 r h H locs ls hP hD hS (lv_sub hl [0, 1] rfl)
      · intro L σ r h H locs ls hP hD hS hl
        rw [x_worked] at h
        cases h
        exact W.vret hx hb hr (fun t ht hW => ⟨⟨(), rfl, trivial, by rw [ht]; exact hP, va_K.moved hW.alike hK, hD⟩, hS.F ht⟩) hS.2.2 dX12_worked_26
  exact (blk k0).1 L0 σ0 r0 h0 s.heap [] ls hP hD hS hl
/-! kind -/
def x_kind : Nat → Nat → (Nat → Int32) → MS → Option (Int32 × MS)
  | 0, _, _, _ => none
  | k + 1, 0, L, σ => if ((L 1)) = 0 then (x_kind k 3 (upd L 100 0) σ) else (x_kind k 1 L σ)
  | k + 1, 1, L, σ => if 3 ≤ ((L 1)) then (x_kind k 2 L σ) else (x_kind k 3 (upd L 100 1) σ)
  | k + 1, 2, L, σ => if ¬ (((L 1)) < 0 ∨ 1740000 ≤ ((L 1)).toNatClampNeg) then (x_kind k 3 (upd L 100 ((σ.2.2 28 ((L 1)).toNatClampNeg))) σ) else none
  | k + 1, 3, L, σ => some ((L 100), σ)
  | _ + 1, _ + 4, _, _ => none
def o_x_kind : List Cond := [.fieldLink RX12 372 "SetHouseModel" "heap" "[I"]
theorem o_x_kind_good : o_x_kind.all goodWord = true := by decide +kernel
def p_x_kind : List Cond := o_x_kind ++ []
theorem p_x_kind_good : p_x_kind.all goodWord = true := nb_all2 o_x_kind_good rfl
def w_x_kind : List Cond := .code yX12_kind cX12_kind 2 (some .int) :: (p_x_kind ++ fM)
theorem w_x_kind_good : w_x_kind.all goodWord = true := nb_allc (by decide +kernel) (nb_all2 p_x_kind_good fM_good)
theorem in_x_kind : ∀ w ∈ wsX120, w ∈ w_x_kind := fun _ h => List.mem_cons_of_mem _ (List.mem_append_right _ h)
set_option maxHeartbeats 40000000 in
set_option maxRecDepth 100000 in
theorem c_x_kind (l : Launch) (dC : Nat → ClassId) (dI : Nat → Nat → Nat) (cy : Nat → ClassId) (a : Nat → Nat) (k0 : Nat) (L0 : Nat → Int32) (σ0 : MS) (r0 : Int32 × MS) (h0 : x_kind k0 0 L0 σ0 = some r0) (sz : Nat) : Met l yX12_kind w_x_kind ({ frames := 0, cells := 0, slots := 0, locals := 0 }) (va_Pc [.ref (a 0), .int (L0 1)] (nIn (dC, dI) cy sz (vM cy a σ0))) (va_Qi (fun (z : Int32) (_ : Unit) => z = r0.1) (fun _ t => nOut (dC, dI) cy (va_A (vM cy a σ0) sz) (vM cy a r0.2) t) (va_A (vM cy a σ0) sz)) 0 0 (va_A (vM cy a σ0) sz) := by
  refine Met.ofW (cc := cX12_kind) (maxL := 2) (ret := (some .int)) (by decide) rfl ?_
  intro p e s m args below meth c s₁ B hml hv
  obtain ⟨rfl, hsz, hP, hK, hD0, hG⟩ := hv
  have hx := B.exec
  have hb := B.bytes
  have hr := B.returns
  have hts := atoms_spec (ws := w_x_kind) B.pre
  have hown : s.vm.findClass RX12 = some m.cls := findClass_of_methodNamed B.named
  have hlocks := B.notSynchronized
  subst hsz
  have hD := hD0.self (sz := s.heap.size)
  generalize hAe : va_A (vM cy a σ0) s.heap.size = A at hD ⊢
  have hA : ∀ q : Nat, s.heap.size ≤ q → A q := fun q h => by rw [← hAe]; exact Or.inr h
  have hS : va_S A s.heap s.heap [] := va_S.rf
  have hl := lv_entry ([.ref (a 0), .int (L0 1)]) (n := 2) (Nat.le_of_ble_eq_true rfl)
  rw [lg_entry_eq]
  generalize (lg_sl ([.ref (a 0), .int (L0 1)]) ++ List.replicate (2 - (lg_sl ([.ref (a 0), .int (L0 1)])).length) Slot.unset).toArray = ls at hl ⊢
  have hl : lv_has ls 2 [(0, .ref (a 0)), (1, .int (L0 1))] := hl
  have blk : ∀ k : Nat, (∀ (L : Nat → Int32) (σ : MS) (r : Int32 × MS), x_kind k 0 L σ = some r → ∀ (H : Heap) (locs : List Loc) (ls : Array Slot), va_P (dC, dI) nCl (vM cy a σ) H → va_D A (vM cy a σ) → va_S A s.heap H locs → lv_has ls 2 [(0, .ref (a 0)), (1, .int (L 1))] → W p l e (headSpec w_x_kind ({ frames := 0, cells := 0, slots := 0, locals := 0 })).room s m #[.ref (a 0), .int (L0 1)] below meth c H locs 0 0 (MQ below (va_Qi (fun (z : Int32) (_ : Unit) => z = r.1) (fun _ t => nOut (dC, dI) cy A (vM cy a r.2) t) A) #[.ref (a 0), .int (L0 1)] s 0 0 A) (F0 m 0 ls [])) ∧ (∀ (L : Nat → Int32) (σ : MS) (r : Int32 × MS), x_kind k 1 L σ = some r → ∀ (H : Heap) (locs : List Loc) (ls : Array Slot), va_P (dC, dI) nCl (vM cy a σ) H → va_D A (vM cy a σ) → va_S A s.heap H locs → lv_has ls 2 [(0, .ref (a 0)), (1, .int (L 1))] → W p l e (headSpec w_x_kind ({ frames := 0, cells := 0, slots := 0, locals := 0 })).room s m #[.ref (a 0), .int (L0 1)] below meth c H locs 0 0 (MQ below (va_Qi (fun (z : Int32) (_ : Unit) => z = r.1) (fun _ t => nOut (dC, dI) cy A (vM cy a r.2) t) A) #[.ref (a 0), .int (L0 1)] s 0 0 A) (F0 m 8 ls [])) ∧ (∀ (L : Nat → Int32) (σ : MS) (r : Int32 × MS), x_kind k 2 L σ = some r → ∀ (H : Heap) (locs : List Loc) (ls : Array Slot), va_P (dC, dI) nCl (vM cy a σ) H → va_D A (vM cy a σ) → va_S A s.heap H locs → lv_has ls 2 [(0, .ref (a 0)), (1, .int (L 1))] → W p l e (headSpec w_x_kind ({ frames := 0, cells := 0, slots := 0, locals := 0 })).room s m #[.ref (a 0), .int (L0 1)] below meth c H locs 0 0 (MQ below (va_Qi (fun (z : Int32) (_ : Unit) => z = r.1) (fun _ t => nOut (dC, dI) cy A (vM cy a r.2) t) A) #[.ref (a 0), .int (L0 1)] s 0 0 A) (F0 m 17 ls [])) ∧ (∀ (L : Nat → Int32) (σ : MS) (r : Int32 × MS), x_kind k 3 L σ = some r → ∀ (H : Heap) (locs : List Loc) (ls : Array Slot), va_P (dC, dI) nCl (vM cy a σ) H → va_D A (vM cy a σ) → va_S A s.heap H locs → lv_has ls 2 [(0, .ref (a 0)), (1, .int (L 1))] → W p l e (headSpec w_x_kind ({ frames := 0, cells := 0, slots := 0, locals := 0 })).room s m #[.ref (a 0), .int (L0 1)] below meth c H locs 0 0 (MQ below (va_Qi (fun (z : Int32) (_ : Unit) => z = r.1) (fun _ t => nOut (dC, dI) cy A (vM cy a r.2) t) A) #[.ref (a 0), .int (L0 1)] s 0 0 A) (F0 m 23 ls [.int (L 100)])) := by
    intro k
    induction k with
    | zero => exact ⟨fun L σ r h => (by cases h), fun L σ r h => (by cases h), fun L σ r h => (by cases h), fun L σ r h => (by cases h)⟩
    | succ k ih =>
      refine ⟨?_, ?_, ?_, ?_⟩
      · intro L σ r h H locs ls hP hD hS hl
        rw [x_kind] at h
        refine lv_iload_n hx hb dX12_kind_0 rfl (lv_at hl 1 rfl) ?_
        refine lv_if_ne (tgt := 8) hx hb dX12_kind_1 (by decide) (fun c1 => ?_) (fun c1 => ?_)
        · rw [if_neg c1] at h
          exact ih.2.1 L σ r h H locs ls hP hD hS (lv_sub hl [0, 1] rfl)
        · rw [if_pos c1] at h
          refine lv_iconst (v := 0) hx hb dX12_kind_4 (by decide) ?_
          refine lv_goto (tgt := 23) hx hb dX12_kind_5 (by decide) ?_
          exact ih.2.2.2 (upd L 100 0) σ r h H locs ls hP hD hS (lv_sub hl [0, 1] rfl)
      · intro L σ r h H locs ls hP hD hS hl
        rw [x_kind] at h
        refine lv_iload_n hx hb dX12_kind_8 rfl (lv_at hl 1 rfl) ?_
        refine lv_iconst (v := 3) hx hb dX12_kind_9 (by decide) ?_
        refine lv_icmp_ge (tgt := 17) hx hb dX12_kind_10 (by decide) (fun c1 => ?_) (fun c1 => ?_)
        · rw [if_pos c1] at h
          exact ih.2.2.1 L σ r h H locs ls hP hD hS (lv_sub hl [0, 1] rfl)
        · rw [if_neg c1] at h
          refine lv_iconst (v := 1) hx hb dX12_kind_13 (by decide) ?_
          refine lv_goto (tgt := 23) hx hb dX12_kind_14 (by decide) ?_
          exact ih.2.2.2 (upd L 100 1) σ r h H locs ls hP hD hS (lv_sub hl [0, 1] rfl)
      · intro L σ r h H locs ls hP hD hS hl
        rw [x_kind] at h
        refine lv_aload_n hx hb dX12_kind_17 rfl (lv_at hl 0 rfl) ?_
        refine va_get (D := (dC, dI)) (ci := 11) (v := .ref (a 28)) (C := RX12) (T := TX12) (N := 121) hx hb hts in_x_kind hown hK hP 0 rfl rfl 53 (by decide) (hts _ (List.mem_cons_of_mem _ (List.mem_append_left _ (List.mem_append_left _ (List.mem_of_getElem? (i := 0) rfl))))) (fun _ h9 => h9) rfl dX12_kind_18 ?_
        refine lv_iload_n hx hb dX12_kind_21 rfl (lv_at hl 1 rfl) ?_
        by_cases q1 : ¬ (((L 1)) < 0 ∨ 1740000 ≤ ((L 1)).toNatClampNeg)
        · rw [if_pos q1] at h
          refine va_iald hx hb hK hP 28 1 rfl rfl (nb_inp q1) dX12_kind_22 ?_
          exact ih.2.2.2 (upd L 100 ((σ.2.2 28 ((L 1)).toNatClampNeg))) σ r h H locs ls hP hD hS (lv_sub hl [0, 1] rfl)
        · rw [if_neg q1] at h; cases h
      · intro L σ r h H locs ls hP hD hS hl
        rw [x_kind] at h
        cases h
        exact W.iret (v := (L 100)) hx hb hr (fun t ht hW => ⟨⟨(L 100), (), rfl, rfl, by rw [ht]; exact hP, va_K.moved hW.alike hK, hD⟩, hS.F ht⟩) hS.2.2 dX12_kind_23
  exact (blk k0).1 L0 σ0 r0 h0 s.heap [] ls hP hD hS hl
/-! size -/
def x_size : Nat → Nat → (Nat → Int32) → MS → Option (Int32 × MS)
  | 0, _, _, _ => none
  | k + 1, 0, L, σ => if 3 ≤ ((L 1)) then (x_size k 1 L σ) else (x_size k 2 (upd L 100 1) σ)
  | k + 1, 1, L, σ => if ¬ (((((L 1)) + 2)) < 0 ∨ 1740000 ≤ ((((L 1)) + 2)).toNatClampNeg) then (x_size k 2 (upd L 100 ((σ.2.2 28 ((((L 1)) + 2)).toNatClampNeg))) σ) else none
  | k + 1, 2, L, σ => some ((L 100), σ)
  | _ + 1, _ + 3, _, _ => none
def o_x_size : List Cond := [.fieldLink RX12 372 "SetHouseModel" "heap" "[I"]
theorem o_x_size_good : o_x_size.all goodWord = true := by decide +kernel
def p_x_size : List Cond := o_x_size ++ []
theorem p_x_size_good : p_x_size.all goodWord = true := nb_all2 o_x_size_good rfl
def w_x_size : List Cond := .code yX12_size cX12_size 2 (some .int) :: (p_x_size ++ fM)
theorem w_x_size_good : w_x_size.all goodWord = true := nb_allc (by decide +kernel) (nb_all2 p_x_size_good fM_good)
theorem in_x_size : ∀ w ∈ wsX120, w ∈ w_x_size := fun _ h => List.mem_cons_of_mem _ (List.mem_append_right _ h)
set_option maxHeartbeats 40000000 in
set_option maxRecDepth 100000 in
theorem c_x_size (l : Launch) (dC : Nat → ClassId) (dI : Nat → Nat → Nat) (cy : Nat → ClassId) (a : Nat → Nat) (k0 : Nat) (L0 : Nat → Int32) (σ0 : MS) (r0 : Int32 × MS) (h0 : x_size k0 0 L0 σ0 = some r0) (sz : Nat) : Met l yX12_size w_x_size ({ frames := 0, cells := 0, slots := 0, locals := 0 }) (va_Pc [.ref (a 0), .int (L0 1)] (nIn (dC, dI) cy sz (vM cy a σ0))) (va_Qi (fun (z : Int32) (_ : Unit) => z = r0.1) (fun _ t => nOut (dC, dI) cy (va_A (vM cy a σ0) sz) (vM cy a r0.2) t) (va_A (vM cy a σ0) sz)) 0 0 (va_A (vM cy a σ0) sz) := by
  refine Met.ofW (cc := cX12_size) (maxL := 2) (ret := (some .int)) (by decide) rfl ?_
  intro p e s m args below meth c s₁ B hml hv
  obtain ⟨rfl, hsz, hP, hK, hD0, hG⟩ := hv
  have hx := B.exec
  have hb := B.bytes
  have hr := B.returns
  have hts := atoms_spec (ws := w_x_size) B.pre
  have hown : s.vm.findClass RX12 = some m.cls := findClass_of_methodNamed B.named
  have hlocks := B.notSynchronized
  subst hsz
  have hD := hD0.self (sz := s.heap.size)
  generalize hAe : va_A (vM cy a σ0) s.heap.size = A at hD ⊢
  have hA : ∀ q : Nat, s.heap.size ≤ q → A q := fun q h => by rw [← hAe]; exact Or.inr h
  have hS : va_S A s.heap s.heap [] := va_S.rf
  have hl := lv_entry ([.ref (a 0), .int (L0 1)]) (n := 2) (Nat.le_of_ble_eq_true rfl)
  rw [lg_entry_eq]
  generalize (lg_sl ([.ref (a 0), .int (L0 1)]) ++ List.replicate (2 - (lg_sl ([.ref (a 0), .int (L0 1)])).length) Slot.unset).toArray = ls at hl ⊢
  have hl : lv_has ls 2 [(0, .ref (a 0)), (1, .int (L0 1))] := hl
  have blk : ∀ k : Nat, (∀ (L : Nat → Int32) (σ : MS) (r : Int32 × MS), x_size k 0 L σ = some r → ∀ (H : Heap) (locs : List Loc) (ls : Array Slot), va_P (dC, dI) nCl (vM cy a σ) H → va_D A (vM cy a σ) → va_S A s.heap H locs → lv_has ls 2 [(0, .ref (a 0)), (1, .int (L 1))] → W p l e (headSpec w_x_size ({ frames := 0, cells := 0, slots := 0, locals := 0 })).room s m #[.ref (a 0), .int (L0 1)] below meth c H locs 0 0 (MQ below (va_Qi (fun (z : Int32) (_ : Unit) => z = r.1) (fun _ t => nOut (dC, dI) cy A (vM cy a r.2) t) A) #[.ref (a 0), .int (L0 1)] s 0 0 A) (F0 m 0 ls [])) ∧ (∀ (L : Nat → Int32) (σ : MS) (r : Int32 × MS), x_size k 1 L σ = some r → ∀ (H : Heap) (locs : List Loc) (ls : Array Slot), va_P (dC, dI) nCl (vM cy a σ) H → va_D A (vM cy a σ) → va_S A s.heap H locs → lv_has ls 2 [(0, .ref (a 0)), (1, .int (L 1))] → W p l e (headSpec w_x_size ({ frames := 0, cells := 0, slots := 0, locals := 0 })).room s m #[.ref (a 0), .int (L0 1)] below meth c H locs 0 0 (MQ below (va_Qi (fun (z : Int32) (_ : Unit) => z = r.1) (fun _ t => nOut (dC, dI) cy A (vM cy a r.2) t) A) #[.ref (a 0), .int (L0 1)] s 0 0 A) (F0 m 9 ls [])) ∧ (∀ (L : Nat → Int32) (σ : MS) (r : Int32 × MS), x_size k 2 L σ = some r → ∀ (H : Heap) (locs : List Loc) (ls : Array Slot), va_P (dC, dI) nCl (vM cy a σ) H → va_D A (vM cy a σ) → va_S A s.heap H locs → lv_has ls 2 [(0, .ref (a 0)), (1, .int (L 1))] → W p l e (headSpec w_x_size ({ frames := 0, cells := 0, slots := 0, locals := 0 })).room s m #[.ref (a 0), .int (L0 1)] below meth c H locs 0 0 (MQ below (va_Qi (fun (z : Int32) (_ : Unit) => z = r.1) (fun _ t => nOut (dC, dI) cy A (vM cy a r.2) t) A) #[.ref (a 0), .int (L0 1)] s 0 0 A) (F0 m 17 ls [.int (L 100)])) := by
    intro k
    induction k with
    | zero => exact ⟨fun L σ r h => (by cases h), fun L σ r h => (by cases h), fun L σ r h => (by cases h)⟩
    | succ k ih =>
      refine ⟨?_, ?_, ?_⟩
      · intro L σ r h H locs ls hP hD hS hl
        rw [x_size] at h
        refine lv_iload_n hx hb dX12_size_0 rfl (lv_at hl 1 rfl) ?_
        refine lv_iconst (v := 3) hx hb dX12_size_1 (by decide) ?_
        refine lv_icmp_ge (tgt := 9) hx hb dX12_size_2 (by decide) (fun c1 => ?_) (fun c1 => ?_)
        · rw [if_pos c1] at h
          exact ih.2.1 L σ r h H locs ls hP hD hS (lv_sub hl [0, 1] rfl)
        · rw [if_neg c1] at h
          refine lv_iconst (v := 1) hx hb dX12_size_5 (by decide) ?_
          refine lv_goto (tgt := 17) hx hb dX12_size_6 (by decide) ?_
          exact ih.2.2 (upd L 100 1) σ r h H locs ls hP hD hS (lv_sub hl [0, 1] rfl)
      · intro L σ r h H locs ls hP hD hS hl
        rw [x_size] at h
        refine lv_aload_n hx hb dX12_size_9 rfl (lv_at hl 0 rfl) ?_
        refine va_get (D := (dC, dI)) (ci := 11) (v := .ref (a 28)) (C := RX12) (T := TX12) (N := 121) hx hb hts in_x_size hown hK hP 0 rfl rfl 53 (by decide) (hts _ (List.mem_cons_of_mem _ (List.mem_append_left _ (List.mem_append_left _ (List.mem_of_getElem? (i := 0) rfl))))) (fun _ h9 => h9) rfl dX12_size_10 ?_
        refine lv_iload_n hx hb dX12_size_13 rfl (lv_at hl 1 rfl) ?_
        refine lv_iconst (v := 2) hx hb dX12_size_14 (by decide) ?_
        refine lv_iadd hx hb dX12_size_15 ?_
        by_cases q1 : ¬ (((((L 1)) + 2)) < 0 ∨ 1740000 ≤ ((((L 1)) + 2)).toNatClampNeg)
        · rw [if_pos q1] at h
          refine va_iald hx hb hK hP 28 1 rfl rfl (nb_inp q1) dX12_size_16 ?_
          exact ih.2.2 (upd L 100 ((σ.2.2 28 ((((L 1)) + 2)).toNatClampNeg))) σ r h H locs ls hP hD hS (lv_sub hl [0, 1] rfl)
        · rw [if_neg q1] at h; cases h
      · intro L σ r h H locs ls hP hD hS hl
        rw [x_size] at h
        cases h
        exact W.iret (v := (L 100)) hx hb hr (fun t ht hW => ⟨⟨(L 100), (), rfl, rfl, by rw [ht]; exact hP, va_K.moved hW.alike hK, hD⟩, hS.F ht⟩) hS.2.2 dX12_size_17
  exact (blk k0).1 L0 σ0 r0 h0 s.heap [] ls hP hD hS hl
/-! height -/
def x_height : Nat → Nat → (Nat → Int32) → MS → Option (Int32 × MS)
  | 0, _, _, _ => none
  | k + 1, 0, L, σ => if 3 ≤ ((L 1)) then (x_height k 1 L σ) else (x_height k 2 (upd L 100 0) σ)
  | k + 1, 1, L, σ => if ¬ (((((L 1)) + 3)) < 0 ∨ 1740000 ≤ ((((L 1)) + 3)).toNatClampNeg) then (x_height k 2 (upd L 100 ((σ.2.2 28 ((((L 1)) + 3)).toNatClampNeg))) σ) else none
  | k + 1, 2, L, σ => some ((L 100), σ)
  | _ + 1, _ + 3, _, _ => none
def o_x_height : List Cond := [.fieldLink RX12 372 "SetHouseModel" "heap" "[I"]
theorem o_x_height_good : o_x_height.all goodWord = true := by decide +kernel
def p_x_height : List Cond := o_x_height ++ []
theorem p_x_height_good : p_x_height.all goodWord = true := nb_all2 o_x_height_good rfl
def w_x_height : List Cond := .code yX12_height cX12_height 2 (some .int) :: (p_x_height ++ fM)
theorem w_x_height_good : w_x_height.all goodWord = true := nb_allc (by decide +kernel) (nb_all2 p_x_height_good fM_good)
theorem in_x_height : ∀ w ∈ wsX120, w ∈ w_x_height := fun _ h => List.mem_cons_of_mem _ (List.mem_append_right _ h)
set_option maxHeartbeats 40000000 in
set_option maxRecDepth 100000 in
theorem c_x_height (l : Launch) (dC : Nat → ClassId) (dI : Nat → Nat → Nat) (cy : Nat → ClassId) (a : Nat → Nat) (k0 : Nat) (L0 : Nat → Int32) (σ0 : MS) (r0 : Int32 × MS) (h0 : x_height k0 0 L0 σ0 = some r0) (sz : Nat) : Met l yX12_height w_x_height ({ frames := 0, cells := 0, slots := 0, locals := 0 }) (va_Pc [.ref (a 0), .int (L0 1)] (nIn (dC, dI) cy sz (vM cy a σ0))) (va_Qi (fun (z : Int32) (_ : Unit) => z = r0.1) (fun _ t => nOut (dC, dI) cy (va_A (vM cy a σ0) sz) (vM cy a r0.2) t) (va_A (vM cy a σ0) sz)) 0 0 (va_A (vM cy a σ0) sz) := by
  refine Met.ofW (cc := cX12_height) (maxL := 2) (ret := (some .int)) (by decide) rfl ?_
  intro p e s m args below meth c s₁ B hml hv
  obtain ⟨rfl, hsz, hP, hK, hD0, hG⟩ := hv
  have hx := B.exec
  have hb := B.bytes
  have hr := B.returns
  have hts := atoms_spec (ws := w_x_height) B.pre
  have hown : s.vm.findClass RX12 = some m.cls := findClass_of_methodNamed B.named
  have hlocks := B.notSynchronized
  subst hsz
  have hD := hD0.self (sz := s.heap.size)
  generalize hAe : va_A (vM cy a σ0) s.heap.size = A at hD ⊢
  have hA : ∀ q : Nat, s.heap.size ≤ q → A q := fun q h => by rw [← hAe]; exact Or.inr h
  have hS : va_S A s.heap s.heap [] := va_S.rf
  have hl := lv_entry ([.ref (a 0), .int (L0 1)]) (n := 2) (Nat.le_of_ble_eq_true rfl)
  rw [lg_entry_eq]
  generalize (lg_sl ([.ref (a 0), .int (L0 1)]) ++ List.replicate (2 - (lg_sl ([.ref (a 0), .int (L0 1)])).length) Slot.unset).toArray = ls at hl ⊢
  have hl : lv_has ls 2 [(0, .ref (a 0)), (1, .int (L0 1))] := hl
  have blk : ∀ k : Nat, (∀ (L : Nat → Int32) (σ : MS) (r : Int32 × MS), x_height k 0 L σ = some r → ∀ (H : Heap) (locs : List Loc) (ls : Array Slot), va_P (dC, dI) nCl (vM cy a σ) H → va_D A (vM cy a σ) → va_S A s.heap H locs → lv_has ls 2 [(0, .ref (a 0)), (1, .int (L 1))] → W p l e (headSpec w_x_height ({ frames := 0, cells := 0, slots := 0, locals := 0 })).room s m #[.ref (a 0), .int (L0 1)] below meth c H locs 0 0 (MQ below (va_Qi (fun (z : Int32) (_ : Unit) => z = r.1) (fun _ t => nOut (dC, dI) cy A (vM cy a r.2) t) A) #[.ref (a 0), .int (L0 1)] s 0 0 A) (F0 m 0 ls [])) ∧ (∀ (L : Nat → Int32) (σ : MS) (r : Int32 × MS), x_height k 1 L σ = some r → ∀ (H : Heap) (locs : List Loc) (ls : Array Slot), va_P (dC, dI) nCl (vM cy a σ) H → va_D A (vM cy a σ) → va_S A s.heap H locs → lv_has ls 2 [(0, .ref (a 0)), (1, .int (L 1))] → W p l e (headSpec w_x_height ({ frames := 0, cells := 0, slots := 0, locals := 0 })).room s m #[.ref (a 0), .int (L0 1)] below meth c H locs 0 0 (MQ below (va_Qi (fun (z : Int32) (_ : Unit) => z = r.1) (fun _ t => nOut (dC, dI) cy A (vM cy a r.2) t) A) #[.ref (a 0), .int (L0 1)] s 0 0 A) (F0 m 9 ls [])) ∧ (∀ (L : Nat → Int32) (σ : MS) (r : Int32 × MS), x_height k 2 L σ = some r → ∀ (H : Heap) (locs : List Loc) (ls : Array Slot), va_P (dC, dI) nCl (vM cy a σ) H → va_D A (vM cy a σ) → va_S A s.heap H locs → lv_has ls 2 [(0, .ref (a 0)), (1, .int (L 1))] → W p l e (headSpec w_x_height ({ frames := 0, cells := 0, slots := 0, locals := 0 })).room s m #[.ref (a 0), .int (L0 1)] below meth c H locs 0 0 (MQ below (va_Qi (fun (z : Int32) (_ : Unit) => z = r.1) (fun _ t => nOut (dC, dI) cy A (vM cy a r.2) t) A) #[.ref (a 0), .int (L0 1)] s 0 0 A) (F0 m 17 ls [.int (L 100)])) := by
    intro k
    induction k with
    | zero => exact ⟨fun L σ r h => (by cases h), fun L σ r h => (by cases h), fun L σ r h => (by cases h)⟩
    | succ k ih =>
      refine ⟨?_, ?_, ?_⟩
      · intro L σ r h H locs ls hP hD hS hl
        rw [x_height] at h
        refine lv_iload_n hx hb dX12_height_0 rfl (lv_at hl 1 rfl) ?_
        refine lv_iconst (v := 3) hx hb dX12_height_1 (by decide) ?_
        refine lv_icmp_ge (tgt := 9) hx hb dX12_height_2 (by decide) (fun c1 => ?_) (fun c1 => ?_)
        · rw [if_pos c1] at h
          exact ih.2.1 L σ r h H locs ls hP hD hS (lv_sub hl [0, 1] rfl)
        · rw [if_neg c1] at h
          refine lv_iconst (v := 0) hx hb dX12_height_5 (by decide) ?_
          refine lv_goto (tgt := 17) hx hb dX12_height_6 (by decide) ?_
          exact ih.2.2 (upd L 100 0) σ r h H locs ls hP hD hS (lv_sub hl [0, 1] rfl)
      · intro L σ r h H locs ls hP hD hS hl
        rw [x_height] at h
        refine lv_aload_n hx hb dX12_height_9 rfl (lv_at hl 0 rfl) ?_
        refine va_get (D := (dC, dI)) (ci := 11) (v := .ref (a 28)) (C := RX12) (T := TX12) (N := 121) hx hb hts in_x_height hown hK hP 0 rfl rfl 53 (by decide) (hts _ (List.mem_cons_of_mem _ (List.mem_append_left _ (List.mem_append_left _ (List.mem_of_getElem? (i := 0) rfl))))) (fun _ h9 => h9) rfl dX12_height_10 ?_
        refine lv_iload_n hx hb dX12_height_13 rfl (lv_at hl 1 rfl) ?_
        refine lv_iconst (v := 3) hx hb dX12_height_14 (by decide) ?_
        refine lv_iadd hx hb dX12_height_15 ?_
        by_cases q1 : ¬ (((((L 1)) + 3)) < 0 ∨ 1740000 ≤ ((((L 1)) + 3)).toNatClampNeg)
        · rw [if_pos q1] at h
          refine va_iald hx hb hK hP 28 1 rfl rfl (nb_inp q1) dX12_height_16 ?_
          exact ih.2.2 (upd L 100 ((σ.2.2 28 ((((L 1)) + 3)).toNatClampNeg))) σ r h H locs ls hP hD hS (lv_sub hl [0, 1] rfl)
        · rw [if_neg q1] at h; cases h
      · intro L σ r h H locs ls hP hD hS hl
        rw [x_height] at h
        cases h
        exact W.iret (v := (L 100)) hx hb hr (fun t ht hW => ⟨⟨(L 100), (), rfl, rfl, by rw [ht]; exact hP, va_K.moved hW.alike hK, hD⟩, hS.F ht⟩) hS.2.2 dX12_height_17
  exact (blk k0).1 L0 σ0 r0 h0 s.heap [] ls hP hD hS hl
/-! make -/
def x_make : Nat → Nat → (Nat → Int32) → MS → Option (Int32 × MS)
  | 0, _, _, _ => none
  | k + 1, 0, L, σ => if ((((((σ.1 55)) + 4)) + ((L 2)))) ≤ ((((σ.1 54)) + 870000)) then (x_make k 1 L σ) else (ob (x_fail k 0 (upd (fun _ => 0) 1 5) σ) (fun r2 => some (0, r2.2)))
  | k + 1, 1, L, σ => x_make k 2 (upd L 3 ((σ.1 55))) (upd σ.1 55 ((((σ.1 55)) + ((4 + ((L 2)))))), σ.2.1, σ.2.2)
  | k + 1, 2, L, σ => if ¬ (((L 3)) < 0 ∨ 1740000 ≤ ((L 3)).toNatClampNeg) then (x_make k 3 L (σ.1, σ.2.1, updG σ.2.2 28 (upd (σ.2.2 28) ((L 3)).toNatClampNeg ((L 1))))) else none
  | k + 1, 3, L, σ => if ¬ (((((L 3)) + 1)) < 0 ∨ 1740000 ≤ ((((L 3)) + 1)).toNatClampNeg) then (x_make k 4 L (σ.1, σ.2.1, updG σ.2.2 28 (upd (σ.2.2 28) ((((L 3)) + 1)).toNatClampNeg ((L 2))))) else none
  | k + 1, 4, L, σ => if ¬ (((((L 3)) + 2)) < 0 ∨ 1740000 ≤ ((((L 3)) + 2)).toNatClampNeg) then (x_make k 5 L (σ.1, σ.2.1, updG σ.2.2 28 (upd (σ.2.2 28) ((((L 3)) + 2)).toNatClampNeg 1))) else none
  | k + 1, 5, L, σ => if ¬ (((((L 3)) + 3)) < 0 ∨ 1740000 ≤ ((((L 3)) + 3)).toNatClampNeg) then (x_make k 6 L (σ.1, σ.2.1, updG σ.2.2 28 (upd (σ.2.2 28) ((((L 3)) + 3)).toNatClampNeg 0))) else none
  | k + 1, 6, L, σ => some ((L 3), σ)
  | _ + 1, _ + 7, _, _ => none
def o_x_make : List Cond := [.fieldLink RX12 375 "SetHouseModel" "high" "I", .fieldLink RX12 378 "SetHouseModel" "base" "I", .constant RX12 381 (870000), .methodLink RX12 369 yX12_fail, .instanceMethod yX12_fail, .selects RX12 yX12_fail yX12_fail, .initialized RX12, .fieldLink RX12 372 "SetHouseModel" "heap" "[I"]
theorem o_x_make_good : o_x_make.all goodWord = true := by decide +kernel
def p_x_make : List Cond := o_x_make ++ ((.code yX12_fail cX12_fail 2 none :: p_x_fail) ++ [])
theorem p_x_make_good : p_x_make.all goodWord = true := nb_all2 o_x_make_good (nb_all2 (nb_allc (by decide +kernel) p_x_fail_good) rfl)
def w_x_make : List Cond := .code yX12_make cX12_make 4 (some .int) :: (p_x_make ++ fM)
theorem w_x_make_good : w_x_make.all goodWord = true := nb_allc (by decide +kernel) (nb_all2 p_x_make_good fM_good)
theorem in_x_make : ∀ w ∈ wsX120, w ∈ w_x_make := fun _ h => List.mem_cons_of_mem _ (List.mem_append_right _ h)
theorem gg_x_make_fail : GoodIn w_x_make w_x_fail := goodIn_sub (fun w h => (List.mem_cons.mp h).elim (fun e => (List.mem_cons_of_mem _ (List.mem_append_left _ (List.mem_append_right _ (List.mem_append_left _ (List.mem_cons.mpr (Or.inl e))))))) (fun h => (List.mem_append.mp h).elim (fun h => (List.mem_cons_of_mem _ (List.mem_append_left _ (List.mem_append_right _ (List.mem_append_left _ (List.mem_cons_of_mem _ h)))))) (fun h => List.mem_cons_of_mem _ (List.mem_append_right _ h)))) w_x_fail_good
theorem g_x_make_fail_369 : GoodIn w_x_make (wsV RX12 369 RX12 yX12_fail w_x_fail) := goodIn_app (nb_g4 (List.mem_cons_of_mem _ (List.mem_append_left _ (List.mem_append_left _ (List.mem_of_getElem? (i := 3) rfl)))) (List.mem_cons_of_mem _ (List.mem_append_left _ (List.mem_append_left _ (List.mem_of_getElem? (i := 4) rfl)))) (List.mem_cons_of_mem _ (List.mem_append_left _ (List.mem_append_left _ (List.mem_of_getElem? (i := 5) rfl)))) (List.mem_cons_of_mem _ (List.mem_append_left _ (List.mem_append_left _ (List.mem_of_getElem? (i := 6) rfl)))) (by decide +kernel)) gg_x_make_fail
set_option maxHeartbeats 40000000 in
set_option maxRecDepth 100000 in
theorem c_x_make (l : Launch) (dC : Nat → ClassId) (dI : Nat → Nat → Nat) (cy : Nat → ClassId) (a : Nat → Nat) (k0 : Nat) (L0 : Nat → Int32) (σ0 : MS) (r0 : Int32 × MS) (h0 : x_make k0 0 L0 σ0 = some r0) (sz : Nat) : Met l yX12_make w_x_make ({ frames := 1, cells := 0, slots := 0, locals := 21 }) (va_Pc [.ref (a 0), .int (L0 1), .int (L0 2)] (nIn (dC, dI) cy sz (vM cy a σ0))) (va_Qi (fun (z : Int32) (_ : Unit) => z = r0.1) (fun _ t => nOut (dC, dI) cy (va_A (vM cy a σ0) sz) (vM cy a r0.2) t) (va_A (vM cy a σ0) sz)) 0 0 (va_A (vM cy a σ0) sz) := by
  refine Met.ofW (cc := cX12_make) (maxL := 4) (ret := (some .int)) (by decide) rfl ?_
  intro p e s m args below meth c s₁ B hml hv
  obtain ⟨rfl, hsz, hP, hK, hD0, hG⟩ := hv
  have hx := B.exec
  have hb := B.bytes
  have hr := B.returns
  have hts := atoms_spec (ws := w_x_make) B.pre
  have hown : s.vm.findClass RX12 = some m.cls := findClass_of_methodNamed B.named
  have hlocks := B.notSynchronized
  subst hsz
  have hD := hD0.self (sz := s.heap.size)
  generalize hAe : va_A (vM cy a σ0) s.heap.size = A at hD ⊢
  have hA : ∀ q : Nat, s.heap.size ≤ q → A q := fun q h => by rw [← hAe]; exact Or.inr h
  have hS : va_S A s.heap s.heap [] := va_S.rf
  have hl := lv_entry ([.ref (a 0), .int (L0 1), .int (L0 2)]) (n := 4) (Nat.le_of_ble_eq_true rfl)
  rw [lg_entry_eq]
  generalize (lg_sl ([.ref (a 0), .int (L0 1), .int (L0 2)]) ++ List.replicate (4 - (lg_sl ([.ref (a 0), .int (L0 1), .int (L0 2)])).length) Slot.unset).toArray = ls at hl ⊢
  have hl : lv_has ls 4 [(0, .ref (a 0)), (1, .int (L0 1)), (2, .int (L0 2))] := hl
  have blk : ∀ k : Nat, (∀ (L : Nat → Int32) (σ : MS) (r : Int32 × MS), x_make k 0 L σ = some r → ∀ (H : Heap) (locs : List Loc) (ls : Array Slot), va_P (dC, dI) nCl (vM cy a σ) H → va_D A (vM cy a σ) → va_S A s.heap H locs → lv_has ls 4 [(0, .ref (a 0)), (1, .int (L 1)), (2, .int (L 2))] → W p l e (headSpec w_x_make ({ frames := 1, cells := 0, slots := 0, locals := 21 })).room s m #[.ref (a 0), .int (L0 1), .int (L0 2)] below meth c H locs 0 0 (MQ below (va_Qi (fun (z : Int32) (_ : Unit) => z = r.1) (fun _ t => nOut (dC, dI) cy A (vM cy a r.2) t) A) #[.ref (a 0), .int (L0 1), .int (L0 2)] s 0 0 A) (F0 m 0 ls [])) ∧ (∀ (L : Nat → Int32) (σ : MS) (r : Int32 × MS), x_make k 1 L σ = some r → ∀ (H : Heap) (locs : List Loc) (ls : Array Slot), va_P (dC, dI) nCl (vM cy a σ) H → va_D A (vM cy a σ) → va_S A s.heap H locs → lv_has ls 4 [(0, .ref (a 0)), (1, .int (L 1)), (2, .int (L 2))] → W p l e (headSpec w_x_make ({ frames := 1, cells := 0, slots := 0, locals := 21 })).room s m #[.ref (a 0), .int (L0 1), .int (L0 2)] below meth c H locs 0 0 (MQ below (va_Qi (fun (z : Int32) (_ : Unit) => z = r.1) (fun _ t => nOut (dC, dI) cy A (vM cy a r.2) t) A) #[.ref (a 0), .int (L0 1), .int (L0 2)] s 0 0 A) (F0 m 26 ls [])) ∧ (∀ (L : Nat → Int32) (σ : MS) (r : Int32 × MS), x_make k 2 L σ = some r → ∀ (H : Heap) (locs : List Loc) (ls : Array Slot), va_P (dC, dI) nCl (vM cy a σ) H → va_D A (vM cy a σ) → va_S A s.heap H locs → lv_has ls 4 [(0, .ref (a 0)), (1, .int (L 1)), (2, .int (L 2)), (3, .int (L 3))] → W p l e (headSpec w_x_make ({ frames := 1, cells := 0, slots := 0, locals := 21 })).room s m #[.ref (a 0), .int (L0 1), .int (L0 2)] below meth c H locs 0 0 (MQ below (va_Qi (fun (z : Int32) (_ : Unit) => z = r.1) (fun _ t => nOut (dC, dI) cy A (vM cy a r.2) t) A) #[.ref (a 0), .int (L0 1), .int (L0 2)] s 0 0 A) (F0 m 43 ls [])) ∧ (∀ (L : Nat → Int32) (σ : MS) (r : Int32 × MS), x_make k 3 L σ = some r → ∀ (H : Heap) (locs : List Loc) (ls : Array Slot), va_P (dC, dI) nCl (vM cy a σ) H → va_D A (vM cy a σ) → va_S A s.heap H locs → lv_has ls 4 [(0, .ref (a 0)), (1, .int (L 1)), (2, .int (L 2)), (3, .int (L 3))] → W p l e (headSpec w_x_make ({ frames := 1, cells := 0, slots := 0, locals := 21 })).room s m #[.ref (a 0), .int (L0 1), .int (L0 2)] below meth c H locs 0 0 (MQ below (va_Qi (fun (z : Int32) (_ : Unit) => z = r.1) (fun _ t => nOut (dC, dI) cy A (vM cy a r.2) t) A) #[.ref (a 0), .int (L0 1), .int (L0 2)] s 0 0 A) (F0 m 50 ls [])) ∧ (∀ (L : Nat → Int32) (σ : MS) (r : Int32 × MS), x_make k 4 L σ = some r → ∀ (H : Heap) (locs : List Loc) (ls : Array Slot), va_P (dC, dI) nCl (vM cy a σ) H → va_D A (vM cy a σ) → va_S A s.heap H locs → lv_has ls 4 [(0, .ref (a 0)), (1, .int (L 1)), (2, .int (L 2)), (3, .int (L 3))] → W p l e (headSpec w_x_make ({ frames := 1, cells := 0, slots := 0, locals := 21 })).room s m #[.ref (a 0), .int (L0 1), .int (L0 2)] below meth c H locs 0 0 (MQ below (va_Qi (fun (z : Int32) (_ : Unit) => z = r.1) (fun _ t => nOut (dC, dI) cy A (vM cy a r.2) t) A) #[.ref (a 0), .int (L0 1), .int (L0 2)] s 0 0 A) (F0 m 59 ls [])) ∧ (∀ (L : Nat → Int32) (σ : MS) (r : Int32 × MS), x_make k 5 L σ = some r → ∀ (H : Heap) (locs : List Loc) (ls : Array Slot), va_P (dC, dI) nCl (vM cy a σ) H → va_D A (vM cy a σ) → va_S A s.heap H locs → lv_has ls 4 [(0, .ref (a 0)), (1, .int (L 1)), (2, .int (L 2)), (3, .int (L 3))] → W p l e (headSpec w_x_make ({ frames := 1, cells := 0, slots := 0, locals := 21 })).room s m #[.ref (a 0), .int (L0 1), .int (L0 2)] below meth c H locs 0 0 (MQ below (va_Qi (fun (z : Int32) (_ : Unit) => z = r.1) (fun _ t => nOut (dC, dI) cy A (vM cy a r.2) t) A) #[.ref (a 0), .int (L0 1), .int (L0 2)] s 0 0 A) (F0 m 68 ls [])) ∧ (∀ (L : Nat → Int32) (σ : MS) (r : Int32 × MS), x_make k 6 L σ = some r → ∀ (H : Heap) (locs : List Loc) (ls : Array Slot), va_P (dC, dI) nCl (vM cy a σ) H → va_D A (vM cy a σ) → va_S A s.heap H locs → lv_has ls 4 [(0, .ref (a 0)), (1, .int (L 1)), (2, .int (L 2)), (3, .int (L 3))] → W p l e (headSpec w_x_make ({ frames := 1, cells := 0, slots := 0, locals := 21 })).room s m #[.ref (a 0), .int (L0 1), .int (L0 2)] below meth c H locs 0 0 (MQ below (va_Qi (fun (z : Int32) (_ : Unit) => z = r.1) (fun _ t => nOut (dC, dI) cy A (vM cy a r.2) t) A) #[.ref (a 0), .int (L0 1), .int (L0 2)] s 0 0 A) (F0 m 77 ls [])) := by
    intro k
    induction k with
    | zero => exact ⟨fun L σ r h => (by cases h), fun L σ r h => (by cases h), fun L σ r h => (by cases h), fun L σ r h => (by cases h), fun L σ r h => (by cases h), fun L σ r h => (by cases h), fun L σ r h => (by cases h)⟩
    | succ k ih =>
      refine ⟨?_, ?_, ?_, ?_, ?_, ?_, ?_⟩
      · intro L σ r h H locs ls hP hD hS hl
        rw [x_make] at h
        refine lv_aload_n hx hb dX12_make_0 rfl (lv_at hl 0 rfl) ?_
        refine va_get (D := (dC, dI)) (ci := 11) (v := .int (σ.1 55)) (C := RX12) (T := TX12) (N := 121) hx hb hts in_x_make hown hK hP 0 rfl rfl 55 (by decide) (hts _ (List.mem_cons_of_mem _ (List.mem_append_left _ (List.mem_append_left _ (List.mem_of_getElem? (i := 0) rfl))))) (fun _ h9 => h9) rfl dX12_make_1 ?_
        refine lv_iconst (v := 4) hx hb dX12_make_4 (by decide) ?_
        refine lv_iadd hx hb dX12_make_5 ?_
        refine lv_iload_n hx hb dX12_make_6 rfl (lv_at hl 2 rfl) ?_
        refine lv_iadd hx hb dX12_make_7 ?_
        refine lv_aload_n hx hb dX12_make_8 rfl (lv_at hl 0 rfl) ?_
        refine va_get (D := (dC, dI)) (ci := 11) (v := .int (σ.1 54)) (C := RX12) (T := TX12) (N := 121) hx hb hts in_x_make hown hK hP 0 rfl rfl 54 (by decide) (hts _ (List.mem_cons_of_mem _ (List.mem_append_left _ (List.mem_append_left _ (List.mem_of_getElem? (i := 1) rfl))))) (fun _ h9 => h9) rfl dX12_make_9 ?_
        refine lv_ldcw (v := 870000) hx hb hown (hts _ (List.mem_cons_of_mem _ (List.mem_append_left _ (List.mem_append_left _ (List.mem_of_getElem? (i := 2) rfl))))) dX12_make_12 ?_
        refine lv_iadd hx hb dX12_make_15 ?_
        refine lv_icmp_le (tgt := 26) hx hb dX12_make_16 (by decide) (fun c1 => ?_) (fun c1 => ?_)
        · rw [if_pos c1] at h
          exact ih.2.1 L σ r h H locs ls hP hD hS (lv_sub hl [0, 1, 2] rfl)
        · rw [if_neg c1] at h
          refine lv_aload_n hx hb dX12_make_19 rfl (lv_at hl 0 rfl) ?_
          refine lv_iconst (v := 5) hx hb dX12_make_20 (by decide) ?_
          cases hc2 : x_fail k 0 (upd (fun _ => 0) 1 5) σ with
          | none => rw [hc2, ob_none] at h; cases h
          | some r2 =>
            rw [hc2, ob_some] at h
            have hFc := va_free (wc := vM cy a σ) hD hS hA [0, 1, 2, 3, 4, 5, 6, 7, 8, 9, 10, 11, 12, 13, 14, 15, 16, 17, 18, 19, 20, 21, 22, 23, 24, 25, 26, 27, 28, 29, 30, 31, 32, 33, 34, 35, 36, 37, 38, 39, 40, 41, 42, 43, 44, 45, 46, 47, 48, 49, 50, 51, 52, 53, 54, 55, 56, 57] rfl
            refine va_callv (va_runV (As := [.int 5]) (rest := []) ⟨hx, hb, hml, hown, hts⟩ (c_x_fail l dC dI cy a k (upd (fun _ => 0) 1 5) σ r2 hc2 H.size) (cwV 1 hts g_x_make_fail_369 rfl rfl rfl (by decide +kernel) ⟨Nat.le_of_ble_eq_true rfl, Nat.le_of_ble_eq_true rfl⟩) ⟨nb_blind, va_recv hK hP (ci := 11) (q0 := 0) rfl rfl, fun U hU hW => ⟨rfl, by rw [hU], by rw [hU]; exact hP, va_K.moved hW.alike hK, hD.weaken (fun _ _ _ _ => trivial), hG.warm hW⟩⟩ rfl rfl hl.1 rfl (lv_room (Nat.le_of_ble_eq_true rfl)) dX12_make_21 ⟨Nat.le_of_ble_eq_true rfl, Nat.le_of_ble_eq_true rfl⟩) hS (fun q _ h => hFc q h) hFc (fun _ t H1 locs ht hvm hw hB hz1 hk1 hS => ?_)
            obtain ⟨hP1, hK1, hD1⟩ := hB
            rw [ht] at hP1
            obtain ⟨hP, hD⟩ := va_join (wr := []) (w1 := vM cy a r2.2) hP hD [0, 1, 2, 3, 4, 5, 6, 7, 8, 9, 10, 11, 12, 13, 14, 15, 16, 17, 18, 19, 20, 21, 22, 23, 24, 25, 26, 27, 28, 29, 30, 31, 32, 33, 34, 35, 36, 37, 38, 39, 40, 41, 42, 43, 44, 45, 46, 47, 48, 49, 50, 51, 52, 53, 54, 55, 56, 57] [] rfl rfl (by decide) (by decide) hk1 hFc hP1 hD1
            generalize H1 = H at hP hS ⊢
            have hP : va_P (dC, dI) nCl (vM cy a r2.2) H := hP
            have hD : va_D A (vM cy a r2.2) := hD
            refine lv_iconst (v := 0) hx hb dX12_make_24 (by decide) ?_
            cases h
            exact W.iret (v := 0) hx hb hr (fun t ht hW => ⟨⟨0, (), rfl, rfl, by rw [ht]; exact hP, va_K.moved hW.alike hK, hD⟩, hS.F ht⟩) hS.2.2 dX12_make_25
      · intro L σ r h H locs ls hP hD hS hl
        rw [x_make] at h
        refine lv_aload_n hx hb dX12_make_26 rfl (lv_at hl 0 rfl) ?_
        refine va_get (D := (dC, dI)) (ci := 11) (v := .int (σ.1 55)) (C := RX12) (T := TX12) (N := 121) hx hb hts in_x_make hown hK hP 0 rfl rfl 55 (by decide) (hts _ (List.mem_cons_of_mem _ (List.mem_append_left _ (List.mem_append_left _ (List.mem_of_getElem? (i := 0) rfl))))) (fun _ h9 => h9) rfl dX12_make_27 ?_
        refine lv_istore_n (lv' := [(3, .int (σ.1 55)), (0, .ref (a 0)), (1, .int (L 1)), (2, .int (L 2))]) hx hb dX12_make_30 rfl hl (by decide) rfl (fun ls hl => ?_)
        refine lv_aload_n hx hb dX12_make_31 rfl (lv_at hl 1 rfl) ?_
        refine lv_dup hx hb dX12_make_32 rfl ?_
        refine va_get (D := (dC, dI)) (ci := 11) (v := .int (σ.1 55)) (C := RX12) (T := TX12) (N := 121) hx hb hts in_x_make hown hK hP 0 rfl rfl 55 (by decide) (hts _ (List.mem_cons_of_mem _ (List.mem_append_left _ (List.mem_append_left _ (List.mem_of_getElem? (i := 0) rfl))))) (fun _ h9 => h9) rfl dX12_make_33 ?_
        refine lv_iconst (v := 4) hx hb dX12_make_36 (by decide) ?_
        refine lv_iload_n hx hb dX12_make_37 rfl (lv_at hl 3 rfl) ?_
        refine lv_iadd hx hb dX12_make_38 ?_
        refine lv_iadd hx hb dX12_make_39 ?_
        refine va_put (D := (dC, dI)) (ci := 11) (v := .int (((σ.1 55)) + ((4 + ((L 2)))))) (ty := .int) (C := RX12) (T := TX12) (N := 121) hx hb hts in_x_make tyX12 tyX12_ok nmX12 hown hK hP hD hS 0 rfl rfl 55 (by decide) (hts _ (List.mem_cons_of_mem _ (List.mem_append_left _ (List.mem_append_left _ (List.mem_of_getElem? (i := 0) rfl))))) (fun _ h9 => h9) rfl (by decide +kernel) rfl rfl (Nat.le_of_ble_eq_true rfl) dX12_make_40 (fun H locs hP hD hS => ?_)
        have hP : va_P (dC, dI) nCl (vM cy a (upd σ.1 55 ((((σ.1 55)) + ((4 + ((L 2)))))), σ.2.1, σ.2.2)) H := hP
        have hD : va_D A (vM cy a (upd σ.1 55 ((((σ.1 55)) + ((4 + ((L 2)))))), σ.2.1, σ.2.2)) := hD
        exact ih.2.2.1 (upd L 3 ((σ.1 55))) (upd σ.1 55 ((((σ.1 55)) + ((4 + ((L 2)))))), σ.2.1, σ.2.2) r h H locs ls hP hD hS (lv_sub hl [1, 2, 3, 0] rfl)
      · intro L σ r h H locs ls hP hD hS hl
        rw [x_make] at h
        refine lv_aload_n hx hb dX12_make_43 rfl (lv_at hl 0 rfl) ?_
        refine va_get (D := (dC, dI)) (ci := 11) (v := .ref (a 28)) (C := RX12) (T := TX12) (N := 121) hx hb hts in_x_make hown hK hP 0 rfl rfl 53 (by decide) (hts _ (List.mem_cons_of_mem _ (List.mem_append_left _ (List.mem_append_left _ (List.mem_of_getElem? (i := 7) rfl))))) (fun _ h9 => h9) rfl dX12_make_44 ?_
        refine lv_iload_n hx hb dX12_make_47 rfl (lv_at hl 3 rfl) ?_
        refine lv_iload_n hx hb dX12_make_48 rfl (lv_at hl 1 rfl) ?_
        by_cases q1 : ¬ (((L 3)) < 0 ∨ 1740000 ≤ ((L 3)).toNatClampNeg)
        · rw [if_pos q1] at h
          refine va_iast hx hb hK hP hD hS 28 1 rfl rfl (nb_inp q1) dX12_make_49 (fun H locs hP hD hS => ?_)
          have hP : va_P (dC, dI) nCl (vM cy a (σ.1, σ.2.1, updG σ.2.2 28 (upd (σ.2.2 28) ((L 3)).toNatClampNeg ((L 1))))) H := hP
          have hD : va_D A (vM cy a (σ.1, σ.2.1, updG σ.2.2 28 (upd (σ.2.2 28) ((L 3)).toNatClampNeg ((L 1))))) := hD
          exact ih.2.2.2.1 L (σ.1, σ.2.1, updG σ.2.2 28 (upd (σ.2.2 28) ((L 3)).toNatClampNeg ((L 1)))) r h H locs ls hP hD hS (lv_sub hl [0, 1, 2, 3] rfl)
        · rw [if_neg q1] at h; cases h
      · intro L σ r h H locs ls hP hD hS hl
        rw [x_make] at h
        refine lv_aload_n hx hb dX12_make_50 rfl (lv_at hl 0 rfl) ?_
        refine va_get (D := (dC, dI)) (ci := 11) (v := .ref (a 28)) (C := RX12) (T := TX12) (N := 121) hx hb hts in_x_make hown hK hP 0 rfl rfl 53 (by decide) (hts _ (List.mem_cons_of_mem _ (List.mem_append_left _ (List.mem_append_left _ (List.mem_of_getElem? (i := 7) rfl))))) (fun _ h9 => h9) rfl dX12_make_51 ?_
        refine lv_iload_n hx hb dX12_make_54 rfl (lv_at hl 3 rfl) ?_
        refine lv_iconst (v := 1) hx hb dX12_make_55 (by decide) ?_
        refine lv_iadd hx hb dX12_make_56 ?_
        refine lv_iload_n hx hb dX12_make_57 rfl (lv_at hl 2 rfl) ?_
        by_cases q1 : ¬ (((((L 3)) + 1)) < 0 ∨ 1740000 ≤ ((((L 3)) + 1)).toNatClampNeg)
        · rw [if_pos q1] at h
          refine va_iast hx hb hK hP hD hS 28 1 rfl rfl (nb_inp q1) dX12_make_58 (fun H locs hP hD hS => ?_)
          have hP : va_P (dC, dI) nCl (vM cy a (σ.1, σ.2.1, updG σ.2.2 28 (upd (σ.2.2 28) ((((L 3)) + 1)).toNatClampNeg ((L 2))))) H := hP
          have hD : va_D A (vM cy a (σ.1, σ.2.1, updG σ.2.2 28 (upd (σ.2.2 28) ((((L 3)) + 1)).toNatClampNeg ((L 2))))) := hD
          exact ih.2.2.2.2.1 L (σ.1, σ.2.1, updG σ.2.2 28 (upd (σ.2.2 28) ((((L 3)) + 1)).toNatClampNeg ((L 2)))) r h H locs ls hP hD hS (lv_sub hl [0, 1, 2, 3] rfl)
        · rw [if_neg q1] at h; cases h
      · intro L σ r h H locs ls hP hD hS hl
        rw [x_make] at h
        refine lv_aload_n hx hb dX12_make_59 rfl (lv_at hl 0 rfl) ?_
        refine va_get (D := (dC, dI)) (ci := 11) (v := .ref (a 28)) (C := RX12) (T := TX12) (N := 121) hx hb hts in_x_make hown hK hP 0 rfl rfl 53 (by decide) (hts _ (List.mem_cons_of_mem _ (List.mem_append_left _ (List.mem_append_left _ (List.mem_of_getElem? (i := 7) rfl))))) (fun _ h9 => h9) rfl dX12_make_60 ?_
        refine lv_iload_n hx hb dX12_make_63 rfl (lv_at hl 3 rfl) ?_
        refine lv_iconst (v := 2) hx hb dX12_make_64 (by decide) ?_
        refine lv_iadd hx hb dX12_make_65 ?_
        refine lv_iconst (v := 1) hx hb dX12_make_66 (by decide) ?_
        by_cases q1 : ¬ (((((L 3)) + 2)) < 0 ∨ 1740000 ≤ ((((L 3)) + 2)).toNatClampNeg)
        · rw [if_pos q1] at h
          refine va_iast hx hb hK hP hD hS 28 1 rfl rfl (nb_inp q1) dX12_make_67 (fun H locs hP hD hS => ?_)
          have hP : va_P (dC, dI) nCl (vM cy a (σ.1, σ.2.1, updG σ.2.2 28 (upd (σ.2.2 28) ((((L 3)) + 2)).toNatClampNeg 1))) H := hP
          have hD : va_D A (vM cy a (σ.1, σ.2.1, updG σ.2.2 28 (upd (σ.2.2 28) ((((L 3)) + 2)).toNatClampNeg 1))) := hD
          exact ih.2.2.2.2.2.1 L (σ.1, σ.2.1, updG σ.2.2 28 (upd (σ.2.2 28) ((((L 3)) + 2)).toNatClampNeg 1)) r h H locs ls hP hD hS (lv_sub hl [0, 1, 2, 3] rfl)
        · rw [if_neg q1] at h; cases h
      · intro L σ r h H locs ls hP hD hS hl
        rw [x_make] at h
        refine lv_aload_n hx hb dX12_make_68 rfl (lv_at hl 0 rfl) ?_
        refine va_get (D := (dC, dI)) (ci := 11) (v := .ref (a 28)) (C := RX12) (T := TX12) (N := 121) hx hb hts in_x_make hown hK hP 0 rfl rfl 53 (by decide) (hts _ (List.mem_cons_of_mem _ (List.mem_append_left _ (List.mem_append_left _ (List.mem_of_getElem? (i := 7) rfl))))) (fun _ h9 => h9) rfl dX12_make_69 ?_
        refine lv_iload_n hx hb dX12_make_72 rfl (lv_at hl 3 rfl) ?_
        refine lv_iconst (v := 3) hx hb dX12_make_73 (by decide) ?_
        refine lv_iadd hx hb dX12_make_74 ?_
        refine lv_iconst (v := 0) hx hb dX12_make_75 (by decide) ?_
        by_cases q1 : ¬ (((((L 3)) + 3)) < 0 ∨ 1740000 ≤ ((((L 3)) + 3)).toNatClampNeg)
        · rw [if_pos q1] at h
          refine va_iast hx hb hK hP hD hS 28 1 rfl rfl (nb_inp q1) dX12_make_76 (fun H locs hP hD hS => ?_)
          have hP : va_P (dC, dI) nCl (vM cy a (σ.1, σ.2.1, updG σ.2.2 28 (upd (σ.2.2 28) ((((L 3)) + 3)).toNatClampNeg 0))) H := hP
          have hD : va_D A (vM cy a (σ.1, σ.2.1, updG σ.2.2 28 (upd (σ.2.2 28) ((((L 3)) + 3)).toNatClampNeg 0))) := hD
          exact ih.2.2.2.2.2.2 L (σ.1, σ.2.1, updG σ.2.2 28 (upd (σ.2.2 28) ((((L 3)) + 3)).toNatClampNeg 0)) r h H locs ls hP hD hS (lv_sub hl [0, 1, 2, 3] rfl)
        · rw [if_neg q1] at h; cases h
      · intro L σ r h H locs ls hP hD hS hl
        rw [x_make] at h
        refine lv_iload_n hx hb dX12_make_77 rfl (lv_at hl 3 rfl) ?_
        cases h
        exact W.iret (v := (L 3)) hx hb hr (fun t ht hW => ⟨⟨(L 3), (), rfl, rfl, by rw [ht]; exact hP, va_K.moved hW.alike hK, hD⟩, hS.F ht⟩) hS.2.2 dX12_make_78
  exact (blk k0).1 L0 σ0 r0 h0 s.heap [] ls hP hD hS hl
/-! push -/
def x_push : Nat → Nat → (Nat → Int32) → MS → Option (Int32 × MS)
  | 0, _, _, _ => none
  | k + 1, 0, L, σ => if ¬ (((σ.1 59)) < 0 ∨ 185000 ≤ ((σ.1 59)).toNatClampNeg) then (x_push k 1 L (σ.1, σ.2.1, updG σ.2.2 29 (upd (σ.2.2 29) ((σ.1 59)).toNatClampNeg ((L 1))))) else none
  | k + 1, 1, L, σ => some (0, (upd σ.1 59 ((((σ.1 59)) + 1)), σ.2.1, σ.2.2))
  | _ + 1, _ + 2, _, _ => none
def o_x_push : List Cond := [.fieldLink RX12 382 "SetHouseModel" "pile" "[I", .fieldLink RX12 385 "SetHouseModel" "top" "I"]
theorem o_x_push_good : o_x_push.all goodWord = true := by decide +kernel
def p_x_push : List Cond := o_x_push ++ []
theorem p_x_push_good : p_x_push.all goodWord = true := nb_all2 o_x_push_good rfl
def w_x_push : List Cond := .code yX12_push cX12_push 2 none :: (p_x_push ++ fM)
theorem w_x_push_good : w_x_push.all goodWord = true := nb_allc (by decide +kernel) (nb_all2 p_x_push_good fM_good)
theorem in_x_push : ∀ w ∈ wsX120, w ∈ w_x_push := fun _ h => List.mem_cons_of_mem _ (List.mem_append_right _ h)
set_option maxHeartbeats 40000000 in
set_option maxRecDepth 100000 in
theorem c_x_push (l : Launch) (dC : Nat → ClassId) (dI : Nat → Nat → Nat) (cy : Nat → ClassId) (a : Nat → Nat) (k0 : Nat) (L0 : Nat → Int32) (σ0 : MS) (r0 : Int32 × MS) (h0 : x_push k0 0 L0 σ0 = some r0) (sz : Nat) : Met l yX12_push w_x_push ({ frames := 0, cells := 0, slots := 0, locals := 0 }) (va_Pc [.ref (a 0), .int (L0 1)] (nIn (dC, dI) cy sz (vM cy a σ0))) (va_Qv (fun _ : Unit => True) (fun _ t => nOut (dC, dI) cy (va_A (vM cy a σ0) sz) (vM cy a r0.2) t) (va_A (vM cy a σ0) sz)) 0 0 (va_A (vM cy a σ0) sz) := by
  refine Met.ofW (cc := cX12_push) (maxL := 2) (ret := none) (by decide) rfl ?_
  intro p e s m args below meth c s₁ B hml hv
  obtain ⟨rfl, hsz, hP, hK, hD0, hG⟩ := hv
  have hx := B.exec
  have hb := B.bytes
  have hr := B.returns
  have hts := atoms_spec (ws := w_x_push) B.pre
  have hown : s.vm.findClass RX12 = some m.cls := findClass_of_methodNamed B.named
  have hlocks := B.notSynchronized
  subst hsz
  have hD := hD0.self (sz := s.heap.size)
  generalize hAe : va_A (vM cy a σ0) s.heap.size = A at hD ⊢
  have hA : ∀ q : Nat, s.heap.size ≤ q → A q := fun q h => by rw [← hAe]; exact Or.inr h
  have hS : va_S A s.heap s.heap [] := va_S.rf
  have hl := lv_entry ([.ref (a 0), .int (L0 1)]) (n := 2) (Nat.le_of_ble_eq_true rfl)
  rw [lg_entry_eq]
  generalize (lg_sl ([.ref (a 0), .int (L0 1)]) ++ List.replicate (2 - (lg_sl ([.ref (a 0), .int (L0 1)])).length) Slot.unset).toArray = ls at hl ⊢
  have hl : lv_has ls 2 [(0, .ref (a 0)), (1, .int (L0 1))] := hl
  have blk : ∀ k : Nat, (∀ (L : Nat → Int32) (σ : MS) (r : Int32 × MS), x_push k 0 L σ = some r → ∀ (H : Heap) (locs : List Loc) (ls : Array Slot), va_P (dC, dI) nCl (vM cy a σ) H → va_D A (vM cy a σ) → va_S A s.heap H locs → lv_has ls 2 [(0, .ref (a 0)), (1, .int (L 1))] → W p l e (headSpec w_x_push ({ frames := 0, cells := 0, slots := 0, locals := 0 })).room s m #[.ref (a 0), .int (L0 1)] below meth c H locs 0 0 (MQ below (va_Qv (fun _ : Unit => True) (fun _ t => nOut (dC, dI) cy A (vM cy a r.2) t) A) #[.ref (a 0), .int (L0 1)] s 0 0 A) (F0 m 0 ls [])) ∧ (∀ (L : Nat → Int32) (σ : MS) (r : Int32 × MS), x_push k 1 L σ = some r → ∀ (H : Heap) (locs : List Loc) (ls : Array Slot), va_P (dC, dI) nCl (vM cy a σ) H → va_D A (vM cy a σ) → va_S A s.heap H locs → lv_has ls 2 [(0, .ref (a 0)), (1, .int (L 1))] → W p l e (headSpec w_x_push ({ frames := 0, cells := 0, slots := 0, locals := 0 })).room s m #[.ref (a 0), .int (L0 1)] below meth c H locs 0 0 (MQ below (va_Qv (fun _ : Unit => True) (fun _ t => nOut (dC, dI) cy A (vM cy a r.2) t) A) #[.ref (a 0), .int (L0 1)] s 0 0 A) (F0 m 10 ls [])) := by
    intro k
    induction k with
    | zero => exact ⟨fun L σ r h => (by cases h), fun L σ r h => (by cases h)⟩
    | succ k ih =>
      refine ⟨?_, ?_⟩
      · intro L σ r h H locs ls hP hD hS hl
        rw [x_push] at h
        refine lv_aload_n hx hb dX12_push_0 rfl (lv_at hl 0 rfl) ?_
        refine va_get (D := (dC, dI)) (ci := 11) (v := .ref (a 29)) (C := RX12) (T := TX12) (N := 121) hx hb hts in_x_push hown hK hP 0 rfl rfl 58 (by decide) (hts _ (List.mem_cons_of_mem _ (List.mem_append_left _ (List.mem_append_left _ (List.mem_of_getElem? (i := 0) rfl))))) (fun _ h9 => h9) rfl dX12_push_1 ?_
        refine lv_aload_n hx hb dX12_push_4 rfl (lv_at hl 0 rfl) ?_
        refine va_get (D := (dC, dI)) (ci := 11) (v := .int (σ.1 59)) (C := RX12) (T := TX12) (N := 121) hx hb hts in_x_push hown hK hP 0 rfl rfl 59 (by decide) (hts _ (List.mem_cons_of_mem _ (List.mem_append_left _ (List.mem_append_left _ (List.mem_of_getElem? (i := 1) rfl))))) (fun _ h9 => h9) rfl dX12_push_5 ?_
        refine lv_iload_n hx hb dX12_push_8 rfl (lv_at hl 1 rfl) ?_
        by_cases q1 : ¬ (((σ.1 59)) < 0 ∨ 185000 ≤ ((σ.1 59)).toNatClampNeg)
        · rw [if_pos q1] at h
          refine va_iast hx hb hK hP hD hS 29 1 rfl rfl (nb_inp q1) dX12_push_9 (fun H locs hP hD hS => ?_)
          have hP : va_P (dC, dI) nCl (vM cy a (σ.1, σ.2.1, updG σ.2.2 29 (upd (σ.2.2 29) ((σ.1 59)).toNatClampNeg ((L 1))))) H := hP
          have hD : va_D A (vM cy a (σ.1, σ.2.1, updG σ.2.2 29 (upd (σ.2.2 29) ((σ.1 59)).toNatClampNeg ((L 1))))) := hD
          exact ih.2 L (σ.1, σ.2.1, updG σ.2.2 29 (upd (σ.2.2 29) ((σ.1 59)).toNatClampNeg ((L 1)))) r h H locs ls hP hD hS (lv_sub hl [0, 1] rfl)
        · rw [if_neg q1] at h; cases h
      · intro L σ r h H locs ls hP hD hS hl
        rw [x_push] at h
        refine lv_aload_n hx hb dX12_push_10 rfl (lv_at hl 0 rfl) ?_
        refine lv_dup hx hb dX12_push_11 rfl ?_
        refine va_get (D := (dC, dI)) (ci := 11) (v := .int (σ.1 59)) (C := RX12) (T := TX12) (N := 121) hx hb hts in_x_push hown hK hP 0 rfl rfl 59 (by decide) (hts _ (List.mem_cons_of_mem _ (List.mem_append_left _ (List.mem_append_left _ (List.mem_of_getElem? (i := 1) rfl))))) (fun _ h9 => h9) rfl dX12_push_12 ?_
        refine lv_iconst (v := 1) hx hb dX12_push_15 (by decide) ?_
        refine lv_iadd hx hb dX12_push_16 ?_
        refine va_put (D := (dC, dI)) (ci := 11) (v := .int (((σ.1 59)) + 1)) (ty := .int) (C := RX12) (T := TX12) (N := 121) hx hb hts in_x_push tyX12 tyX12_ok nmX12 hown hK hP hD hS 0 rfl rfl 59 (by decide) (hts _ (List.mem_cons_of_mem _ (List.mem_append_left _ (List.mem_append_left _ (List.mem_of_getElem? (i := 1) rfl))))) (fun _ h9 => h9) rfl (by decide +kernel) rfl rfl (Nat.le_of_ble_eq_true rfl) dX12_push_17 (fun H locs hP hD hS => ?_)
        have hP : va_P (dC, dI) nCl (vM cy a (upd σ.1 59 ((((σ.1 59)) + 1)), σ.2.1, σ.2.2)) H := hP
        have hD : va_D A (vM cy a (upd σ.1 59 ((((σ.1 59)) + 1)), σ.2.1, σ.2.2)) := hD
        cases h
        exact W.vret hx hb hr (fun t ht hW => ⟨⟨(), rfl, trivial, by rw [ht]; exact hP, va_K.moved hW.alike hK, hD⟩, hS.F ht⟩) hS.2.2 dX12_push_20
  exact (blk k0).1 L0 σ0 r0 h0 s.heap [] ls hP hD hS hl
/-! pop -/
def x_pop : Nat → Nat → (Nat → Int32) → MS → Option (Int32 × MS)
  | 0, _, _, _ => none
  | k + 1, 0, L, σ => x_pop k 1 L (upd σ.1 59 ((((σ.1 59)) - 1)), σ.2.1, σ.2.2)
  | k + 1, 1, L, σ => if ¬ (((σ.1 59)) < 0 ∨ 185000 ≤ ((σ.1 59)).toNatClampNeg) then (some ((σ.2.2 29 ((σ.1 59)).toNatClampNeg), σ)) else none
  | _ + 1, _ + 2, _, _ => none
def o_x_pop : List Cond := [.fieldLink RX12 385 "SetHouseModel" "top" "I", .fieldLink RX12 382 "SetHouseModel" "pile" "[I"]
theorem o_x_pop_good : o_x_pop.all goodWord = true := by decide +kernel
def p_x_pop : List Cond := o_x_pop ++ []
theorem p_x_pop_good : p_x_pop.all goodWord = true := nb_all2 o_x_pop_good rfl
def w_x_pop : List Cond := .code yX12_pop cX12_pop 1 (some .int) :: (p_x_pop ++ fM)
theorem w_x_pop_good : w_x_pop.all goodWord = true := nb_allc (by decide +kernel) (nb_all2 p_x_pop_good fM_good)
theorem in_x_pop : ∀ w ∈ wsX120, w ∈ w_x_pop := fun _ h => List.mem_cons_of_mem _ (List.mem_append_right _ h)
set_option maxHeartbeats 40000000 in
set_option maxRecDepth 100000 in
theorem c_x_pop (l : Launch) (dC : Nat → ClassId) (dI : Nat → Nat → Nat) (cy : Nat → ClassId) (a : Nat → Nat) (k0 : Nat) (L0 : Nat → Int32) (σ0 : MS) (r0 : Int32 × MS) (h0 : x_pop k0 0 L0 σ0 = some r0) (sz : Nat) : Met l yX12_pop w_x_pop ({ frames := 0, cells := 0, slots := 0, locals := 0 }) (va_Pc [.ref (a 0)] (nIn (dC, dI) cy sz (vM cy a σ0))) (va_Qi (fun (z : Int32) (_ : Unit) => z = r0.1) (fun _ t => nOut (dC, dI) cy (va_A (vM cy a σ0) sz) (vM cy a r0.2) t) (va_A (vM cy a σ0) sz)) 0 0 (va_A (vM cy a σ0) sz) := by
  refine Met.ofW (cc := cX12_pop) (maxL := 1) (ret := (some .int)) (by decide) rfl ?_
  intro p e s m args below meth c s₁ B hml hv
  obtain ⟨rfl, hsz, hP, hK, hD0, hG⟩ := hv
  have hx := B.exec
  have hb := B.bytes
  have hr := B.returns
  have hts := atoms_spec (ws := w_x_pop) B.pre
  have hown : s.vm.findClass RX12 = some m.cls := findClass_of_methodNamed B.named
  have hlocks := B.notSynchronized
  subst hsz
  have hD := hD0.self (sz := s.heap.size)
  generalize hAe : va_A (vM cy a σ0) s.heap.size = A at hD ⊢
  have hA : ∀ q : Nat, s.heap.size ≤ q → A q := fun q h => by rw [← hAe]; exact Or.inr h
  have hS : va_S A s.heap s.heap [] := va_S.rf
  have hl := lv_entry ([.ref (a 0)]) (n := 1) (Nat.le_of_ble_eq_true rfl)
  rw [lg_entry_eq]
  generalize (lg_sl ([.ref (a 0)]) ++ List.replicate (1 - (lg_sl ([.ref (a 0)])).length) Slot.unset).toArray = ls at hl ⊢
  have hl : lv_has ls 1 [(0, .ref (a 0))] := hl
  have blk : ∀ k : Nat, (∀ (L : Nat → Int32) (σ : MS) (r : Int32 × MS), x_pop k 0 L σ = some r → ∀ (H : Heap) (locs : List Loc) (ls : Array Slot), va_P (dC, dI) nCl (vM cy a σ) H → va_D A (vM cy a σ) → va_S A s.heap H locs → lv_has ls 1 [(0, .ref (a 0))] → W p l e (headSpec w_x_pop ({ frames := 0, cells := 0, slots := 0, locals := 0 })).room s m #[.ref (a 0)] below meth c H locs 0 0 (MQ below (va_Qi (fun (z : Int32) (_ : Unit) => z = r.1) (fun _ t => nOut (dC, dI) cy A (vM cy a r.2) t) A) #[.ref (a 0)] s 0 0 A) (F0 m 0 ls [])) ∧ (∀ (L : Nat → Int32) (σ : MS) (r : Int32 × MS), x_pop k 1 L σ = some r → ∀ (H : Heap) (locs : List Loc) (ls : Array Slot), va_P (dC, dI) nCl (vM cy a σ) H → va_D A (vM cy a σ) → va_S A s.heap H locs → lv_has ls 1 [(0, .ref (a 0))] → W p l e (headSpec w_x_pop ({ frames := 0, cells := 0, slots := 0, locals := 0 })).room s m #[.ref (a 0)] below meth c H locs 0 0 (MQ below (va_Qi (fun (z : Int32) (_ : Unit) => z = r.1) (fun _ t => nOut (dC, dI) cy A (vM cy a r.2) t) A) #[.ref (a 0)] s 0 0 A) (F0 m 10 ls [])) := by
    intro k
    induction k with
    | zero => exact ⟨fun L σ r h => (by cases h), fun L σ r h => (by cases h)⟩
    | succ k ih =>
      refine ⟨?_, ?_⟩
      · intro L σ r h H locs ls hP hD hS hl
        rw [x_pop] at h
        refine lv_aload_n hx hb dX12_pop_0 rfl (lv_at hl 0 rfl) ?_
        refine lv_dup hx hb dX12_pop_1 rfl ?_
        refine va_get (D := (dC, dI)) (ci := 11) (v := .int (σ.1 59)) (C := RX12) (T := TX12) (N := 121) hx hb hts in_x_pop hown hK hP 0 rfl rfl 59 (by decide) (hts _ (List.mem_cons_of_mem _ (List.mem_append_left _ (List.mem_append_left _ (List.mem_of_getElem? (i := 0) rfl))))) (fun _ h9 => h9) rfl dX12_pop_2 ?_
        refine lv_iconst (v := 1) hx hb dX12_pop_5 (by decide) ?_
        refine lv_isub hx hb dX12_pop_6 ?_
        refine va_put (D := (dC, dI)) (ci := 11) (v := .int (((σ.1 59)) - 1)) (ty := .int) (C := RX12) (T := TX12) (N := 121) hx hb hts in_x_pop tyX12 tyX12_ok nmX12 hown hK hP hD hS 0 rfl rfl 59 (by decide) (hts _ (List.mem_cons_of_mem _ (List.mem_append_left _ (List.mem_append_left _ (List.mem_of_getElem? (i := 0) rfl))))) (fun _ h9 => h9) rfl (by decide +kernel) rfl rfl (Nat.le_of_ble_eq_true rfl) dX12_pop_7 (fun H locs hP hD hS => ?_)
        have hP : va_P (dC, dI) nCl (vM cy a (upd σ.1 59 ((((σ.1 59)) - 1)), σ.2.1, σ.2.2)) H := hP
        have hD : va_D A (vM cy a (upd σ.1 59 ((((σ.1 59)) - 1)), σ.2.1, σ.2.2)) := hD
        exact ih.2 L (upd σ.1 59 ((((σ.1 59)) - 1)), σ.2.1, σ.2.2) r h H locs ls hP hD hS (lv_sub hl [0] rfl)
      · intro L σ r h H locs ls hP hD hS hl
        rw [x_pop] at h
        refine lv_aload_n hx hb dX12_pop_10 rfl (lv_at hl 0 rfl) ?_
        refine va_get (D := (dC, dI)) (ci := 11) (v := .ref (a 29)) (C := RX12) (T := TX12) (N := 121) hx hb hts in_x_pop hown hK hP 0 rfl rfl 58 (by decide) (hts _ (List.mem_cons_of_mem _ (List.mem_append_left _ (List.mem_append_left _ (List.mem_of_getElem? (i := 1) rfl))))) (fun _ h9 => h9) rfl dX12_pop_11 ?_
        refine lv_aload_n hx hb dX12_pop_14 rfl (lv_at hl 0 rfl) ?_
        refine va_get (D := (dC, dI)) (ci := 11) (v := .int (σ.1 59)) (C := RX12) (T := TX12) (N := 121) hx hb hts in_x_pop hown hK hP 0 rfl rfl 59 (by decide) (hts _ (List.mem_cons_of_mem _ (List.mem_append_left _ (List.mem_append_left _ (List.mem_of_getElem? (i := 0) rfl))))) (fun _ h9 => h9) rfl dX12_pop_15 ?_
        by_cases q1 : ¬ (((σ.1 59)) < 0 ∨ 185000 ≤ ((σ.1 59)).toNatClampNeg)
        · rw [if_pos q1] at h
          refine va_iald hx hb hK hP 29 1 rfl rfl (nb_inp q1) dX12_pop_18 ?_
          cases h
          exact W.iret (v := (σ.2.2 29 ((σ.1 59)).toNatClampNeg)) hx hb hr (fun t ht hW => ⟨⟨(σ.2.2 29 ((σ.1 59)).toNatClampNeg), (), rfl, rfl, by rw [ht]; exact hP, va_K.moved hW.alike hK, hD⟩, hS.F ht⟩) hS.2.2 dX12_pop_19
        · rw [if_neg q1] at h; cases h
  exact (blk k0).1 L0 σ0 r0 h0 s.heap [] ls hP hD hS hl
/-! copied -/
def x_copied : Nat → Nat → (Nat → Int32) → MS → Option (Int32 × MS)
  | 0, _, _, _ => none
  | k + 1, 0, L, σ => if 3 ≤ ((L 1)) then (x_copied k 1 L σ) else (some ((L 1), σ))
  | k + 1, 1, L, σ => if ¬ (((L 1)) < 0 ∨ 1740000 ≤ ((L 1)).toNatClampNeg) then (if ((σ.2.2 28 ((L 1)).toNatClampNeg)) = ((-1)) then (if ¬ (((((L 1)) + 1)) < 0 ∨ 1740000 ≤ ((((L 1)) + 1)).toNatClampNeg) then (some ((σ.2.2 28 ((((L 1)) + 1)).toNatClampNeg), σ)) else none) else (x_copied k 2 L σ)) else none
  | k + 1, 2, L, σ => if ¬ (((((L 1)) + 1)) < 0 ∨ 1740000 ≤ ((((L 1)) + 1)).toNatClampNeg) then (x_copied k 3 (upd (upd L 2 ((4 + ((σ.2.2 28 ((((L 1)) + 1)).toNatClampNeg))))) 3 ((σ.1 55))) (upd σ.1 55 ((((σ.1 55)) + ((4 + ((σ.2.2 28 ((((L 1)) + 1)).toNatClampNeg)))))), σ.2.1, σ.2.2)) else none
  | k + 1, 3, L, σ => x_copied k 4 (upd L 4 0) σ
  | k + 1, 4, L, σ => if ((L 2)) ≤ ((L 4)) then (x_copied k 6 L σ) else (if ¬ (((((L 1)) + ((L 4)))) < 0 ∨ 1740000 ≤ ((((L 1)) + ((L 4)))).toNatClampNeg) then (if ¬ (((((L 3)) + ((L 4)))) < 0 ∨ 1740000 ≤ ((((L 3)) + ((L 4)))).toNatClampNeg) then (x_copied k 5 L (σ.1, σ.2.1, updG σ.2.2 28 (upd (σ.2.2 28) ((((L 3)) + ((L 4)))).toNatClampNeg ((σ.2.2 28 ((((L 1)) + ((L 4)))).toNatClampNeg))))) else none) else none)
  | k + 1, 5, L, σ => x_copied k 4 (upd L 4 (((L 4)) + 1)) σ
  | k + 1, 6, L, σ => if ¬ (((L 1)) < 0 ∨ 1740000 ≤ ((L 1)).toNatClampNeg) then (x_copied k 7 L (σ.1, σ.2.1, updG σ.2.2 28 (upd (σ.2.2 28) ((L 1)).toNatClampNeg ((-1))))) else none
  | k + 1, 7, L, σ => if ¬ (((((L 1)) + 1)) < 0 ∨ 1740000 ≤ ((((L 1)) + 1)).toNatClampNeg) then (x_copied k 8 L (σ.1, σ.2.1, updG σ.2.2 28 (upd (σ.2.2 28) ((((L 1)) + 1)).toNatClampNeg ((L 3))))) else none
  | k + 1, 8, L, σ => some ((L 3), σ)
  | _ + 1, _ + 9, _, _ => none
def o_x_copied : List Cond := [.fieldLink RX12 372 "SetHouseModel" "heap" "[I", .fieldLink RX12 375 "SetHouseModel" "high" "I"]
theorem o_x_copied_good : o_x_copied.all goodWord = true := by decide +kernel
def p_x_copied : List Cond := o_x_copied ++ []
theorem p_x_copied_good : p_x_copied.all goodWord = true := nb_all2 o_x_copied_good rfl
def w_x_copied : List Cond := .code yX12_copied cX12_copied 5 (some .int) :: (p_x_copied ++ fM)
theorem w_x_copied_good : w_x_copied.all goodWord = true := nb_allc (by decide +kernel) (nb_all2 p_x_copied_good fM_good)
theorem in_x_copied : ∀ w ∈ wsX120, w ∈ w_x_copied := fun _ h => List.mem_cons_of_mem _ (List.mem_append_right _ h)
set_option maxHeartbeats 40000000 in
set_option maxRecDepth 100000 in
theorem c_x_copied (l : Launch) (dC : Nat → ClassId) (dI : Nat → Nat → Nat) (cy : Nat → ClassId) (a : Nat → Nat) (k0 : Nat) (L0 : Nat → Int32) (σ0 : MS) (r0 : Int32 × MS) (h0 : x_copied k0 0 L0 σ0 = some r0) (sz : Nat) : Met l yX12_copied w_x_copied ({ frames := 0, cells := 0, slots := 0, locals := 0 }) (va_Pc [.ref (a 0), .int (L0 1)] (nIn (dC, dI) cy sz (vM cy a σ0))) (va_Qi (fun (z : Int32) (_ : Unit) => z = r0.1) (fun _ t => nOut (dC, dI) cy (va_A (vM cy a σ0) sz) (vM cy a r0.2) t) (va_A (vM cy a σ0) sz)) 0 0 (va_A (vM cy a σ0) sz) := by
  refine Met.ofW (cc := cX12_copied) (maxL := 5) (ret := (some .int)) (by decide) rfl ?_
  intro p e s m args below meth c s₁ B hml hv
  obtain ⟨rfl, hsz, hP, hK, hD0, hG⟩ := hv
  have hx := B.exec
  have hb := B.bytes
  have hr := B.returns
  have hts := atoms_spec (ws := w_x_copied) B.pre
  have hown : s.vm.findClass RX12 = some m.cls := findClass_of_methodNamed B.named
  have hlocks := B.notSynchronized
  subst hsz
  have hD := hD0.self (sz := s.heap.size)
  generalize hAe : va_A (vM cy a σ0) s.heap.size = A at hD ⊢
  have hA : ∀ q : Nat, s.heap.size ≤ q → A q := fun q h => by rw [← hAe]; exact Or.inr h
  have hS : va_S A s.heap s.heap [] := va_S.rf
  have hl := lv_entry ([.ref (a 0), .int (L0 1)]) (n := 5) (Nat.le_of_ble_eq_true rfl)
  rw [lg_entry_eq]
  generalize (lg_sl ([.ref (a 0), .int (L0 1)]) ++ List.replicate (5 - (lg_sl ([.ref (a 0), .int (L0 1)])).length) Slot.unset).toArray = ls at hl ⊢
  have hl : lv_has ls 5 [(0, .ref (a 0)), (1, .int (L0 1))] := hl
  have blk : ∀ k : Nat, (∀ (L : Nat → Int32) (σ : MS) (r : Int32 × MS), x_copied k 0 L σ = some r → ∀ (H : Heap) (locs : List Loc) (ls : Array Slot), va_P (dC, dI) nCl (vM cy a σ) H → va_D A (vM cy a σ) → va_S A s.heap H locs → lv_has ls 5 [(0, .ref (a 0)), (1, .int (L 1))] → W p l e (headSpec w_x_copied ({ frames := 0, cells := 0, slots := 0, locals := 0 })).room s m #[.ref (a 0), .int (L0 1)] below meth c H locs 0 0 (MQ below (va_Qi (fun (z : Int32) (_ : Unit) => z = r.1) (fun _ t => nOut (dC, dI) cy A (vM cy a r.2) t) A) #[.ref (a 0), .int (L0 1)] s 0 0 A) (F0 m 0 ls [])) ∧ (∀ (L : Nat → Int32) (σ : MS) (r : Int32 × MS), x_copied k 1 L σ = some r → ∀ (H : Heap) (locs : List Loc) (ls : Array Slot), va_P (dC, dI) nCl (vM cy a σ) H → va_D A (vM cy a σ) → va_S A s.heap H locs → lv_has ls 5 [(0, .ref (a 0)), (1, .int (L 1))] → W p l e (headSpec w_x_copied ({ frames := 0, cells := 0, slots := 0, locals := 0 })).room s m #[.ref (a 0), .int (L0 1)] below meth c H locs 0 0 (MQ below (va_Qi (fun (z : Int32) (_ : Unit) => z = r.1) (fun _ t => nOut (dC, dI) cy A (vM cy a r.2) t) A) #[.ref (a 0), .int (L0 1)] s 0 0 A) (F0 m 7 ls [])) ∧ (∀ (L : Nat → Int32) (σ : MS) (r : Int32 × MS), x_copied k 2 L σ = some r → ∀ (H : Heap) (locs : List Loc) (ls : Array Slot), va_P (dC, dI) nCl (vM cy a σ) H → va_D A (vM cy a σ) → va_S A s.heap H locs → lv_has ls 5 [(0, .ref (a 0)), (1, .int (L 1))] → W p l e (headSpec w_x_copied ({ frames := 0, cells := 0, slots := 0, locals := 0 })).room s m #[.ref (a 0), .int (L0 1)] below meth c H locs 0 0 (MQ below (va_Qi (fun (z : Int32) (_ : Unit) => z = r.1) (fun _ t => nOut (dC, dI) cy A (vM cy a r.2) t) A) #[.ref (a 0), .int (L0 1)] s 0 0 A) (F0 m 26 ls [])) ∧ (∀ (L : Nat → Int32) (σ : MS) (r : Int32 × MS), x_copied k 3 L σ = some r → ∀ (H : Heap) (locs : List Loc) (ls : Array Slot), va_P (dC, dI) nCl (vM cy a σ) H → va_D A (vM cy a σ) → va_S A s.heap H locs → lv_has ls 5 [(0, .ref (a 0)), (1, .int (L 1)), (2, .int (L 2)), (3, .int (L 3))] → W p l e (headSpec w_x_copied ({ frames := 0, cells := 0, slots := 0, locals := 0 })).room s m #[.ref (a 0), .int (L0 1)] below meth c H locs 0 0 (MQ below (va_Qi (fun (z : Int32) (_ : Unit) => z = r.1) (fun _ t => nOut (dC, dI) cy A (vM cy a r.2) t) A) #[.ref (a 0), .int (L0 1)] s 0 0 A) (F0 m 52 ls [])) ∧ (∀ (L : Nat → Int32) (σ : MS) (r : Int32 × MS), x_copied k 4 L σ = some r → ∀ (H : Heap) (locs : List Loc) (ls : Array Slot), va_P (dC, dI) nCl (vM cy a σ) H → va_D A (vM cy a σ) → va_S A s.heap H locs → lv_has ls 5 [(0, .ref (a 0)), (1, .int (L 1)), (2, .int (L 2)), (3, .int (L 3)), (4, .int (L 4))] → W p l e (headSpec w_x_copied ({ frames := 0, cells := 0, slots := 0, locals := 0 })).room s m #[.ref (a 0), .int (L0 1)] below meth c H locs 0 0 (MQ below (va_Qi (fun (z : Int32) (_ : Unit) => z = r.1) (fun _ t => nOut (dC, dI) cy A (vM cy a r.2) t) A) #[.ref (a 0), .int (L0 1)] s 0 0 A) (F0 m 55 ls [])) ∧ (∀ (L : Nat → Int32) (σ : MS) (r : Int32 × MS), x_copied k 5 L σ = some r → ∀ (H : Heap) (locs : List Loc) (ls : Array Slot), va_P (dC, dI) nCl (vM cy a σ) H → va_D A (vM cy a σ) → va_S A s.heap H locs → lv_has ls 5 [(0, .ref (a 0)), (1, .int (L 1)), (2, .int (L 2)), (3, .int (L 3)), (4, .int (L 4))] → W p l e (headSpec w_x_copied ({ frames := 0, cells := 0, slots := 0, locals := 0 })).room s m #[.ref (a 0), .int (L0 1)] below meth c H locs 0 0 (MQ below (va_Qi (fun (z : Int32) (_ : Unit) => z = r.1) (fun _ t => nOut (dC, dI) cy A (vM cy a r.2) t) A) #[.ref (a 0), .int (L0 1)] s 0 0 A) (F0 m 79 ls [])) ∧ (∀ (L : Nat → Int32) (σ : MS) (r : Int32 × MS), x_copied k 6 L σ = some r → ∀ (H : Heap) (locs : List Loc) (ls : Array Slot), va_P (dC, dI) nCl (vM cy a σ) H → va_D A (vM cy a σ) → va_S A s.heap H locs → lv_has ls 5 [(0, .ref (a 0)), (1, .int (L 1)), (2, .int (L 2)), (3, .int (L 3)), (4, .int (L 4))] → W p l e (headSpec w_x_copied ({ frames := 0, cells := 0, slots := 0, locals := 0 })).room s m #[.ref (a 0), .int (L0 1)] below meth c H locs 0 0 (MQ below (va_Qi (fun (z : Int32) (_ : Unit) => z = r.1) (fun _ t => nOut (dC, dI) cy A (vM cy a r.2) t) A) #[.ref (a 0), .int (L0 1)] s 0 0 A) (F0 m 85 ls [])) ∧ (∀ (L : Nat → Int32) (σ : MS) (r : Int32 × MS), x_copied k 7 L σ = some r → ∀ (H : Heap) (locs : List Loc) (ls : Array Slot), va_P (dC, dI) nCl (vM cy a σ) H → va_D A (vM cy a σ) → va_S A s.heap H locs → lv_has ls 5 [(0, .ref (a 0)), (1, .int (L 1)), (2, .int (L 2)), (3, .int (L 3)), (4, .int (L 4))] → W p l e (headSpec w_x_copied ({ frames := 0, cells := 0, slots := 0, locals := 0 })).room s m #[.ref (a 0), .int (L0 1)] below meth c H locs 0 0 (MQ below (va_Qi (fun (z : Int32) (_ : Unit) => z = r.1) (fun _ t => nOut (dC, dI) cy A (vM cy a r.2) t) A) #[.ref (a 0), .int (L0 1)] s 0 0 A) (F0 m 92 ls [])) ∧ (∀ (L : Nat → Int32) (σ : MS) (r : Int32 × MS), x_copied k 8 L σ = some r → ∀ (H : Heap) (locs : List Loc) (ls : Array Slot), va_P (dC, dI) nCl (vM cy a σ) H → va_D A (vM cy a σ) → va_S A s.heap H locs → lv_has ls 5 [(0, .ref (a 0)), (1, .int (L 1)), (2, .int (L 2)), (3, .int (L 3)), (4, .int (L 4))] → W p l e (headSpec w_x_copied ({ frames := 0, cells := 0, slots := 0, locals := 0 })).room s m #[.ref (a 0), .int (L0 1)] below meth c H locs 0 0 (MQ below (va_Qi (fun (z : Int32) (_ : Unit) => z = r.1) (fun _ t => nOut (dC, dI) cy A (vM cy a r.2) t) A) #[.ref (a 0), .int (L0 1)] s 0 0 A) (F0 m 101 ls [])) := by
    intro k
    induction k with
    | zero => exact ⟨fun L σ r h => (by cases h), fun L σ r h => (by cases h), fun L σ r h => (by cases h), fun L σ r h => (by cases h), fun L σ r h => (by cases h), fun L σ r h => (by cases h), fun L σ r h => (by cases h), fun L σ r h => (by cases h), fun L σ r h => (by cases h)⟩
    | succ k ih =>
      refine ⟨?_, ?_, ?_, ?_, ?_, ?_, ?_, ?_, ?_⟩
      · intro L σ r h H locs ls hP hD hS hl
        rw [x_copied] at h
        refine lv_iload_n hx hb dX12_copied_0 rfl (lv_at hl 1 rfl) ?_
        refine lv_iconst (v := 3) hx hb dX12_copied_1 (by decide) ?_
        refine lv_icmp_ge (tgt := 7) hx hb dX12_copied_2 (by decide) (fun c1 => ?_) (fun c1 => ?_)
        · rw [if_pos c1] at h
          exact ih.2.1 L σ r h H locs ls hP hD hS (lv_sub hl [0, 1] rfl)
        · rw [if_neg c1] at h
          refine lv_iload_n hx hb dX12_copied_5 rfl (lv_at hl 1 rfl) ?_
          cases h
          exact W.iret (v := (L 1)) hx hb hr (fun t ht hW => ⟨⟨(L 1), (), rfl, rfl, by rw [ht]; exact hP, va_K.moved hW.alike hK, hD⟩, hS.F ht⟩) hS.2.2 dX12_copied_6
      · intro L σ r h H locs ls hP hD hS hl
        rw [x_copied] at h
        refine lv_aload_n hx hb dX12_copied_7 rfl (lv_at hl 0 rfl) ?_
        refine va_get (D := (dC, dI)) (ci := 11) (v := .ref (a 28)) (C := RX12) (T := TX12) (N := 121) hx hb hts in_x_copied hown hK hP 0 rfl rfl 53 (by decide) (hts _ (List.mem_cons_of_mem _ (List.mem_append_left _ (List.mem_append_left _ (List.mem_of_getElem? (i := 0) rfl))))) (fun _ h9 => h9) rfl dX12_copied_8 ?_
        refine lv_iload_n hx hb dX12_copied_11 rfl (lv_at hl 1 rfl) ?_
        by_cases q1 : ¬ (((L 1)) < 0 ∨ 1740000 ≤ ((L 1)).toNatClampNeg)
        · rw [if_pos q1] at h
          refine va_iald hx hb hK hP 28 1 rfl rfl (nb_inp q1) dX12_copied_12 ?_
          refine lv_iconst (v := (-1)) hx hb dX12_copied_13 (by decide) ?_
          refine lv_icmp_ne (tgt := 26) hx hb dX12_copied_14 (by decide) (fun c2 => ?_) (fun c2 => ?_)
          · rw [if_neg c2] at h
            exact ih.2.2.1 L σ r h H locs ls hP hD hS (lv_sub hl [0, 1] rfl)
          · rw [if_pos c2] at h
            refine lv_aload_n hx hb dX12_copied_17 rfl (lv_at hl 0 rfl) ?_
            refine va_get (D := (dC, dI)) (ci := 11) (v := .ref (a 28)) (C := RX12) (T := TX12) (N := 121) hx hb hts in_x_copied hown hK hP 0 rfl rfl 53 (by decide) (hts _ (List.mem_cons_of_mem _ (List.mem_append_left _ (List.mem_append_left _ (List.mem_of_getElem? (i := 0) rfl))))) (fun _ h9 => h9) rfl dX12_copied_18 ?_
            refine lv_iload_n hx hb dX12_copied_21 rfl (lv_at hl 1 rfl) ?_
            refine lv_iconst (v := 1) hx hb dX12_copied_22 (by decide) ?_
            refine lv_iadd hx hb dX12_copied_23 ?_
            by_cases q3 : ¬ (((((L 1)) + 1)) < 0 ∨ 1740000 ≤ ((((L 1)) + 1)).toNatClampNeg)
            · rw [if_pos q3] at h
              refine va_iald hx hb hK hP 28 1 rfl rfl (nb_inp q3) dX12_copied_24 ?_
              cases h
              exact W.iret (v := (σ.2.2 28 ((((L 1)) + 1)).toNatClampNeg)) hx hb hr (fun t ht hW => ⟨⟨(σ.2.2 28 ((((L 1)) + 1)).toNatClampNeg), (), rfl, rfl, by rw [ht]; exact hP, va_K.moved hW.alike hK, hD⟩, hS.F ht⟩) hS.2.2 dX12_copied_25
            · rw [if_neg q3] at h; cases h
        · rw [if_neg q1] at h; cases h
      · intro L σ r h H locs ls hP hD hS hl
        rw [x_copied] at h
        refine lv_iconst (v := 4) hx hb dX12_copied_26 (by decide) ?_
        refine lv_aload_n hx hb dX12_copied_27 rfl (lv_at hl 0 rfl) ?_
        refine va_get (D := (dC, dI)) (ci := 11) (v := .ref (a 28)) (C := RX12) (T := TX12) (N := 121) hx hb hts in_x_copied hown hK hP 0 rfl rfl 53 (by decide) (hts _ (List.mem_cons_of_mem _ (List.mem_append_left _ (List.mem_append_left _ (List.mem_of_getElem? (i := 0) rfl))))) (fun _ h9 => h9) rfl dX12_copied_28 ?_
        refine lv_iload_n hx hb dX12_copied_31 rfl (lv_at hl 1 rfl) ?_
        refine lv_iconst (v := 1) hx hb dX12_copied_32 (by decide) ?_
        refine lv_iadd hx hb dX12_copied_33 ?_
        by_cases q1 : ¬ (((((L 1)) + 1)) < 0 ∨ 1740000 ≤ ((((L 1)) + 1)).toNatClampNeg)
        · rw [if_pos q1] at h
          refine va_iald hx hb hK hP 28 1 rfl rfl (nb_inp q1) dX12_copied_34 ?_
          refine lv_iadd hx hb dX12_copied_35 ?_
          refine lv_istore_n (lv' := [(2, .int (4 + ((σ.2.2 28 ((((L 1)) + 1)).toNatClampNeg)))), (0, .ref (a 0)), (1, .int (L 1))]) hx hb dX12_copied_36 rfl hl (by decide) rfl (fun ls hl => ?_)
          refine lv_aload_n hx hb dX12_copied_37 rfl (lv_at hl 1 rfl) ?_
          refine va_get (D := (dC, dI)) (ci := 11) (v := .int (σ.1 55)) (C := RX12) (T := TX12) (N := 121) hx hb hts in_x_copied hown hK hP 0 rfl rfl 55 (by decide) (hts _ (List.mem_cons_of_mem _ (List.mem_append_left _ (List.mem_append_left _ (List.mem_of_getElem? (i := 1) rfl))))) (fun _ h9 => h9) rfl dX12_copied_38 ?_
          refine lv_istore_n (lv' := [(3, .int (σ.1 55)), (2, .int (4 + ((σ.2.2 28 ((((L 1)) + 1)).toNatClampNeg)))), (0, .ref (a 0)), (1, .int (L 1))]) hx hb dX12_copied_41 rfl hl (by decide) rfl (fun ls hl => ?_)
          refine lv_aload_n hx hb dX12_copied_42 rfl (lv_at hl 2 rfl) ?_
          refine lv_dup hx hb dX12_copied_43 rfl ?_
          refine va_get (D := (dC, dI)) (ci := 11) (v := .int (σ.1 55)) (C := RX12) (T := TX12) (N := 121) hx hb hts in_x_copied hown hK hP 0 rfl rfl 55 (by decide) (hts _ (List.mem_cons_of_mem _ (List.mem_append_left _ (List.mem_append_left _ (List.mem_of_getElem? (i := 1) rfl))))) (fun _ h9 => h9) rfl dX12_copied_44 ?_
          refine lv_iload_n hx hb dX12_copied_47 rfl (lv_at hl 1 rfl) ?_
          refine lv_iadd hx hb dX12_copied_48 ?_
          refine va_put (D := (dC, dI)) (ci := 11) (v := .int (((σ.1 55)) + ((4 + ((σ.2.2 28 ((((L 1)) + 1)).toNatClampNeg)))))) (ty := .int) (C := RX12) (T := TX12) (N := 121) hx hb hts in_x_copied tyX12 tyX12_ok nmX12 hown hK hP hD hS 0 rfl rfl 55 (by decide) (hts _ (List.mem_cons_of_mem _ (List.mem_append_left _ (List.mem_append_left _ (List.mem_of_getElem? (i := 1) rfl))))) (fun _ h9 => h9) rfl (by decide +kernel) rfl rfl (Nat.le_of_ble_eq_true rfl) dX12_copied_49 (fun H locs hP hD hS => ?_)
          have hP : va_P (dC, dI) nCl (vM cy a (upd σ.1 55 ((((σ.1 55)) + ((4 + ((σ.2.2 28 ((((L 1)) + 1)).toNatClampNeg)))))), σ.2.1, σ.2.2)) H := hP
          have hD : va_D A (vM cy a (upd σ.1 55 ((((σ.1 55)) + ((4 + ((σ.2.2 28 ((((L 1)) + 1)).toNatClampNeg)))))), σ.2.1, σ.2.2)) := hD
          exact ih.2.2.2.1 (upd (upd L 2 ((4 + ((σ.2.2 28 ((((L 1)) + 1)).toNatClampNeg))))) 3 ((σ.1 55))) (upd σ.1 55 ((((σ.1 55)) + ((4 + ((σ.2.2 28 ((((L 1)) + 1)).toNatClampNeg)))))), σ.2.1, σ.2.2) r h H locs ls hP hD hS (lv_sub hl [2, 3, 1, 0] rfl)
        · rw [if_neg q1] at h; cases h
      · intro L σ r h H locs ls hP hD hS hl
        rw [x_copied] at h
        refine lv_iconst (v := 0) hx hb dX12_copied_52 (by decide) ?_
        refine lv_istore (lv' := [(4, .int 0), (0, .ref (a 0)), (1, .int (L 1)), (2, .int (L 2)), (3, .int (L 3))]) hx hb dX12_copied_53 hl (by decide) rfl (fun ls hl => ?_)
        exact ih.2.2.2.2.1 (upd L 4 0) σ r h H locs ls hP hD hS (lv_sub hl [1, 2, 3, 4, 0] rfl)
      · intro L σ r h H locs ls hP hD hS hl
        rw [x_copied] at h
        refine lv_iload hx hb dX12_copied_55 (lv_at hl 4 rfl) ?_
        refine lv_iload_n hx hb dX12_copied_57 rfl (lv_at hl 2 rfl) ?_
        refine lv_icmp_ge (tgt := 85) hx hb dX12_copied_58 (by decide) (fun c1 => ?_) (fun c1 => ?_)
        · rw [if_pos c1] at h
          exact ih.2.2.2.2.2.2.1 L σ r h H locs ls hP hD hS (lv_sub hl [0, 1, 2, 3, 4] rfl)
        · rw [if_neg c1] at h
          refine lv_aload_n hx hb dX12_copied_61 rfl (lv_at hl 0 rfl) ?_
          refine va_get (D := (dC, dI)) (ci := 11) (v := .ref (a 28)) (C := RX12) (T := TX12) (N := 121) hx hb hts in_x_copied hown hK hP 0 rfl rfl 53 (by decide) (hts _ (List.mem_cons_of_mem _ (List.mem_append_left _ (List.mem_append_left _ (List.mem_of_getElem? (i := 0) rfl))))) (fun _ h9 => h9) rfl dX12_copied_62 ?_
          refine lv_iload_n hx hb dX12_copied_65 rfl (lv_at hl 3 rfl) ?_
          refine lv_iload hx hb dX12_copied_66 (lv_at hl 4 rfl) ?_
          refine lv_iadd hx hb dX12_copied_68 ?_
          refine lv_aload_n hx hb dX12_copied_69 rfl (lv_at hl 0 rfl) ?_
          refine va_get (D := (dC, dI)) (ci := 11) (v := .ref (a 28)) (C := RX12) (T := TX12) (N := 121) hx hb hts in_x_copied hown hK hP 0 rfl rfl 53 (by decide) (hts _ (List.mem_cons_of_mem _ (List.mem_append_left _ (List.mem_append_left _ (List.mem_of_getElem? (i := 0) rfl))))) (fun _ h9 => h9) rfl dX12_copied_70 ?_
          refine lv_iload_n hx hb dX12_copied_73 rfl (lv_at hl 1 rfl) ?_
          refine lv_iload hx hb dX12_copied_74 (lv_at hl 4 rfl) ?_
          refine lv_iadd hx hb dX12_copied_76 ?_
          by_cases q2 : ¬ (((((L 1)) + ((L 4)))) < 0 ∨ 1740000 ≤ ((((L 1)) + ((L 4)))).toNatClampNeg)
          · rw [if_pos q2] at h
            refine va_iald hx hb hK hP 28 1 rfl rfl (nb_inp q2) dX12_copied_77 ?_
            by_cases q3 : ¬ (((((L 3)) + ((L 4)))) < 0 ∨ 1740000 ≤ ((((L 3)) + ((L 4)))).toNatClampNeg)
            · rw [if_pos q3] at h
              refine va_iast hx hb hK hP hD hS 28 1 rfl rfl (nb_inp q3) dX12_copied_78 (fun H locs hP hD hS => ?_)
              have hP : va_P (dC, dI) nCl (vM cy a (σ.1, σ.2.1, updG σ.2.2 28 (upd (σ.2.2 28) ((((L 3)) + ((L 4)))).toNatClampNeg ((σ.2.2 28 ((((L 1)) + ((L 4)))).toNatClampNeg))))) H := hP
              have hD : va_D A (vM cy a (σ.1, σ.2.1, updG σ.2.2 28 (upd (σ.2.2 28) ((((L 3)) + ((L 4)))).toNatClampNeg ((σ.2.2 28 ((((L 1)) + ((L 4)))).toNatClampNeg))))) := hD
              exact ih.2.2.2.2.2.1 L (σ.1, σ.2.1, updG σ.2.2 28 (upd (σ.2.2 28) ((((L 3)) + ((L 4)))).toNatClampNeg ((σ.2.2 28 ((((L 1)) + ((L 4)))).toNatClampNeg)))) r h H locs ls hP hD hS (lv_sub hl [0, 1, 2, 3, 4] rfl)
            · rw [if_neg q3] at h; cases h
          · rw [if_neg q2] at h; cases h
      · intro L σ r h H locs ls hP hD hS hl
        rw [x_copied] at h
        refine lv_iinc (v := ((L 4)) + 1) (lv' := [(4, .int (((L 4)) + 1)), (0, .ref (a 0)), (1, .int (L 1)), (2, .int (L 2)), (3, .int (L 3))]) hx hb dX12_copied_79 hl (k := 4) rfl rfl (by decide) rfl (fun ls hl => ?_)
        refine lv_goto (tgt := 55) hx hb dX12_copied_82 (by decide) ?_
        exact ih.2.2.2.2.1 (upd L 4 (((L 4)) + 1)) σ r h H locs ls hP hD hS (lv_sub hl [1, 2, 3, 4, 0] rfl)
      · intro L σ r h H locs ls hP hD hS hl
        rw [x_copied] at h
        refine lv_aload_n hx hb dX12_copied_85 rfl (lv_at hl 0 rfl) ?_
        refine va_get (D := (dC, dI)) (ci := 11) (v := .ref (a 28)) (C := RX12) (T := TX12) (N := 121) hx hb hts in_x_copied hown hK hP 0 rfl rfl 53 (by decide) (hts _ (List.mem_cons_of_mem _ (List.mem_append_left _ (List.mem_append_left _ (List.mem_of_getElem? (i := 0) rfl))))) (fun _ h9 => h9) rfl dX12_copied_86 ?_
        refine lv_iload_n hx hb dX12_copied_89 rfl (lv_at hl 1 rfl) ?_
        refine lv_iconst (v := (-1)) hx hb dX12_copied_90 (by decide) ?_
        by_cases q1 : ¬ (((L 1)) < 0 ∨ 1740000 ≤ ((L 1)).toNatClampNeg)
        · rw [if_pos q1] at h
          refine va_iast hx hb hK hP hD hS 28 1 rfl rfl (nb_inp q1) dX12_copied_91 (fun H locs hP hD hS => ?_)
          have hP : va_P (dC, dI) nCl (vM cy a (σ.1, σ.2.1, updG σ.2.2 28 (upd (σ.2.2 28) ((L 1)).toNatClampNeg ((-1))))) H := hP
          have hD : va_D A (vM cy a (σ.1, σ.2.1, updG σ.2.2 28 (upd (σ.2.2 28) ((L 1)).toNatClampNeg ((-1))))) := hD
          exact ih.2.2.2.2.2.2.2.1 L (σ.1, σ.2.1, updG σ.2.2 28 (upd (σ.2.2 28) ((L 1)).toNatClampNeg ((-1)))) r h H locs ls hP hD hS (lv_sub hl [0, 1, 2, 3, 4] rfl)
        · rw [if_neg q1] at h; cases h
      · intro L σ r h H locs ls hP hD hS hl
        rw [x_copied] at h
        refine lv_aload_n hx hb dX12_copied_92 rfl (lv_at hl 0 rfl) ?_
        refine va_get (D := (dC, dI)) (ci := 11) (v := .ref (a 28)) (C := RX12) (T := TX12) (N := 121) hx hb hts in_x_copied hown hK hP 0 rfl rfl 53 (by decide) (hts _ (List.mem_cons_of_mem _ (List.mem_append_left _ (List.mem_append_left _ (List.mem_of_getElem? (i := 0) rfl))))) (fun _ h9 => h9) rfl dX12_copied_93 ?_
        refine lv_iload_n hx hb dX12_copied_96 rfl (lv_at hl 1 rfl) ?_
        refine lv_iconst (v := 1) hx hb dX12_copied_97 (by decide) ?_
        refine lv_iadd hx hb dX12_copied_98 ?_
        refine lv_iload_n hx hb dX12_copied_99 rfl (lv_at hl 3 rfl) ?_
        by_cases q1 : ¬ (((((L 1)) + 1)) < 0 ∨ 1740000 ≤ ((((L 1)) + 1)).toNatClampNeg)
        · rw [if_pos q1] at h
          refine va_iast hx hb hK hP hD hS 28 1 rfl rfl (nb_inp q1) dX12_copied_100 (fun H locs hP hD hS => ?_)
          have hP : va_P (dC, dI) nCl (vM cy a (σ.1, σ.2.1, updG σ.2.2 28 (upd (σ.2.2 28) ((((L 1)) + 1)).toNatClampNeg ((L 3))))) H := hP
          have hD : va_D A (vM cy a (σ.1, σ.2.1, updG σ.2.2 28 (upd (σ.2.2 28) ((((L 1)) + 1)).toNatClampNeg ((L 3))))) := hD
          exact ih.2.2.2.2.2.2.2.2 L (σ.1, σ.2.1, updG σ.2.2 28 (upd (σ.2.2 28) ((((L 1)) + 1)).toNatClampNeg ((L 3)))) r h H locs ls hP hD hS (lv_sub hl [0, 1, 2, 3, 4] rfl)
        · rw [if_neg q1] at h; cases h
      · intro L σ r h H locs ls hP hD hS hl
        rw [x_copied] at h
        refine lv_iload_n hx hb dX12_copied_101 rfl (lv_at hl 3 rfl) ?_
        cases h
        exact W.iret (v := (L 3)) hx hb hr (fun t ht hW => ⟨⟨(L 3), (), rfl, rfl, by rw [ht]; exact hP, va_K.moved hW.alike hK, hD⟩, hS.F ht⟩) hS.2.2 dX12_copied_102
  exact (blk k0).1 L0 σ0 r0 h0 s.heap [] ls hP hD hS hl
/-! checked -/
def x_checked : Nat → Nat → (Nat → Int32) → MS → Option (Int32 × MS)
  | 0, _, _, _ => none
  | k + 1, 0, L, σ => if ((σ.1 56)) = 0 then (if ¬ (((((L 1)) + 2)) < 0 ∨ 1740000 ≤ ((((L 1)) + 2)).toNatClampNeg) then (if 1000 < ((σ.2.2 28 ((((L 1)) + 2)).toNatClampNeg)) then (x_checked k 1 L σ) else (if ¬ (((((L 1)) + 3)) < 0 ∨ 1740000 ≤ ((((L 1)) + 3)).toNatClampNeg) then (if ((σ.2.2 28 ((((L 1)) + 3)).toNatClampNeg)) ≤ 30 then (x_checked k 2 L σ) else (x_checked k 1 L σ)) else none)) else none) else (x_checked k 2 L σ)
  | k + 1, 1, L, σ => ob (x_fail k 0 (upd (fun _ => 0) 1 5) σ) (fun r1 => x_checked k 2 L r1.2)
  | k + 1, 2, L, σ => if ((σ.1 56)) = 0 then (x_checked k 4 (upd L 100 ((L 1))) σ) else (x_checked k 3 L σ)
  | k + 1, 3, L, σ => x_checked k 4 (upd L 100 0) σ
  | k + 1, 4, L, σ => some ((L 100), σ)
  | _ + 1, _ + 5, _, _ => none
def o_x_checked : List Cond := [.fieldLink RX12 362 "SetHouseModel" "err" "I", .fieldLink RX12 372 "SetHouseModel" "heap" "[I", .methodLink RX12 369 yX12_fail, .instanceMethod yX12_fail, .selects RX12 yX12_fail yX12_fail, .initialized RX12]
theorem o_x_checked_good : o_x_checked.all goodWord = true := by decide +kernel
def p_x_checked : List Cond := o_x_checked ++ ((.code yX12_fail cX12_fail 2 none :: p_x_fail) ++ [])
theorem p_x_checked_good : p_x_checked.all goodWord = true := nb_all2 o_x_checked_good (nb_all2 (nb_allc (by decide +kernel) p_x_fail_good) rfl)
def w_x_checked : List Cond := .code yX12_checked cX12_checked 2 (some .int) :: (p_x_checked ++ fM)
theorem w_x_checked_good : w_x_checked.all goodWord = true := nb_allc (by decide +kernel) (nb_all2 p_x_checked_good fM_good)
theorem in_x_checked : ∀ w ∈ wsX120, w ∈ w_x_checked := fun _ h => List.mem_cons_of_mem _ (List.mem_append_right _ h)
theorem gg_x_checked_fail : GoodIn w_x_checked w_x_fail := goodIn_sub (fun w h => (List.mem_cons.mp h).elim (fun e => (List.mem_cons_of_mem _ (List.mem_append_left _ (List.mem_append_right _ (List.mem_append_left _ (List.mem_cons.mpr (Or.inl e))))))) (fun h => (List.mem_append.mp h).elim (fun h => (List.mem_cons_of_mem _ (List.mem_append_left _ (List.mem_append_right _ (List.mem_append_left _ (List.mem_cons_of_mem _ h)))))) (fun h => List.mem_cons_of_mem _ (List.mem_append_right _ h)))) w_x_fail_good
theorem g_x_checked_fail_369 : GoodIn w_x_checked (wsV RX12 369 RX12 yX12_fail w_x_fail) := goodIn_app (nb_g4 (List.mem_cons_of_mem _ (List.mem_append_left _ (List.mem_append_left _ (List.mem_of_getElem? (i := 2) rfl)))) (List.mem_cons_of_mem _ (List.mem_append_left _ (List.mem_append_left _ (List.mem_of_getElem? (i := 3) rfl)))) (List.mem_cons_of_mem _ (List.mem_append_left _ (List.mem_append_left _ (List.mem_of_getElem? (i := 4) rfl)))) (List.mem_cons_of_mem _ (List.mem_append_left _ (List.mem_append_left _ (List.mem_of_getElem? (i := 5) rfl)))) (by decide +kernel)) gg_x_checked_fail
set_option maxHeartbeats 40000000 in
set_option maxRecDepth 100000 in
theorem c_x_checked (l : Launch) (dC : Nat → ClassId) (dI : Nat → Nat → Nat) (cy : Nat → ClassId) (a : Nat → Nat) (k0 : Nat) (L0 : Nat → Int32) (σ0 : MS) (r0 : Int32 × MS) (h0 : x_checked k0 0 L0 σ0 = some r0) (sz : Nat) : Met l yX12_checked w_x_checked ({ frames := 1, cells := 0, slots := 0, locals := 21 }) (va_Pc [.ref (a 0), .int (L0 1)] (nIn (dC, dI) cy sz (vM cy a σ0))) (va_Qi (fun (z : Int32) (_ : Unit) => z = r0.1) (fun _ t => nOut (dC, dI) cy (va_A (vM cy a σ0) sz) (vM cy a r0.2) t) (va_A (vM cy a σ0) sz)) 0 0 (va_A (vM cy a σ0) sz) := by
  refine Met.ofW (cc := cX12_checked) (maxL := 2) (ret := (some .int)) (by decide) rfl ?_
  intro p e s m args below meth c s₁ B hml hv
  obtain ⟨rfl, hsz, hP, hK, hD0, hG⟩ := hv
  have hx := B.exec
  have hb := B.bytes
  have hr := B.returns
  have hts := atoms_spec (ws := w_x_checked) B.pre
  have hown : s.vm.findClass RX12 = some m.cls := findClass_of_methodNamed B.named
  have hlocks := B.notSynchronized
  subst hsz
  have hD := hD0.self (sz := s.heap.size)
  generalize hAe : va_A (vM cy a σ0) s.heap.size = A at hD ⊢
  have hA : ∀ q : Nat, s.heap.size ≤ q → A q := fun q h => by rw [← hAe]; exact Or.inr h
  have hS : va_S A s.heap s.heap [] := va_S.rf
  have hl := lv_entry ([.ref (a 0), .int (L0 1)]) (n := 2) (Nat.le_of_ble_eq_true rfl)
  rw [lg_entry_eq]
  generalize (lg_sl ([.ref (a 0), .int (L0 1)]) ++ List.replicate (2 - (lg_sl ([.ref (a 0), .int (L0 1)])).length) Slot.unset).toArray = ls at hl ⊢
  have hl : lv_has ls 2 [(0, .ref (a 0)), (1, .int (L0 1))] := hl
  have blk : ∀ k : Nat, (∀ (L : Nat → Int32) (σ : MS) (r : Int32 × MS), x_checked k 0 L σ = some r → ∀ (H : Heap) (locs : List Loc) (ls : Array Slot), va_P (dC, dI) nCl (vM cy a σ) H → va_D A (vM cy a σ) → va_S A s.heap H locs → lv_has ls 2 [(0, .ref (a 0)), (1, .int (L 1))] → W p l e (headSpec w_x_checked ({ frames := 1, cells := 0, slots := 0, locals := 21 })).room s m #[.ref (a 0), .int (L0 1)] below meth c H locs 0 0 (MQ below (va_Qi (fun (z : Int32) (_ : Unit) => z = r.1) (fun _ t => nOut (dC, dI) cy A (vM cy a r.2) t) A) #[.ref (a 0), .int (L0 1)] s 0 0 A) (F0 m 0 ls [])) ∧ (∀ (L : Nat → Int32) (σ : MS) (r : Int32 × MS), x_checked k 1 L σ = some r → ∀ (H : Heap) (locs : List Loc) (ls : Array Slot), va_P (dC, dI) nCl (vM cy a σ) H → va_D A (vM cy a σ) → va_S A s.heap H locs → lv_has ls 2 [(0, .ref (a 0)), (1, .int (L 1))] → W p l e (headSpec w_x_checked ({ frames := 1, cells := 0, slots := 0, locals := 21 })).room s m #[.ref (a 0), .int (L0 1)] below meth c H locs 0 0 (MQ below (va_Qi (fun (z : Int32) (_ : Unit) => z = r.1) (fun _ t => nOut (dC, dI) cy A (vM cy a r.2) t) A) #[.ref (a 0), .int (L0 1)] s 0 0 A) (F0 m 34 ls [])) ∧ (∀ (L : Nat → Int32) (σ : MS) (r : Int32 × MS), x_checked k 2 L σ = some r → ∀ (H : Heap) (locs : List Loc) (ls : Array Slot), va_P (dC, dI) nCl (vM cy a σ) H → va_D A (vM cy a σ) → va_S A s.heap H locs → lv_has ls 2 [(0, .ref (a 0)), (1, .int (L 1))] → W p l e (headSpec w_x_checked ({ frames := 1, cells := 0, slots := 0, locals := 21 })).room s m #[.ref (a 0), .int (L0 1)] below meth c H locs 0 0 (MQ below (va_Qi (fun (z : Int32) (_ : Unit) => z = r.1) (fun _ t => nOut (dC, dI) cy A (vM cy a r.2) t) A) #[.ref (a 0), .int (L0 1)] s 0 0 A) (F0 m 39 ls [])) ∧ (∀ (L : Nat → Int32) (σ : MS) (r : Int32 × MS), x_checked k 3 L σ = some r → ∀ (H : Heap) (locs : List Loc) (ls : Array Slot), va_P (dC, dI) nCl (vM cy a σ) H → va_D A (vM cy a σ) → va_S A s.heap H locs → lv_has ls 2 [(0, .ref (a 0)), (1, .int (L 1))] → W p l e (headSpec w_x_checked ({ frames := 1, cells := 0, slots := 0, locals := 21 })).room s m #[.ref (a 0), .int (L0 1)] below meth c H locs 0 0 (MQ below (va_Qi (fun (z : Int32) (_ : Unit) => z = r.1) (fun _ t => nOut (dC, dI) cy A (vM cy a r.2) t) A) #[.ref (a 0), .int (L0 1)] s 0 0 A) (F0 m 50 ls [])) ∧ (∀ (L : Nat → Int32) (σ : MS) (r : Int32 × MS), x_checked k 4 L σ = some r → ∀ (H : Heap) (locs : List Loc) (ls : Array Slot), va_P (dC, dI) nCl (vM cy a σ) H → va_D A (vM cy a σ) → va_S A s.heap H locs → lv_has ls 2 [(0, .ref (a 0)), (1, .int (L 1))] → W p l e (headSpec w_x_checked ({ frames := 1, cells := 0, slots := 0, locals := 21 })).room s m #[.ref (a 0), .int (L0 1)] below meth c H locs 0 0 (MQ below (va_Qi (fun (z : Int32) (_ : Unit) => z = r.1) (fun _ t => nOut (dC, dI) cy A (vM cy a r.2) t) A) #[.ref (a 0), .int (L0 1)] s 0 0 A) (F0 m 51 ls [.int (L 100)])) := by
    intro k
    induction k with
    | zero => exact ⟨fun L σ r h => (by cases h), fun L σ r h => (by cases h), fun L σ r h => (by cases h), fun L σ r h => (by cases h), fun L σ r h => (by cases h)⟩
    | succ k ih =>
      refine ⟨?_, ?_, ?_, ?_, ?_⟩
      · intro L σ r h H locs ls hP hD hS hl
        rw [x_checked] at h
        refine lv_aload_n hx hb dX12_checked_0 rfl (lv_at hl 0 rfl) ?_
        refine va_get (D := (dC, dI)) (ci := 11) (v := .int (σ.1 56)) (C := RX12) (T := TX12) (N := 121) hx hb hts in_x_checked hown hK hP 0 rfl rfl 56 (by decide) (hts _ (List.mem_cons_of_mem _ (List.mem_append_left _ (List.mem_append_left _ (List.mem_of_getElem? (i := 0) rfl))))) (fun _ h9 => h9) rfl dX12_checked_1 ?_
        refine lv_if_ne (tgt := 39) hx hb dX12_checked_4 (by decide) (fun c1 => ?_) (fun c1 => ?_)
        · rw [if_neg c1] at h
          exact ih.2.2.1 L σ r h H locs ls hP hD hS (lv_sub hl [0, 1] rfl)
        · rw [if_pos c1] at h
          refine lv_aload_n hx hb dX12_checked_7 rfl (lv_at hl 0 rfl) ?_
          refine va_get (D := (dC, dI)) (ci := 11) (v := .ref (a 28)) (C := RX12) (T := TX12) (N := 121) hx hb hts in_x_checked hown hK hP 0 rfl rfl 53 (by decide) (hts _ (List.mem_cons_of_mem _ (List.mem_append_left _ (List.mem_append_left _ (List.mem_of_getElem? (i := 1) rfl))))) (fun _ h9 => h9) rfl dX12_checked_8 ?_
          refine lv_iload_n hx hb dX12_checked_11 rfl (lv_at hl 1 rfl) ?_
          refine lv_iconst (v := 2) hx hb dX12_checked_12 (by decide) ?_
          refine lv_iadd hx hb dX12_checked_13 ?_
          by_cases q2 : ¬ (((((L 1)) + 2)) < 0 ∨ 1740000 ≤ ((((L 1)) + 2)).toNatClampNeg)
          · rw [if_pos q2] at h
            refine va_iald hx hb hK hP 28 1 rfl rfl (nb_inp q2) dX12_checked_14 ?_
            refine lv_sipush (v := 1000) hx hb dX12_checked_15 (by decide) ?_
            refine lv_icmp_gt (tgt := 34) hx hb dX12_checked_18 (by decide) (fun c3 => ?_) (fun c3 => ?_)
            · rw [if_pos c3] at h
              exact ih.2.1 L σ r h H locs ls hP hD hS (lv_sub hl [0, 1] rfl)
            · rw [if_neg c3] at h
              refine lv_aload_n hx hb dX12_checked_21 rfl (lv_at hl 0 rfl) ?_
              refine va_get (D := (dC, dI)) (ci := 11) (v := .ref (a 28)) (C := RX12) (T := TX12) (N := 121) hx hb hts in_x_checked hown hK hP 0 rfl rfl 53 (by decide) (hts _ (List.mem_cons_of_mem _ (List.mem_append_left _ (List.mem_append_left _ (List.mem_of_getElem? (i := 1) rfl))))) (fun _ h9 => h9) rfl dX12_checked_22 ?_
              refine lv_iload_n hx hb dX12_checked_25 rfl (lv_at hl 1 rfl) ?_
              refine lv_iconst (v := 3) hx hb dX12_checked_26 (by decide) ?_
              refine lv_iadd hx hb dX12_checked_27 ?_
              by_cases q4 : ¬ (((((L 1)) + 3)) < 0 ∨ 1740000 ≤ ((((L 1)) + 3)).toNatClampNeg)
              · rw [if_pos q4] at h
                refine va_iald hx hb hK hP 28 1 rfl rfl (nb_inp q4) dX12_checked_28 ?_
                refine lv_bipush (v := 30) hx hb dX12_checked_29 (by decide) ?_
                refine lv_icmp_le (tgt := 39) hx hb dX12_checked_31 (by decide) (fun c5 => ?_) (fun c5 => ?_)
                · rw [if_pos c5] at h
                  exact ih.2.2.1 L σ r h H locs ls hP hD hS (lv_sub hl [0, 1] rfl)
                · rw [if_neg c5] at h
                  exact ih.2.1 L σ r h H locs ls hP hD hS (lv_sub hl [0, 1] rfl)
              · rw [if_neg q4] at h; cases h
          · rw [if_neg q2] at h; cases h
      · intro L σ r h H locs ls hP hD hS hl
        rw [x_checked] at h
        refine lv_aload_n hx hb dX12_checked_34 rfl (lv_at hl 0 rfl) ?_
        refine lv_iconst (v := 5) hx hb dX12_checked_35 (by decide) ?_
        cases hc1 : x_fail k 0 (upd (fun _ => 0) 1 5) σ with
        | none => rw [hc1, ob_none] at h; cases h
        | some r1 =>
          rw [hc1, ob_some] at h
          have hFc := va_free (wc := vM cy a σ) hD hS hA [0, 1, 2, 3, 4, 5, 6, 7, 8, 9, 10, 11, 12, 13, 14, 15, 16, 17, 18, 19, 20, 21, 22, 23, 24, 25, 26, 27, 28, 29, 30, 31, 32, 33, 34, 35, 36, 37, 38, 39, 40, 41, 42, 43, 44, 45, 46, 47, 48, 49, 50, 51, 52, 53, 54, 55, 56, 57] rfl
          refine va_callv (va_runV (As := [.int 5]) (rest := []) ⟨hx, hb, hml, hown, hts⟩ (c_x_fail l dC dI cy a k (upd (fun _ => 0) 1 5) σ r1 hc1 H.size) (cwV 1 hts g_x_checked_fail_369 rfl rfl rfl (by decide +kernel) ⟨Nat.le_of_ble_eq_true rfl, Nat.le_of_ble_eq_true rfl⟩) ⟨nb_blind, va_recv hK hP (ci := 11) (q0 := 0) rfl rfl, fun U hU hW => ⟨rfl, by rw [hU], by rw [hU]; exact hP, va_K.moved hW.alike hK, hD.weaken (fun _ _ _ _ => trivial), hG.warm hW⟩⟩ rfl rfl hl.1 rfl (lv_room (Nat.le_of_ble_eq_true rfl)) dX12_checked_36 ⟨Nat.le_of_ble_eq_true rfl, Nat.le_of_ble_eq_true rfl⟩) hS (fun q _ h => hFc q h) hFc (fun _ t H1 locs ht hvm hw hB hz1 hk1 hS => ?_)
          obtain ⟨hP1, hK1, hD1⟩ := hB
          rw [ht] at hP1
          obtain ⟨hP, hD⟩ := va_join (wr := []) (w1 := vM cy a r1.2) hP hD [0, 1, 2, 3, 4, 5, 6, 7, 8, 9, 10, 11, 12, 13, 14, 15, 16, 17, 18, 19, 20, 21, 22, 23, 24, 25, 26, 27, 28, 29, 30, 31, 32, 33, 34, 35, 36, 37, 38, 39, 40, 41, 42, 43, 44, 45, 46, 47, 48, 49, 50, 51, 52, 53, 54, 55, 56, 57] [] rfl rfl (by decide) (by decide) hk1 hFc hP1 hD1
          generalize H1 = H at hP hS ⊢
          have hP : va_P (dC, dI) nCl (vM cy a r1.2) H := hP
          have hD : va_D A (vM cy a r1.2) := hD
          exact ih.2.2.1 L r1.2 r h H locs ls hP hD hS (lv_sub hl [0, 1] rfl)
      · intro L σ r h H locs ls hP hD hS hl
        rw [x_checked] at h
        refine lv_aload_n hx hb dX12_checked_39 rfl (lv_at hl 0 rfl) ?_
        refine va_get (D := (dC, dI)) (ci := 11) (v := .int (σ.1 56)) (C := RX12) (T := TX12) (N := 121) hx hb hts in_x_checked hown hK hP 0 rfl rfl 56 (by decide) (hts _ (List.mem_cons_of_mem _ (List.mem_append_left _ (List.mem_append_left _ (List.mem_of_getElem? (i := 0) rfl))))) (fun _ h9 => h9) rfl dX12_checked_40 ?_
        refine lv_if_ne (tgt := 50) hx hb dX12_checked_43 (by decide) (fun c1 => ?_) (fun c1 => ?_)
        · rw [if_neg c1] at h
          exact ih.2.2.2.1 L σ r h H locs ls hP hD hS (lv_sub hl [0, 1] rfl)
        · rw [if_pos c1] at h
          refine lv_iload_n hx hb dX12_checked_46 rfl (lv_at hl 1 rfl) ?_
          refine lv_goto (tgt := 51) hx hb dX12_checked_47 (by decide) ?_
          exact ih.2.2.2.2 (upd L 100 ((L 1))) σ r h H locs ls hP hD hS (lv_sub hl [0, 1] rfl)
      · intro L σ r h H locs ls hP hD hS hl
        rw [x_checked] at h
        refine lv_iconst (v := 0) hx hb dX12_checked_50 (by decide) ?_
        exact ih.2.2.2.2 (upd L 100 0) σ r h H locs ls hP hD hS (lv_sub hl [0, 1] rfl)
      · intro L σ r h H locs ls hP hD hS hl
        rw [x_checked] at h
        cases h
        exact W.iret (v := (L 100)) hx hb hr (fun t ht hW => ⟨⟨(L 100), (), rfl, rfl, by rw [ht]; exact hP, va_K.moved hW.alike hK, hD⟩, hS.F ht⟩) hS.2.2 dX12_checked_51
  exact (blk k0).1 L0 σ0 r0 h0 s.heap [] ls hP hD hS hl
/-! byteString -/
def x_byteString : Nat → Nat → (Nat → Int32) → MS → Option (Int32 × MS)
  | 0, _, _, _ => none
  | k + 1, 0, L, σ => ob (x_make k 0 (upd (upd (fun _ => 0) 1 4) 2 1) σ) (fun r1 => if ((r1.2.1 56)) ≤ 0 then (x_byteString k 1 (upd L 2 r1.1) r1.2) else (some (0, r1.2)))
  | k + 1, 1, L, σ => if ¬ (((((L 2)) + 4)) < 0 ∨ 1740000 ≤ ((((L 2)) + 4)).toNatClampNeg) then (x_byteString k 2 L (σ.1, σ.2.1, updG σ.2.2 28 (upd (σ.2.2 28) ((((L 2)) + 4)).toNatClampNeg ((L 1))))) else none
  | k + 1, 2, L, σ => if ¬ (((((L 2)) + 2)) < 0 ∨ 1740000 ≤ ((((L 2)) + 2)).toNatClampNeg) then (x_byteString k 3 L (σ.1, σ.2.1, updG σ.2.2 28 (upd (σ.2.2 28) ((((L 2)) + 2)).toNatClampNeg 2))) else none
  | k + 1, 3, L, σ => some ((L 2), σ)
  | _ + 1, _ + 4, _, _ => none
def o_x_byteString : List Cond := [.methodLink RX12 429 yX12_make, .instanceMethod yX12_make, .selects RX12 yX12_make yX12_make, .initialized RX12, .fieldLink RX12 362 "SetHouseModel" "err" "I", .fieldLink RX12 372 "SetHouseModel" "heap" "[I"]
theorem o_x_byteString_good : o_x_byteString.all goodWord = true := by decide +kernel
def p_x_byteString : List Cond := o_x_byteString ++ ((.code yX12_make cX12_make 4 (some .int) :: p_x_make) ++ [])
theorem p_x_byteString_good : p_x_byteString.all goodWord = true := nb_all2 o_x_byteString_good (nb_all2 (nb_allc (by decide +kernel) p_x_make_good) rfl)
def w_x_byteString : List Cond := .code yX12_byteString cX12_byteString 3 (some .int) :: (p_x_byteString ++ fM)
theorem w_x_byteString_good : w_x_byteString.all goodWord = true := nb_allc (by decide +kernel) (nb_all2 p_x_byteString_good fM_good)
theorem in_x_byteString : ∀ w ∈ wsX120, w ∈ w_x_byteString := fun _ h => List.mem_cons_of_mem _ (List.mem_append_right _ h)
theorem gg_x_byteString_make : GoodIn w_x_byteString w_x_make := goodIn_sub (fun w h => (List.mem_cons.mp h).elim (fun e => (List.mem_cons_of_mem _ (List.mem_append_left _ (List.mem_append_right _ (List.mem_append_left _ (List.mem_cons.mpr (Or.inl e))))))) (fun h => (List.mem_append.mp h).elim (fun h => (List.mem_cons_of_mem _ (List.mem_append_left _ (List.mem_append_right _ (List.mem_append_left _ (List.mem_cons_of_mem _ h)))))) (fun h => List.mem_cons_of_mem _ (List.mem_append_right _ h)))) w_x_make_good
theorem g_x_byteString_make_429 : GoodIn w_x_byteString (wsV RX12 429 RX12 yX12_make w_x_make) := goodIn_app (nb_g4 (List.mem_cons_of_mem _ (List.mem_append_left _ (List.mem_append_left _ (List.mem_of_getElem? (i := 0) rfl)))) (List.mem_cons_of_mem _ (List.mem_append_left _ (List.mem_append_left _ (List.mem_of_getElem? (i := 1) rfl)))) (List.mem_cons_of_mem _ (List.mem_append_left _ (List.mem_append_left _ (List.mem_of_getElem? (i := 2) rfl)))) (List.mem_cons_of_mem _ (List.mem_append_left _ (List.mem_append_left _ (List.mem_of_getElem? (i := 3) rfl)))) (by decide +kernel)) gg_x_byteString_make
set_option maxHeartbeats 40000000 in
set_option maxRecDepth 100000 in
theorem c_x_byteString (l : Launch) (dC : Nat → ClassId) (dI : Nat → Nat → Nat) (cy : Nat → ClassId) (a : Nat → Nat) (k0 : Nat) (L0 : Nat → Int32) (σ0 : MS) (r0 : Int32 × MS) (h0 : x_byteString k0 0 L0 σ0 = some r0) (sz : Nat) : Met l yX12_byteString w_x_byteString ({ frames := 2, cells := 0, slots := 0, locals := 44 }) (va_Pc [.ref (a 0), .int (L0 1)] (nIn (dC, dI) cy sz (vM cy a σ0))) (va_Qi (fun (z : Int32) (_ : Unit) => z = r0.1) (fun _ t => nOut (dC, dI) cy (va_A (vM cy a σ0) sz) (vM cy a r0.2) t) (va_A (vM cy a σ0) sz)) 0 0 (va_A (vM cy a σ0) sz) := by
  refine Met.ofW (cc := cX12_byteString) (maxL := 3) (ret := (some .int)) (by decide) rfl ?_
  intro p e s m args below meth c s₁ B hml hv
  obtain ⟨rfl, hsz, hP, hK, hD0, hG⟩ := hv
  have hx := B.exec
  have hb := B.bytes
  have hr := B.returns
  have hts := atoms_spec (ws := w_x_byteString) B.pre
  have hown : s.vm.findClass RX12 = some m.cls := findClass_of_methodNamed B.named
  have hlocks := B.notSynchronized
  subst hsz
  have hD := hD0.self (sz := s.heap.size)
  generalize hAe : va_A (vM cy a σ0) s.heap.size = A at hD ⊢
  have hA : ∀ q : Nat, s.heap.size ≤ q → A q := fun q h => by rw [← hAe]; exact Or.inr h
  have hS : va_S A s.heap s.heap [] := va_S.rf
  have hl := lv_entry ([.ref (a 0), .int (L0 1)]) (n := 3) (Nat.le_of_ble_eq_true rfl)
  rw [lg_entry_eq]
  generalize (lg_sl ([.ref (a 0), .int (L0 1)]) ++ List.replicate (3 - (lg_sl ([.ref (a 0), .int (L0 1)])).length) Slot.unset).toArray = ls at hl ⊢
  have hl : lv_has ls 3 [(0, .ref (a 0)), (1, .int (L0 1))] := hl
  have blk : ∀ k : Nat, (∀ (L : Nat → Int32) (σ : MS) (r : Int32 × MS), x_byteString k 0 L σ = some r → ∀ (H : Heap) (locs : List Loc) (ls : Array Slot), va_P (dC, dI) nCl (vM cy a σ) H → va_D A (vM cy a σ) → va_S A s.heap H locs → lv_has ls 3 [(0, .ref (a 0)), (1, .int (L 1))] → W p l e (headSpec w_x_byteString ({ frames := 2, cells := 0, slots := 0, locals := 44 })).room s m #[.ref (a 0), .int (L0 1)] below meth c H locs 0 0 (MQ below (va_Qi (fun (z : Int32) (_ : Unit) => z = r.1) (fun _ t => nOut (dC, dI) cy A (vM cy a r.2) t) A) #[.ref (a 0), .int (L0 1)] s 0 0 A) (F0 m 0 ls [])) ∧ (∀ (L : Nat → Int32) (σ : MS) (r : Int32 × MS), x_byteString k 1 L σ = some r → ∀ (H : Heap) (locs : List Loc) (ls : Array Slot), va_P (dC, dI) nCl (vM cy a σ) H → va_D A (vM cy a σ) → va_S A s.heap H locs → lv_has ls 3 [(0, .ref (a 0)), (1, .int (L 1)), (2, .int (L 2))] → W p l e (headSpec w_x_byteString ({ frames := 2, cells := 0, slots := 0, locals := 44 })).room s m #[.ref (a 0), .int (L0 1)] below meth c H locs 0 0 (MQ below (va_Qi (fun (z : Int32) (_ : Unit) => z = r.1) (fun _ t => nOut (dC, dI) cy A (vM cy a r.2) t) A) #[.ref (a 0), .int (L0 1)] s 0 0 A) (F0 m 16 ls [])) ∧ (∀ (L : Nat → Int32) (σ : MS) (r : Int32 × MS), x_byteString k 2 L σ = some r → ∀ (H : Heap) (locs : List Loc) (ls : Array Slot), va_P (dC, dI) nCl (vM cy a σ) H → va_D A (vM cy a σ) → va_S A s.heap H locs → lv_has ls 3 [(0, .ref (a 0)), (1, .int (L 1)), (2, .int (L 2))] → W p l e (headSpec w_x_byteString ({ frames := 2, cells := 0, slots := 0, locals := 44 })).room s m #[.ref (a 0), .int (L0 1)] below meth c H locs 0 0 (MQ below (va_Qi (fun (z : Int32) (_ : Unit) => z = r.1) (fun _ t => nOut (dC, dI) cy A (vM cy a r.2) t) A) #[.ref (a 0), .int (L0 1)] s 0 0 A) (F0 m 25 ls [])) ∧ (∀ (L : Nat → Int32) (σ : MS) (r : Int32 × MS), x_byteString k 3 L σ = some r → ∀ (H : Heap) (locs : List Loc) (ls : Array Slot), va_P (dC, dI) nCl (vM cy a σ) H → va_D A (vM cy a σ) → va_S A s.heap H locs → lv_has ls 3 [(0, .ref (a 0)), (1, .int (L 1)), (2, .int (L 2))] → W p l e (headSpec w_x_byteString ({ frames := 2, cells := 0, slots := 0, locals := 44 })).room s m #[.ref (a 0), .int (L0 1)] below meth c H locs 0 0 (MQ below (va_Qi (fun (z : Int32) (_ : Unit) => z = r.1) (fun _ t => nOut (dC, dI) cy A (vM cy a r.2) t) A) #[.ref (a 0), .int (L0 1)] s 0 0 A) (F0 m 34 ls [])) := by
    intro k
    induction k with
    | zero => exact ⟨fun L σ r h => (by cases h), fun L σ r h => (by cases h), fun L σ r h => (by cases h), fun L σ r h => (by cases h)⟩
    | succ k ih =>
      refine ⟨?_, ?_, ?_, ?_⟩
      · intro L σ r h H locs ls hP hD hS hl
        rw [x_byteString] at h
        refine lv_aload_n hx hb dX12_byteString_0 rfl (lv_at hl 0 rfl) ?_
        refine lv_iconst (v := 4) hx hb dX12_byteString_1 (by decide) ?_
        refine lv_iconst (v := 1) hx hb dX12_byteString_2 (by decide) ?_
        cases hc1 : x_make k 0 (upd (upd (fun _ => 0) 1 4) 2 1) σ with
        | none => rw [hc1, ob_none] at h; cases h
        | some r1 =>
          rw [hc1, ob_some] at h
          have hFc := va_free (wc := vM cy a σ) hD hS hA [0, 1, 2, 3, 4, 5, 6, 7, 8, 9, 10, 11, 12, 13, 14, 15, 16, 17, 18, 19, 20, 21, 22, 23, 24, 25, 26, 27, 28, 29, 30, 31, 32, 33, 34, 35, 36, 37, 38, 39, 40, 41, 42, 43, 44, 45, 46, 47, 48, 49, 50, 51, 52, 53, 54, 55, 56, 57] rfl
          refine va_calli (va_runV (As := [.int 4, .int 1]) (rest := []) ⟨hx, hb, hml, hown, hts⟩ (c_x_make l dC dI cy a k (upd (upd (fun _ => 0) 1 4) 2 1) σ r1 hc1 H.size) (cwV 2 hts g_x_byteString_make_429 rfl rfl rfl (by decide +kernel) ⟨Nat.le_of_ble_eq_true rfl, Nat.le_of_ble_eq_true rfl⟩) ⟨nb_blind, va_recv hK hP (ci := 11) (q0 := 0) rfl rfl, fun U hU hW => ⟨rfl, by rw [hU], by rw [hU]; exact hP, va_K.moved hW.alike hK, hD.weaken (fun _ _ _ _ => trivial), hG.warm hW⟩⟩ rfl rfl hl.1 rfl (lv_room (Nat.le_of_ble_eq_true rfl)) dX12_byteString_3 ⟨Nat.le_of_ble_eq_true rfl, Nat.le_of_ble_eq_true rfl⟩) hS (fun q _ h => hFc q h) hFc (fun z9 _ t H1 locs ht hvm hw hB hz1 hk1 hS => ?_)
          subst hw
          obtain ⟨hP1, hK1, hD1⟩ := hB
          rw [ht] at hP1
          obtain ⟨hP, hD⟩ := va_join (wr := []) (w1 := vM cy a r1.2) hP hD [0, 1, 2, 3, 4, 5, 6, 7, 8, 9, 10, 11, 12, 13, 14, 15, 16, 17, 18, 19, 20, 21, 22, 23, 24, 25, 26, 27, 28, 29, 30, 31, 32, 33, 34, 35, 36, 37, 38, 39, 40, 41, 42, 43, 44, 45, 46, 47, 48, 49, 50, 51, 52, 53, 54, 55, 56, 57] [] rfl rfl (by decide) (by decide) hk1 hFc hP1 hD1
          generalize H1 = H at hP hS ⊢
          have hP : va_P (dC, dI) nCl (vM cy a r1.2) H := hP
          have hD : va_D A (vM cy a r1.2) := hD
          refine lv_istore_n (lv' := [(2, .int r1.1), (0, .ref (a 0)), (1, .int (L 1))]) hx hb dX12_byteString_6 rfl hl (by decide) rfl (fun ls hl => ?_)
          refine lv_aload_n hx hb dX12_byteString_7 rfl (lv_at hl 1 rfl) ?_
          refine va_get (D := (dC, dI)) (ci := 11) (v := .int (r1.2.1 56)) (C := RX12) (T := TX12) (N := 121) hx hb hts in_x_byteString hown hK hP 0 rfl rfl 56 (by decide) (hts _ (List.mem_cons_of_mem _ (List.mem_append_left _ (List.mem_append_left _ (List.mem_of_getElem? (i := 4) rfl))))) (fun _ h9 => h9) rfl dX12_byteString_8 ?_
          refine lv_if_le (tgt := 16) hx hb dX12_byteString_11 (by decide) (fun c2 => ?_) (fun c2 => ?_)
          · rw [if_pos c2] at h
            exact ih.2.1 (upd L 2 r1.1) r1.2 r h H locs ls hP hD hS (lv_sub hl [1, 2, 0] rfl)
          · rw [if_neg c2] at h
            refine lv_iconst (v := 0) hx hb dX12_byteString_14 (by decide) ?_
            cases h
            exact W.iret (v := 0) hx hb hr (fun t ht hW => ⟨⟨0, (), rfl, rfl, by rw [ht]; exact hP, va_K.moved hW.alike hK, hD⟩, hS.F ht⟩) hS.2.2 dX12_byteString_15
      · intro L σ r h H locs ls hP hD hS hl
        rw [x_byteString] at h
        refine lv_aload_n hx hb dX12_byteString_16 rfl (lv_at hl 0 rfl) ?_
        refine va_get (D := (dC, dI)) (ci := 11) (v := .ref (a 28)) (C := RX12) (T := TX12) (N := 121) hx hb hts in_x_byteString hown hK hP 0 rfl rfl 53 (by decide) (hts _ (List.mem_cons_of_mem _ (List.mem_append_left _ (List.mem_append_left _ (List.mem_of_getElem? (i := 5) rfl))))) (fun _ h9 => h9) rfl dX12_byteString_17 ?_
        refine lv_iload_n hx hb dX12_byteString_20 rfl (lv_at hl 2 rfl) ?_
        refine lv_iconst (v := 4) hx hb dX12_byteString_21 (by decide) ?_
        refine lv_iadd hx hb dX12_byteString_22 ?_
        refine lv_iload_n hx hb dX12_byteString_23 rfl (lv_at hl 1 rfl) ?_
        by_cases q1 : ¬ (((((L 2)) + 4)) < 0 ∨ 1740000 ≤ ((((L 2)) + 4)).toNatClampNeg)
        · rw [if_pos q1] at h
          refine va_iast hx hb hK hP hD hS 28 1 rfl rfl (nb_inp q1) dX12_byteString_24 (fun H locs hP hD hS => ?_)
          have hP : va_P (dC, dI) nCl (vM cy a (σ.1, σ.2.1, updG σ.2.2 28 (upd (σ.2.2 28) ((((L 2)) + 4)).toNatClampNeg ((L 1))))) H := hP
          have hD : va_D A (vM cy a (σ.1, σ.2.1, updG σ.2.2 28 (upd (σ.2.2 28) ((((L 2)) + 4)).toNatClampNeg ((L 1))))) := hD
          exact ih.2.2.1 L (σ.1, σ.2.1, updG σ.2.2 28 (upd (σ.2.2 28) ((((L 2)) + 4)).toNatClampNeg ((L 1)))) r h H locs ls hP hD hS (lv_sub hl [0, 1, 2] rfl)
        · rw [if_neg q1] at h; cases h
      · intro L σ r h H locs ls hP hD hS hl
        rw [x_byteString] at h
        refine lv_aload_n hx hb dX12_byteString_25 rfl (lv_at hl 0 rfl) ?_
        refine va_get (D := (dC, dI)) (ci := 11) (v := .ref (a 28)) (C := RX12) (T := TX12) (N := 121) hx hb hts in_x_byteString hown hK hP 0 rfl rfl 53 (by decide) (hts _ (List.mem_cons_of_mem _ (List.mem_append_left _ (List.mem_append_left _ (List.mem_of_getElem? (i := 5) rfl))))) (fun _ h9 => h9) rfl dX12_byteString_26 ?_
        refine lv_iload_n hx hb dX12_byteString_29 rfl (lv_at hl 2 rfl) ?_
        refine lv_iconst (v := 2) hx hb dX12_byteString_30 (by decide) ?_
        refine lv_iadd hx hb dX12_byteString_31 ?_
        refine lv_iconst (v := 2) hx hb dX12_byteString_32 (by decide) ?_
        by_cases q1 : ¬ (((((L 2)) + 2)) < 0 ∨ 1740000 ≤ ((((L 2)) + 2)).toNatClampNeg)
        · rw [if_pos q1] at h
          refine va_iast hx hb hK hP hD hS 28 1 rfl rfl (nb_inp q1) dX12_byteString_33 (fun H locs hP hD hS => ?_)
          have hP : va_P (dC, dI) nCl (vM cy a (σ.1, σ.2.1, updG σ.2.2 28 (upd (σ.2.2 28) ((((L 2)) + 2)).toNatClampNeg 2))) H := hP
          have hD : va_D A (vM cy a (σ.1, σ.2.1, updG σ.2.2 28 (upd (σ.2.2 28) ((((L 2)) + 2)).toNatClampNeg 2))) := hD
          exact ih.2.2.2 L (σ.1, σ.2.1, updG σ.2.2 28 (upd (σ.2.2 28) ((((L 2)) + 2)).toNatClampNeg 2)) r h H locs ls hP hD hS (lv_sub hl [0, 1, 2] rfl)
        · rw [if_neg q1] at h; cases h
      · intro L σ r h H locs ls hP hD hS hl
        rw [x_byteString] at h
        refine lv_iload_n hx hb dX12_byteString_34 rfl (lv_at hl 2 rfl) ?_
        cases h
        exact W.iret (v := (L 2)) hx hb hr (fun t ht hW => ⟨⟨(L 2), (), rfl, rfl, by rw [ht]; exact hP, va_K.moved hW.alike hK, hD⟩, hS.F ht⟩) hS.2.2 dX12_byteString_35
  exact (blk k0).1 L0 σ0 r0 h0 s.heap [] ls hP hD hS hl
/-! measured -/
def x_measured : Nat → Nat → (Nat → Int32) → MS → Option (Int32 × MS)
  | 0, _, _, _ => none
  | k + 1, 0, L, σ => if ¬ (((((L 1)) + 1)) < 0 ∨ 1740000 ≤ ((((L 1)) + 1)).toNatClampNeg) then (x_measured k 1 (upd (upd (upd (upd L 2 1) 3 0) 4 ((σ.2.2 28 ((((L 1)) + 1)).toNatClampNeg))) 5 0) σ) else none
  | k + 1, 1, L, σ => if ((L 4)) ≤ ((L 5)) then (x_measured k 4 L σ) else (if ¬ (((((((L 1)) + 4)) + ((L 5)))) < 0 ∨ 1740000 ≤ ((((((L 1)) + 4)) + ((L 5)))).toNatClampNeg) then (ob (x_size k 0 (upd (fun _ => 0) 1 ((σ.2.2 28 ((((((L 1)) + 4)) + ((L 5)))).toNatClampNeg))) σ) (fun r3 => ob (x_height k 0 (upd (fun _ => 0) 1 ((σ.2.2 28 ((((((L 1)) + 4)) + ((L 5)))).toNatClampNeg))) r3.2) (fun r4 => if r4.1 ≤ ((L 3)) then (x_measured k 2 (upd (upd L 6 ((σ.2.2 28 ((((((L 1)) + 4)) + ((L 5)))).toNatClampNeg))) 2 ((((L 2)) + r3.1))) r4.2) else (ob (x_height k 0 (upd (fun _ => 0) 1 ((σ.2.2 28 ((((((L 1)) + 4)) + ((L 5)))).toNatClampNeg))) r4.2) (fun r6 => x_measured k 3 (upd (upd (upd L 6 ((σ.2.2 28 ((((((L 1)) + 4)) + ((L 5)))).toNatClampNeg))) 2 ((((L 2)) + r3.1))) 100 r6.1) r6.2))))) else none)
  | k + 1, 2, L, σ => x_measured k 3 (upd L 100 ((L 3))) σ
  | k + 1, 3, L, σ => x_measured k 1 (upd (upd L 3 ((L 100))) 5 (((L 5)) + 1)) σ
  | k + 1, 4, L, σ => if ¬ (((((L 1)) + 2)) < 0 ∨ 1740000 ≤ ((((L 1)) + 2)).toNatClampNeg) then (x_measured k 5 L (σ.1, σ.2.1, updG σ.2.2 28 (upd (σ.2.2 28) ((((L 1)) + 2)).toNatClampNeg ((L 2))))) else none
  | k + 1, 5, L, σ => if ¬ (((((L 1)) + 3)) < 0 ∨ 1740000 ≤ ((((L 1)) + 3)).toNatClampNeg) then (x_measured k 6 L (σ.1, σ.2.1, updG σ.2.2 28 (upd (σ.2.2 28) ((((L 1)) + 3)).toNatClampNeg ((((L 3)) + 1))))) else none
  | k + 1, 6, L, σ => ob (x_checked k 0 (upd (fun _ => 0) 1 ((L 1))) σ) (fun r1 => some (r1.1, r1.2))
  | _ + 1, _ + 7, _, _ => none
def o_x_measured : List Cond := [.fieldLink RX12 372 "SetHouseModel" "heap" "[I", .methodLink RX12 432 yX12_size, .instanceMethod yX12_size, .selects RX12 yX12_size yX12_size, .initialized RX12, .methodLink RX12 435 yX12_height, .instanceMethod yX12_height, .selects RX12 yX12_height yX12_height, .methodLink RX12 438 yX12_checked, .instanceMethod yX12_checked, .selects RX12 yX12_checked yX12_checked]
theorem o_x_measured_good : o_x_measured.all goodWord = true := by decide +kernel
def p_x_measured : List Cond := o_x_measured ++ ((.code yX12_size cX12_size 2 (some .int) :: p_x_size) ++ ((.code yX12_height cX12_height 2 (some .int) :: p_x_height) ++ ((.code yX12_checked cX12_checked 2 (some .int) :: p_x_checked) ++ [])))
theorem p_x_measured_good : p_x_measured.all goodWord = true := nb_all2 o_x_measured_good (nb_all2 (nb_allc (by decide +kernel) p_x_size_good) (nb_all2 (nb_allc (by decide +kernel) p_x_height_good) (nb_all2 (nb_allc (by decide +kernel) p_x_checked_good) rfl)))
def w_x_measured : List Cond := .code yX12_measured cX12_measured 7 (some .int) :: (p_x_measured ++ fM)
theorem w_x_measured_good : w_x_measured.all goodWord = true := nb_allc (by decide +kernel) (nb_all2 p_x_measured_good fM_good)
theorem in_x_measured : ∀ w ∈ wsX120, w ∈ w_x_measured := fun _ h => List.mem_cons_of_mem _ (List.mem_append_right _ h)
theorem gg_x_measured_size : GoodIn w_x_measured w_x_size := goodIn_sub (fun w h => (List.mem_cons.mp h).elim (fun e => (List.mem_cons_of_mem _ (List.mem_append_left _ (List.mem_append_right _ (List.mem_append_left _ (List.mem_cons.mpr (Or.inl e))))))) (fun h => (List.mem_append.mp h).elim (fun h => (List.mem_cons_of_mem _ (List.mem_append_left _ (List.mem_append_right _ (List.mem_append_left _ (List.mem_cons_of_mem _ h)))))) (fun h => List.mem_cons_of_mem _ (List.mem_append_right _ h)))) w_x_size_good
theorem gg_x_measured_height : GoodIn w_x_measured w_x_height := goodIn_sub (fun w h => (List.mem_cons.mp h).elim (fun e => (List.mem_cons_of_mem _ (List.mem_append_left _ (List.mem_append_right _ (List.mem_append_right _ (List.mem_append_left _ (List.mem_cons.mpr (Or.inl e)))))))) (fun h => (List.mem_append.mp h).elim (fun h => (List.mem_cons_of_mem _ (List.mem_append_left _ (List.mem_append_right _ (List.mem_append_right _ (List.mem_append_left _ (List.mem_cons_of_mem _ h))))))) (fun h => List.mem_cons_of_mem _ (List.mem_append_right _ h)))) w_x_height_good
theorem gg_x_measured_checked : GoodIn w_x_measured w_x_checked := goodIn_sub (fun w h => (List.mem_cons.mp h).elim (fun e => (List.mem_cons_of_mem _ (List.mem_append_left _ (List.mem_append_right _ (List.mem_append_right _ (List.mem_append_right _ (List.mem_append_left _ (List.mem_cons.mpr (Or.inl e))))))))) (fun h => (List.mem_append.mp h).elim (fun h => (List.mem_cons_of_mem _ (List.mem_append_left _ (List.mem_append_right _ (List.mem_append_right _ (List.mem_append_right _ (List.mem_append_left _ (List.mem_cons_of_mem _ h)))))))) (fun h => List.mem_cons_of_mem _ (List.mem_append_right _ h)))) w_x_checked_good
theorem g_x_measured_checked_438 : GoodIn w_x_measured (wsV RX12 438 RX12 yX12_checked w_x_checked) := goodIn_app (nb_g4 (List.mem_cons_of_mem _ (List.mem_append_left _ (List.mem_append_left _ (List.mem_of_getElem? (i := 8) rfl)))) (List.mem_cons_of_mem _ (List.mem_append_left _ (List.mem_append_left _ (List.mem_of_getElem? (i := 9) rfl)))) (List.mem_cons_of_mem _ (List.mem_append_left _ (List.mem_append_left _ (List.mem_of_getElem? (i := 10) rfl)))) (List.mem_cons_of_mem _ (List.mem_append_left _ (List.mem_append_left _ (List.mem_of_getElem? (i := 4) rfl)))) (by decide +kernel)) gg_x_measured_checked
theorem g_x_measured_height_435 : GoodIn w_x_measured (wsV RX12 435 RX12 yX12_height w_x_height) := goodIn_app (nb_g4 (List.mem_cons_of_mem _ (List.mem_append_left _ (List.mem_append_left _ (List.mem_of_getElem? (i := 5) rfl)))) (List.mem_cons_of_mem _ (List.mem_append_left _ (List.mem_append_left _ (List.mem_of_getElem? (i := 6) rfl)))) (List.mem_cons_of_mem _ (List.mem_append_left _ (List.mem_append_left _ (List.mem_of_getElem? (i := 7) rfl)))) (List.mem_cons_of_mem _ (List.mem_append_left _ (List.mem_append_left _ (List.mem_of_getElem? (i := 4) rfl)))) (by decide +kernel)) gg_x_measured_height
theorem g_x_measured_size_432 : GoodIn w_x_measured (wsV RX12 432 RX12 yX12_size w_x_size) := goodIn_app (nb_g4 (List.mem_cons_of_mem _ (List.mem_append_left _ (List.mem_append_left _ (List.mem_of_getElem? (i := 1) rfl)))) (List.mem_cons_of_mem _ (List.mem_append_left _ (List.mem_append_left _ (List.mem_of_getElem? (i := 2) rfl)))) (List.mem_cons_of_mem _ (List.mem_append_left _ (List.mem_append_left _ (List.mem_of_getElem? (i := 3) rfl)))) (List.mem_cons_of_mem _ (List.mem_append_left _ (List.mem_append_left _ (List.mem_of_getElem? (i := 4) rfl)))) (by decide +kernel)) gg_x_measured_size
set_option maxHeartbeats 40000000 in
set_option maxRecDepth 100000 in
theorem c_x_measured (l : Launch) (dC : Nat → ClassId) (dI : Nat → Nat → Nat) (cy : Nat → ClassId) (a : Nat → Nat) (k0 : Nat) (L0 : Nat → Int32) (σ0 : MS) (r0 : Int32 × MS) (h0 : x_measured k0 0 L0 σ0 = some r0) (sz : Nat) : Met l yX12_measured w_x_measured ({ frames := 2, cells := 0, slots := 0, locals := 42 }) (va_Pc [.ref (a 0), .int (L0 1)] (nIn (dC, dI) cy sz (vM cy a σ0))) (va_Qi (fun (z : Int32) (_ : Unit) => z = r0.1) (fun _ t => nOut (dC, dI) cy (va_A (vM cy a σ0) sz) (vM cy a r0.2) t) (va_A (vM cy a σ0) sz)) 0 0 (va_A (vM cy a σ0) sz) := by
  refine Met.ofW (cc := cX12_measured) (maxL := 7) (ret := (some .int)) (by decide) rfl ?_
  intro p e s m args below meth c s₁ B hml hv
  obtain ⟨rfl, hsz, hP, hK, hD0, hG⟩ := hv
  have hx := B.exec
  have hb := B.bytes
  have hr := B.returns
  have hts := atoms_spec (ws := w_x_measured) B.pre
  have hown : s.vm.findClass RX12 = some m.cls := findClass_of_methodNamed B.named
  have hlocks := B.notSynchronized
  subst hsz
  have hD := hD0.self (sz := s.heap.size)
  generalize hAe : va_A (vM cy a σ0) s.heap.size = A at hD ⊢
  have hA : ∀ q : Nat, s.heap.size ≤ q → A q := fun q h => by rw [← hAe]; exact Or.inr h
  have hS : va_S A s.heap s.heap [] := va_S.rf
  have hl := lv_entry ([.ref (a 0), .int (L0 1)]) (n := 7) (Nat.le_of_ble_eq_true rfl)
  rw [lg_entry_eq]
  generalize (lg_sl ([.ref (a 0), .int (L0 1)]) ++ List.replicate (7 - (lg_sl ([.ref (a 0), .int (L0 1)])).length) Slot.unset).toArray = ls at hl ⊢
  have hl : lv_has ls 7 [(0, .ref (a 0)), (1, .int (L0 1))] := hl
  have blk : ∀ k : Nat, (∀ (L : Nat → Int32) (σ : MS) (r : Int32 × MS), x_measured k 0 L σ = some r → ∀ (H : Heap) (locs : List Loc) (ls : Array Slot), va_P (dC, dI) nCl (vM cy a σ) H → va_D A (vM cy a σ) → va_S A s.heap H locs → lv_has ls 7 [(0, .ref (a 0)), (1, .int (L 1))] → W p l e (headSpec w_x_measured ({ frames := 2, cells := 0, slots := 0, locals := 42 })).room s m #[.ref (a 0), .int (L0 1)] below meth c H locs 0 0 (MQ below (va_Qi (fun (z : Int32) (_ : Unit) => z = r.1) (fun _ t => nOut (dC, dI) cy A (vM cy a r.2) t) A) #[.ref (a 0), .int (L0 1)] s 0 0 A) (F0 m 0 ls [])) ∧ (∀ (L : Nat → Int32) (σ : MS) (r : Int32 × MS), x_measured k 1 L σ = some r → ∀ (H : Heap) (locs : List Loc) (ls : Array Slot), va_P (dC, dI) nCl (vM cy a σ) H → va_D A (vM cy a σ) → va_S A s.heap H locs → lv_has ls 7 [(0, .ref (a 0)), (1, .int (L 1)), (2, .int (L 2)), (3, .int (L 3)), (4, .int (L 4)), (5, .int (L 5))] → W p l e (headSpec w_x_measured ({ frames := 2, cells := 0, slots := 0, locals := 42 })).room s m #[.ref (a 0), .int (L0 1)] below meth c H locs 0 0 (MQ below (va_Qi (fun (z : Int32) (_ : Unit) => z = r.1) (fun _ t => nOut (dC, dI) cy A (vM cy a r.2) t) A) #[.ref (a 0), .int (L0 1)] s 0 0 A) (F0 m 17 ls [])) ∧ (∀ (L : Nat → Int32) (σ : MS) (r : Int32 × MS), x_measured k 2 L σ = some r → ∀ (H : Heap) (locs : List Loc) (ls : Array Slot), va_P (dC, dI) nCl (vM cy a σ) H → va_D A (vM cy a σ) → va_S A s.heap H locs → lv_has ls 7 [(0, .ref (a 0)), (1, .int (L 1)), (2, .int (L 2)), (3, .int (L 3)), (4, .int (L 4)), (5, .int (L 5)), (6, .int (L 6))] → W p l e (headSpec w_x_measured ({ frames := 2, cells := 0, slots := 0, locals := 42 })).room s m #[.ref (a 0), .int (L0 1)] below meth c H locs 0 0 (MQ below (va_Qi (fun (z : Int32) (_ : Unit) => z = r.1) (fun _ t => nOut (dC, dI) cy A (vM cy a r.2) t) A) #[.ref (a 0), .int (L0 1)] s 0 0 A) (F0 m 65 ls [])) ∧ (∀ (L : Nat → Int32) (σ : MS) (r : Int32 × MS), x_measured k 3 L σ = some r → ∀ (H : Heap) (locs : List Loc) (ls : Array Slot), va_P (dC, dI) nCl (vM cy a σ) H → va_D A (vM cy a σ) → va_S A s.heap H locs → lv_has ls 7 [(0, .ref (a 0)), (1, .int (L 1)), (2, .int (L 2)), (3, .int (L 3)), (4, .int (L 4)), (5, .int (L 5)), (6, .int (L 6))] → W p l e (headSpec w_x_measured ({ frames := 2, cells := 0, slots := 0, locals := 42 })).room s m #[.ref (a 0), .int (L0 1)] below meth c H locs 0 0 (MQ below (va_Qi (fun (z : Int32) (_ : Unit) => z = r.1) (fun _ t => nOut (dC, dI) cy A (vM cy a r.2) t) A) #[.ref (a 0), .int (L0 1)] s 0 0 A) (F0 m 66 ls [.int (L 100)])) ∧ (∀ (L : Nat → Int32) (σ : MS) (r : Int32 × MS), x_measured k 4 L σ = some r → ∀ (H : Heap) (locs : List Loc) (ls : Array Slot), va_P (dC, dI) nCl (vM cy a σ) H → va_D A (vM cy a σ) → va_S A s.heap H locs → lv_has ls 7 [(0, .ref (a 0)), (1, .int (L 1)), (2, .int (L 2)), (3, .int (L 3)), (4, .int (L 4)), (5, .int (L 5))] → W p l e (headSpec w_x_measured ({ frames := 2, cells := 0, slots := 0, locals := 42 })).room s m #[.ref (a 0), .int (L0 1)] below meth c H locs 0 0 (MQ below (va_Qi (fun (z : Int32) (_ : Unit) => z = r.1) (fun _ t => nOut (dC, dI) cy A (vM cy a r.2) t) A) #[.ref (a 0), .int (L0 1)] s 0 0 A) (F0 m 73 ls [])) ∧ (∀ (L : Nat → Int32) (σ : MS) (r : Int32 × MS), x_measured k 5 L σ = some r → ∀ (H : Heap) (locs : List Loc) (ls : Array Slot), va_P (dC, dI) nCl (vM cy a σ) H → va_D A (vM cy a σ) → va_S A s.heap H locs → lv_has ls 7 [(0, .ref (a 0)), (1, .int (L 1)), (2, .int (L 2)), (3, .int (L 3)), (4, .int (L 4)), (5, .int (L 5))] → W p l e (headSpec w_x_measured ({ frames := 2, cells := 0, slots := 0, locals := 42 })).room s m #[.ref (a 0), .int (L0 1)] below meth c H locs 0 0 (MQ below (va_Qi (fun (z : Int32) (_ : Unit) => z = r.1) (fun _ t => nOut (dC, dI) cy A (vM cy a r.2) t) A) #[.ref (a 0), .int (L0 1)] s 0 0 A) (F0 m 82 ls [])) ∧ (∀ (L : Nat → Int32) (σ : MS) (r : Int32 × MS), x_measured k 6 L σ = some r → ∀ (H : Heap) (locs : List Loc) (ls : Array Slot), va_P (dC, dI) nCl (vM cy a σ) H → va_D A (vM cy a σ) → va_S A s.heap H locs → lv_has ls 7 [(0, .ref (a 0)), (1, .int (L 1)), (2, .int (L 2)), (3, .int (L 3)), (4, .int (L 4)), (5, .int (L 5))] → W p l e (headSpec w_x_measured ({ frames := 2, cells := 0, slots := 0, locals := 42 })).room s m #[.ref (a 0), .int (L0 1)] below meth c H locs 0 0 (MQ below (va_Qi (fun (z : Int32) (_ : Unit) => z = r.1) (fun _ t => nOut (dC, dI) cy A (vM cy a r.2) t) A) #[.ref (a 0), .int (L0 1)] s 0 0 A) (F0 m 93 ls [])) := by
    intro k
    induction k with
    | zero => exact ⟨fun L σ r h => (by cases h), fun L σ r h => (by cases h), fun L σ r h => (by cases h), fun L σ r h => (by cases h), fun L σ r h => (by cases h), fun L σ r h => (by cases h), fun L σ r h => (by cases h)⟩
    | succ k ih =>
      refine ⟨?_, ?_, ?_, ?_, ?_, ?_, ?_⟩
      · intro L σ r h H locs ls hP hD hS hl
        rw [x_measured] at h
        refine lv_iconst (v := 1) hx hb dX12_measured_0 (by decide) ?_
        refine lv_istore_n (lv' := [(2, .int 1), (0, .ref (a 0)), (1, .int (L 1))]) hx hb dX12_measured_1 rfl hl (by decide) rfl (fun ls hl => ?_)
        refine lv_iconst (v := 0) hx hb dX12_measured_2 (by decide) ?_
        refine lv_istore_n (lv' := [(3, .int 0), (2, .int 1), (0, .ref (a 0)), (1, .int (L 1))]) hx hb dX12_measured_3 rfl hl (by decide) rfl (fun ls hl => ?_)
        refine lv_aload_n hx hb dX12_measured_4 rfl (lv_at hl 2 rfl) ?_
        refine va_get (D := (dC, dI)) (ci := 11) (v := .ref (a 28)) (C := RX12) (T := TX12) (N := 121) hx hb hts in_x_measured hown hK hP 0 rfl rfl 53 (by decide) (hts _ (List.mem_cons_of_mem _ (List.mem_append_left _ (List.mem_append_left _ (List.mem_of_getElem? (i := 0) rfl))))) (fun _ h9 => h9) rfl dX12_measured_5 ?_
        refine lv_iload_n hx hb dX12_measured_8 rfl (lv_at hl 3 rfl) ?_
        refine lv_iconst (v := 1) hx hb dX12_measured_9 (by decide) ?_
        refine lv_iadd hx hb dX12_measured_10 ?_
        by_cases q1 : ¬ (((((L 1)) + 1)) < 0 ∨ 1740000 ≤ ((((L 1)) + 1)).toNatClampNeg)
        · rw [if_pos q1] at h
          refine va_iald hx hb hK hP 28 1 rfl rfl (nb_inp q1) dX12_measured_11 ?_
          refine lv_istore (lv' := [(4, .int (σ.2.2 28 ((((L 1)) + 1)).toNatClampNeg)), (3, .int 0), (2, .int 1), (0, .ref (a 0)), (1, .int (L 1))]) hx hb dX12_measured_12 hl (by decide) rfl (fun ls hl => ?_)
          refine lv_iconst (v := 0) hx hb dX12_measured_14 (by decide) ?_
          refine lv_istore (lv' := [(5, .int 0), (4, .int (σ.2.2 28 ((((L 1)) + 1)).toNatClampNeg)), (3, .int 0), (2, .int 1), (0, .ref (a 0)), (1, .int (L 1))]) hx hb dX12_measured_15 hl (by decide) rfl (fun ls hl => ?_)
          exact ih.2.1 (upd (upd (upd (upd L 2 1) 3 0) 4 ((σ.2.2 28 ((((L 1)) + 1)).toNatClampNeg))) 5 0) σ r h H locs ls hP hD hS (lv_sub hl [4, 5, 3, 2, 1, 0] rfl)
        · rw [if_neg q1] at h; cases h
      · intro L σ r h H locs ls hP hD hS hl
        rw [x_measured] at h
        refine lv_iload hx hb dX12_measured_17 (lv_at hl 5 rfl) ?_
        refine lv_iload hx hb dX12_measured_19 (lv_at hl 4 rfl) ?_
        refine lv_icmp_ge (tgt := 73) hx hb dX12_measured_21 (by decide) (fun c1 => ?_) (fun c1 => ?_)
        · rw [if_pos c1] at h
          exact ih.2.2.2.2.1 L σ r h H locs ls hP hD hS (lv_sub hl [0, 1, 2, 3, 4, 5] rfl)
        · rw [if_neg c1] at h
          refine lv_aload_n hx hb dX12_measured_24 rfl (lv_at hl 0 rfl) ?_
          refine va_get (D := (dC, dI)) (ci := 11) (v := .ref (a 28)) (C := RX12) (T := TX12) (N := 121) hx hb hts in_x_measured hown hK hP 0 rfl rfl 53 (by decide) (hts _ (List.mem_cons_of_mem _ (List.mem_append_left _ (List.mem_append_left _ (List.mem_of_getElem? (i := 0) rfl))))) (fun _ h9 => h9) rfl dX12_measured_25 ?_
          refine lv_iload_n hx hb dX12_measured_28 rfl (lv_at hl 1 rfl) ?_
          refine lv_iconst (v := 4) hx hb dX12_measured_29 (by decide) ?_
          refine lv_iadd hx hb dX12_measured_30 ?_
          refine lv_iload hx hb dX12_measured_31 (lv_at hl 5 rfl) ?_
          refine lv_iadd hx hb dX12_measured_33 ?_
          by_cases q2 : ¬ (((((((L 1)) + 4)) + ((L 5)))) < 0 ∨ 1740000 ≤ ((((((L 1)) + 4)) + ((L 5)))).toNatClampNeg)
          · rw [if_pos q2] at h
            refine va_iald hx hb hK hP 28 1 rfl rfl (nb_inp q2) dX12_measured_34 ?_
            refine lv_istore (lv' := [(6, .int (σ.2.2 28 ((((((L 1)) + 4)) + ((L 5)))).toNatClampNeg)), (0, .ref (a 0)), (1, .int (L 1)), (2, .int (L 2)), (3, .int (L 3)), (4, .int (L 4)), (5, .int (L 5))]) hx hb dX12_measured_35 hl (by decide) rfl (fun ls hl => ?_)
            refine lv_iload_n hx hb dX12_measured_37 rfl (lv_at hl 3 rfl) ?_
            refine lv_aload_n hx hb dX12_measured_38 rfl (lv_at hl 1 rfl) ?_
            refine lv_iload hx hb dX12_measured_39 (lv_at hl 0 rfl) ?_
            cases hc3 : x_size k 0 (upd (fun _ => 0) 1 ((σ.2.2 28 ((((((L 1)) + 4)) + ((L 5)))).toNatClampNeg))) σ with
            | none => rw [hc3, ob_none] at h; cases h
            | some r3 =>
              rw [hc3, ob_some] at h
              have hFc := va_free (wc := vM cy a σ) hD hS hA [0, 1, 2, 3, 4, 5, 6, 7, 8, 9, 10, 11, 12, 13, 14, 15, 16, 17, 18, 19, 20, 21, 22, 23, 24, 25, 26, 27, 28, 29, 30, 31, 32, 33, 34, 35, 36, 37, 38, 39, 40, 41, 42, 43, 44, 45, 46, 47, 48, 49, 50, 51, 52, 53, 54, 55, 56, 57] rfl
              refine va_calli (va_runV (As := [.int (σ.2.2 28 ((((((L 1)) + 4)) + ((L 5)))).toNatClampNeg)]) (rest := [.int (L 2)]) ⟨hx, hb, hml, hown, hts⟩ (c_x_size l dC dI cy a k (upd (fun _ => 0) 1 ((σ.2.2 28 ((((((L 1)) + 4)) + ((L 5)))).toNatClampNeg))) σ r3 hc3 H.size) (cwV 1 hts g_x_measured_size_432 rfl rfl rfl (by decide +kernel) ⟨Nat.le_of_ble_eq_true rfl, Nat.le_of_ble_eq_true rfl⟩) ⟨nb_blind, va_recv hK hP (ci := 11) (q0 := 0) rfl rfl, fun U hU hW => ⟨rfl, by rw [hU], by rw [hU]; exact hP, va_K.moved hW.alike hK, hD.weaken (fun _ _ _ _ => trivial), hG.warm hW⟩⟩ rfl rfl hl.1 rfl (lv_room (Nat.le_of_ble_eq_true rfl)) dX12_measured_41 ⟨Nat.le_of_ble_eq_true rfl, Nat.le_of_ble_eq_true rfl⟩) hS (fun q _ h => hFc q h) hFc (fun z9 _ t H1 locs ht hvm hw hB hz1 hk1 hS => ?_)
              subst hw
              obtain ⟨hP1, hK1, hD1⟩ := hB
              rw [ht] at hP1
              obtain ⟨hP, hD⟩ := va_join (wr := []) (w1 := vM cy a r3.2) hP hD [0, 1, 2, 3, 4, 5, 6, 7, 8, 9, 10, 11, 12, 13, 14, 15, 16, 17, 18, 19, 20, 21, 22, 23, 24, 25, 26, 27, 28, 29, 30, 31, 32, 33, 34, 35, 36, 37, 38, 39, 40, 41, 42, 43, 44, 45, 46, 47, 48, 49, 50, 51, 52, 53, 54, 55, 56, 57] [] rfl rfl (by decide) (by decide) hk1 hFc hP1 hD1
              generalize H1 = H at hP hS ⊢
              have hP : va_P (dC, dI) nCl (vM cy a r3.2) H := hP
              have hD : va_D A (vM cy a r3.2) := hD
              refine lv_iadd hx hb dX12_measured_44 ?_
              refine lv_istore_n (lv' := [(2, .int (((L 2)) + r3.1)), (6, .int (σ.2.2 28 ((((((L 1)) + 4)) + ((L 5)))).toNatClampNeg)), (0, .ref (a 0)), (1, .int (L 1)), (3, .int (L 3)), (4, .int (L 4)), (5, .int (L 5))]) hx hb dX12_measured_45 rfl hl (by decide) rfl (fun ls hl => ?_)
              refine lv_aload_n hx hb dX12_measured_46 rfl (lv_at hl 2 rfl) ?_
              refine lv_iload hx hb dX12_measured_47 (lv_at hl 1 rfl) ?_
              cases hc4 : x_height k 0 (upd (fun _ => 0) 1 ((σ.2.2 28 ((((((L 1)) + 4)) + ((L 5)))).toNatClampNeg))) r3.2 with
              | none => rw [hc4, ob_none] at h; cases h
              | some r4 =>
                rw [hc4, ob_some] at h
                have hFc := va_free (wc := vM cy a r3.2) hD hS hA [0, 1, 2, 3, 4, 5, 6, 7, 8, 9, 10, 11, 12, 13, 14, 15, 16, 17, 18, 19, 20, 21, 22, 23, 24, 25, 26, 27, 28, 29, 30, 31, 32, 33, 34, 35, 36, 37, 38, 39, 40, 41, 42, 43, 44, 45, 46, 47, 48, 49, 50, 51, 52, 53, 54, 55, 56, 57] rfl
                refine va_calli (va_runV (As := [.int (σ.2.2 28 ((((((L 1)) + 4)) + ((L 5)))).toNatClampNeg)]) (rest := []) ⟨hx, hb, hml, hown, hts⟩ (c_x_height l dC dI cy a k (upd (fun _ => 0) 1 ((σ.2.2 28 ((((((L 1)) + 4)) + ((L 5)))).toNatClampNeg))) r3.2 r4 hc4 H.size) (cwV 1 hts g_x_measured_height_435 rfl rfl rfl (by decide +kernel) ⟨Nat.le_of_ble_eq_true rfl, Nat.le_of_ble_eq_true rfl⟩) ⟨nb_blind, va_recv hK hP (ci := 11) (q0 := 0) rfl rfl, fun U hU hW => ⟨rfl, by rw [hU], by rw [hU]; exact hP, va_K.moved hW.alike hK, hD.weaken (fun _ _ _ _ => trivial), hG.warm hW⟩⟩ rfl rfl hl.1 rfl (lv_room (Nat.le_of_ble_eq_true rfl)) dX12_measured_49 ⟨Nat.le_of_ble_eq_true rfl, Nat.le_of_ble_eq_true rfl⟩) hS (fun q _ h => hFc q h) hFc (fun z9 _ t H1 locs ht hvm hw hB hz1 hk1 hS => ?_)
                subst hw
                obtain ⟨hP1, hK1, hD1⟩ := hB
                rw [ht] at hP1
                obtain ⟨hP, hD⟩ := va_join (wr := []) (w1 := vM cy a r4.2) hP hD [0, 1, 2, 3, 4, 5, 6, 7, 8, 9, 10, 11, 12, 13, 14, 15, 16, 17, 18, 19, 20, 21, 22, 23, 24, 25, 26, 27, 28, 29, 30, 31, 32, 33, 34, 35, 36, 37, 38, 39, 40, 41, 42, 43, 44, 45, 46, 47, 48, 49, 50, 51, 52, 53, 54, 55, 56, 57] [] rfl rfl (by decide) (by decide) hk1 hFc hP1 hD1
                generalize H1 = H at hP hS ⊢
                have hP : va_P (dC, dI) nCl (vM cy a r4.2) H := hP
                have hD : va_D A (vM cy a r4.2) := hD
                refine lv_iload_n hx hb dX12_measured_52 rfl (lv_at hl 4 rfl) ?_
                refine lv_icmp_le (tgt := 65) hx hb dX12_measured_53 (by decide) (fun c5 => ?_) (fun c5 => ?_)
                · rw [if_pos c5] at h
                  exact ih.2.2.1 (upd (upd L 6 ((σ.2.2 28 ((((((L 1)) + 4)) + ((L 5)))).toNatClampNeg))) 2 ((((L 2)) + r3.1))) r4.2 r h H locs ls hP hD hS (lv_sub hl [2, 3, 0, 4, 5, 6, 1] rfl)
                · rw [if_neg c5] at h
                  refine lv_aload_n hx hb dX12_measured_56 rfl (lv_at hl 2 rfl) ?_
                  refine lv_iload hx hb dX12_measured_57 (lv_at hl 1 rfl) ?_
                  cases hc6 : x_height k 0 (upd (fun _ => 0) 1 ((σ.2.2 28 ((((((L 1)) + 4)) + ((L 5)))).toNatClampNeg))) r4.2 with
                  | none => rw [hc6, ob_none] at h; cases h
                  | some r6 =>
                    rw [hc6, ob_some] at h
                    have hFc := va_free (wc := vM cy a r4.2) hD hS hA [0, 1, 2, 3, 4, 5, 6, 7, 8, 9, 10, 11, 12, 13, 14, 15, 16, 17, 18, 19, 20, 21, 22, 23, 24, 25, 26, 27, 28, 29, 30, 31, 32, 33, 34, 35, 36, 37, 38, 39, 40, 41, 42, 43, 44, 45, 46, 47, 48, 49, 50, 51, 52, 53, 54, 55, 56, 57] rfl
                    refine va_calli (va_runV (As := [.int (σ.2.2 28 ((((((L 1)) + 4)) + ((L 5)))).toNatClampNeg)]) (rest := []) ⟨hx, hb, hml, hown, hts⟩ (c_x_height l dC dI cy a k (upd (fun _ => 0) 1 ((σ.2.2 28 ((((((L 1)) + 4)) + ((L 5)))).toNatClampNeg))) r4.2 r6 hc6 H.size) (cwV 1 hts g_x_measured_height_435 rfl rfl rfl (by decide +kernel) ⟨Nat.le_of_ble_eq_true rfl, Nat.le_of_ble_eq_true rfl⟩) ⟨nb_blind, va_recv hK hP (ci := 11) (q0 := 0) rfl rfl, fun U hU hW => ⟨rfl, by rw [hU], by rw [hU]; exact hP, va_K.moved hW.alike hK, hD.weaken (fun _ _ _ _ => trivial), hG.warm hW⟩⟩ rfl rfl hl.1 rfl (lv_room (Nat.le_of_ble_eq_true rfl)) dX12_measured_59 ⟨Nat.le_of_ble_eq_true rfl, Nat.le_of_ble_eq_true rfl⟩) hS (fun q _ h => hFc q h) hFc (fun z9 _ t H1 locs ht hvm hw hB hz1 hk1 hS => ?_)
                    subst hw
                    obtain ⟨hP1, hK1, hD1⟩ := hB
                    rw [ht] at hP1
                    obtain ⟨hP, hD⟩ := va_join (wr := []) (w1 := vM cy a r6.2) hP hD [0, 1, 2, 3, 4, 5, 6, 7, 8, 9, 10, 11, 12, 13, 14, 15, 16, 17, 18, 19, 20, 21, 22, 23, 24, 25, 26, 27, 28, 29, 30, 31, 32, 33, 34, 35, 36, 37, 38, 39, 40, 41, 42, 43, 44, 45, 46, 47, 48, 49, 50, 51, 52, 53, 54, 55, 56, 57] [] rfl rfl (by decide) (by decide) hk1 hFc hP1 hD1
                    generalize H1 = H at hP hS ⊢
                    have hP : va_P (dC, dI) nCl (vM cy a r6.2) H := hP
                    have hD : va_D A (vM cy a r6.2) := hD
                    refine lv_goto (tgt := 66) hx hb dX12_measured_62 (by decide) ?_
                    exact ih.2.2.2.1 (upd (upd (upd L 6 ((σ.2.2 28 ((((((L 1)) + 4)) + ((L 5)))).toNatClampNeg))) 2 ((((L 2)) + r3.1))) 100 r6.1) r6.2 r h H locs ls hP hD hS (lv_sub hl [2, 3, 0, 4, 5, 6, 1] rfl)
          · rw [if_neg q2] at h; cases h
      · intro L σ r h H locs ls hP hD hS hl
        rw [x_measured] at h
        refine lv_iload_n hx hb dX12_measured_65 rfl (lv_at hl 3 rfl) ?_
        exact ih.2.2.2.1 (upd L 100 ((L 3))) σ r h H locs ls hP hD hS (lv_sub hl [0, 1, 2, 3, 4, 5, 6] rfl)
      · intro L σ r h H locs ls hP hD hS hl
        rw [x_measured] at h
        refine lv_istore_n (lv' := [(3, .int (L 100)), (0, .ref (a 0)), (1, .int (L 1)), (2, .int (L 2)), (4, .int (L 4)), (5, .int (L 5)), (6, .int (L 6))]) hx hb dX12_measured_66 rfl hl (by decide) rfl (fun ls hl => ?_)
        refine lv_iinc (v := ((L 5)) + 1) (lv' := [(5, .int (((L 5)) + 1)), (3, .int (L 100)), (0, .ref (a 0)), (1, .int (L 1)), (2, .int (L 2)), (4, .int (L 4)), (6, .int (L 6))]) hx hb dX12_measured_67 hl (k := 5) rfl rfl (by decide) rfl (fun ls hl => ?_)
        refine lv_goto (tgt := 17) hx hb dX12_measured_70 (by decide) ?_
        exact ih.2.1 (upd (upd L 3 ((L 100))) 5 (((L 5)) + 1)) σ r h H locs ls hP hD hS (lv_sub hl [2, 3, 4, 1, 5, 0] rfl)
      · intro L σ r h H locs ls hP hD hS hl
        rw [x_measured] at h
        refine lv_aload_n hx hb dX12_measured_73 rfl (lv_at hl 0 rfl) ?_
        refine va_get (D := (dC, dI)) (ci := 11) (v := .ref (a 28)) (C := RX12) (T := TX12) (N := 121) hx hb hts in_x_measured hown hK hP 0 rfl rfl 53 (by decide) (hts _ (List.mem_cons_of_mem _ (List.mem_append_left _ (List.mem_append_left _ (List.mem_of_getElem? (i := 0) rfl))))) (fun _ h9 => h9) rfl dX12_measured_74 ?_
        refine lv_iload_n hx hb dX12_measured_77 rfl (lv_at hl 1 rfl) ?_
        refine lv_iconst (v := 2) hx hb dX12_measured_78 (by decide) ?_
        refine lv_iadd hx hb dX12_measured_79 ?_
        refine lv_iload_n hx hb dX12_measured_80 rfl (lv_at hl 2 rfl) ?_
        by_cases q1 : ¬ (((((L 1)) + 2)) < 0 ∨ 1740000 ≤ ((((L 1)) + 2)).toNatClampNeg)
        · rw [if_pos q1] at h
          refine va_iast hx hb hK hP hD hS 28 1 rfl rfl (nb_inp q1) dX12_measured_81 (fun H locs hP hD hS => ?_)
          have hP : va_P (dC, dI) nCl (vM cy a (σ.1, σ.2.1, updG σ.2.2 28 (upd (σ.2.2 28) ((((L 1)) + 2)).toNatClampNeg ((L 2))))) H := hP
          have hD : va_D A (vM cy a (σ.1, σ.2.1, updG σ.2.2 28 (upd (σ.2.2 28) ((((L 1)) + 2)).toNatClampNeg ((L 2))))) := hD
          exact ih.2.2.2.2.2.1 L (σ.1, σ.2.1, updG σ.2.2 28 (upd (σ.2.2 28) ((((L 1)) + 2)).toNatClampNeg ((L 2)))) r h H locs ls hP hD hS (lv_sub hl [0, 1, 2, 3, 4, 5] rfl)
        · rw [if_neg q1] at h; cases h
      · intro L σ r h H locs ls hP hD hS hl
        rw [x_measured] at h
        refine lv_aload_n hx hb dX12_measured_82 rfl (lv_at hl 0 rfl) ?_
        refine va_get (D := (dC, dI)) (ci := 11) (v := .ref (a 28)) (C := RX12) (T := TX12) (N := 121) hx hb hts in_x_measured hown hK hP 0 rfl rfl 53 (by decide) (hts _ (List.mem_cons_of_mem _ (List.mem_append_left _ (List.mem_append_left _ (List.mem_of_getElem? (i := 0) rfl))))) (fun _ h9 => h9) rfl dX12_measured_83 ?_
        refine lv_iload_n hx hb dX12_measured_86 rfl (lv_at hl 1 rfl) ?_
        refine lv_iconst (v := 3) hx hb dX12_measured_87 (by decide) ?_
        refine lv_iadd hx hb dX12_measured_88 ?_
        refine lv_iload_n hx hb dX12_measured_89 rfl (lv_at hl 3 rfl) ?_
        refine lv_iconst (v := 1) hx hb dX12_measured_90 (by decide) ?_
        refine lv_iadd hx hb dX12_measured_91 ?_
        by_cases q1 : ¬ (((((L 1)) + 3)) < 0 ∨ 1740000 ≤ ((((L 1)) + 3)).toNatClampNeg)
        · rw [if_pos q1] at h
          refine va_iast hx hb hK hP hD hS 28 1 rfl rfl (nb_inp q1) dX12_measured_92 (fun H locs hP hD hS => ?_)
          have hP : va_P (dC, dI) nCl (vM cy a (σ.1, σ.2.1, updG σ.2.2 28 (upd (σ.2.2 28) ((((L 1)) + 3)).toNatClampNeg ((((L 3)) + 1))))) H := hP
          have hD : va_D A (vM cy a (σ.1, σ.2.1, updG σ.2.2 28 (upd (σ.2.2 28) ((((L 1)) + 3)).toNatClampNeg ((((L 3)) + 1))))) := hD
          exact ih.2.2.2.2.2.2 L (σ.1, σ.2.1, updG σ.2.2 28 (upd (σ.2.2 28) ((((L 1)) + 3)).toNatClampNeg ((((L 3)) + 1)))) r h H locs ls hP hD hS (lv_sub hl [0, 1, 2, 3, 4, 5] rfl)
        · rw [if_neg q1] at h; cases h
      · intro L σ r h H locs ls hP hD hS hl
        rw [x_measured] at h
        refine lv_aload_n hx hb dX12_measured_93 rfl (lv_at hl 0 rfl) ?_
        refine lv_iload_n hx hb dX12_measured_94 rfl (lv_at hl 1 rfl) ?_
        cases hc1 : x_checked k 0 (upd (fun _ => 0) 1 ((L 1))) σ with
        | none => rw [hc1, ob_none] at h; cases h
        | some r1 =>
          rw [hc1, ob_some] at h
          have hFc := va_free (wc := vM cy a σ) hD hS hA [0, 1, 2, 3, 4, 5, 6, 7, 8, 9, 10, 11, 12, 13, 14, 15, 16, 17, 18, 19, 20, 21, 22, 23, 24, 25, 26, 27, 28, 29, 30, 31, 32, 33, 34, 35, 36, 37, 38, 39, 40, 41, 42, 43, 44, 45, 46, 47, 48, 49, 50, 51, 52, 53, 54, 55, 56, 57] rfl
          refine va_calli (va_runV (As := [.int (L 1)]) (rest := []) ⟨hx, hb, hml, hown, hts⟩ (c_x_checked l dC dI cy a k (upd (fun _ => 0) 1 ((L 1))) σ r1 hc1 H.size) (cwV 1 hts g_x_measured_checked_438 rfl rfl rfl (by decide +kernel) ⟨Nat.le_of_ble_eq_true rfl, Nat.le_of_ble_eq_true rfl⟩) ⟨nb_blind, va_recv hK hP (ci := 11) (q0 := 0) rfl rfl, fun U hU hW => ⟨rfl, by rw [hU], by rw [hU]; exact hP, va_K.moved hW.alike hK, hD.weaken (fun _ _ _ _ => trivial), hG.warm hW⟩⟩ rfl rfl hl.1 rfl (lv_room (Nat.le_of_ble_eq_true rfl)) dX12_measured_95 ⟨Nat.le_of_ble_eq_true rfl, Nat.le_of_ble_eq_true rfl⟩) hS (fun q _ h => hFc q h) hFc (fun z9 _ t H1 locs ht hvm hw hB hz1 hk1 hS => ?_)
          subst hw
          obtain ⟨hP1, hK1, hD1⟩ := hB
          rw [ht] at hP1
          obtain ⟨hP, hD⟩ := va_join (wr := []) (w1 := vM cy a r1.2) hP hD [0, 1, 2, 3, 4, 5, 6, 7, 8, 9, 10, 11, 12, 13, 14, 15, 16, 17, 18, 19, 20, 21, 22, 23, 24, 25, 26, 27, 28, 29, 30, 31, 32, 33, 34, 35, 36, 37, 38, 39, 40, 41, 42, 43, 44, 45, 46, 47, 48, 49, 50, 51, 52, 53, 54, 55, 56, 57] [] rfl rfl (by decide) (by decide) hk1 hFc hP1 hD1
          generalize H1 = H at hP hS ⊢
          have hP : va_P (dC, dI) nCl (vM cy a r1.2) H := hP
          have hD : va_D A (vM cy a r1.2) := hD
          cases h
          exact W.iret (v := r1.1) hx hb hr (fun t ht hW => ⟨⟨r1.1, (), rfl, rfl, by rw [ht]; exact hP, va_K.moved hW.alike hK, hD⟩, hS.F ht⟩) hS.2.2 dX12_measured_98
  exact (blk k0).1 L0 σ0 r0 h0 s.heap [] ls hP hD hS hl
